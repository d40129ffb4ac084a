/-! THE FUNCTIONS: written by program: each method comes to its function. -/
section Fn14
variable {L : Nat} {xs : Nat → Int32} {d : Nat} {S : mz_S} {R : Nat → Nat → Option Nat} {Q : mz_Q} {N : mz_N} {b : Bool} {t : Nat}
/-! 287 KeptHouse.state (I)I -/
theorem ms_287_0 : mz_sf mk_287 0 = mk_287 := mz_sf_zero _
theorem ms_287_76 : mz_sf mk_287 76 = mt_287_76 := mz_sf_add ms_287_0 (t := 76) rfl rfl
theorem ms_287_84 : mz_sf mk_287 84 = mt_287_84 := mz_sf_add ms_287_76 (t := 8) rfl rfl
theorem ms_287_92 : mz_sf mk_287 92 = mt_287_92 := mz_sf_add ms_287_84 (t := 8) rfl rfl
theorem ms_287_100 : mz_sf mk_287 100 = mt_287_100 := mz_sf_add ms_287_92 (t := 8) rfl rfl
theorem ms_287_114 : mz_sf mk_287 114 = mt_287_114 := mz_sf_add ms_287_100 (t := 14) rfl rfl
theorem ms_287_115 : mz_sf mk_287 115 = mt_287_115 := mz_sf_add ms_287_114 (t := 1) rfl rfl
theorem ms_287_116 : mz_sf mk_287 116 = mt_287_116 := mz_sf_add ms_287_115 (t := 1) rfl rfl
theorem ms_287_124 : mz_sf mk_287 124 = mt_287_124 := mz_sf_add ms_287_116 (t := 8) rfl rfl
theorem ms_287_132 : mz_sf mk_287 132 = mt_287_132 := mz_sf_add ms_287_124 (t := 8) rfl rfl
theorem ms_287_140 : mz_sf mk_287 140 = mt_287_140 := mz_sf_add ms_287_132 (t := 8) rfl rfl
theorem ms_287_154 : mz_sf mk_287 154 = mt_287_154 := mz_sf_add ms_287_140 (t := 14) rfl rfl
theorem ms_287_155 : mz_sf mk_287 155 = mt_287_155 := mz_sf_add ms_287_154 (t := 1) rfl rfl
theorem ms_287_156 : mz_sf mk_287 156 = mt_287_156 := mz_sf_add ms_287_155 (t := 1) rfl rfl
theorem ms_287_170 : mz_sf mk_287 170 = mt_287_170 := mz_sf_add ms_287_156 (t := 14) rfl rfl
theorem ms_287_171 : mz_sf mk_287 171 = mt_287_171 := mz_sf_add ms_287_170 (t := 1) rfl rfl
theorem ms_287_172 : mz_sf mk_287 172 = mt_287_172 := mz_sf_add ms_287_171 (t := 1) rfl rfl
set_option maxRecDepth 100000 in
theorem mzq_287 : mz_PG0 287 = some (11, ⟨"KeptHouse", "state", "(I)I"⟩, prog_1_method_36_code, 2, some .int, [], mk_287, []) := rfl
theorem cg_287_0 (hd : 1 ≤ d) (hS : mz_ext S 232) (hR : mz_rok R 232)  (v1 : Int32) (N : mz_N) {C0 : (Nat × Int32) → Prop} (hr : ∀ (w : Int32), C0 (0, w) → Q (.inl (some (.int w))) (mz_k S R N b t)) (ht : ∀ (c : Nat) (w : Int32), ¬ c = 0 → C0 (c, w) → Q (.inr (c - 1)) (mz_k S R N b (t + 1))) (h1000 : t < 1000) (hp : cp_287_0 v1 N) (hC : C0 (cf_287_0 v1 N)) : mz_G (d, mz_X0 L xs, some .int, [], mk_287, 2, Q) 0 mk_287 [(0, .ref 0), (1, .int v1)] [] true (mz_k S R N b t) := by
  unfold cf_287_0 at hC
  unfold cp_287_0 at hp
  refine g_aload_n rfl ?_
  obtain ⟨h1, hp⟩ := hp
  refine g_v1nt (Nat.le_of_ble_eq_true rfl) (mz_at hS (Nat.le_of_ble_eq_true rfl) mzcS_0) rfl (fun _ h0 h1 => cs_104 (Nat.le_trans (Nat.le_of_ble_eq_true rfl) hd) (hS.le (Nat.le_of_ble_eq_true rfl)) (hR.le (Nat.le_of_ble_eq_true rfl))  N h1 h1000 h0 h1) hC (fun h20 hC => ?_) (fun h20 hC => ?_)
  · have hp := hp.1 h20
    refine g_iload_n rfl (g_iconst mzi_0 (g_bipush mzb_10 ?_))
    obtain ⟨h2, hp⟩ := hp
    refine g_s3nt (Nat.le_of_ble_eq_true rfl) rfl (fun _ h0 h1 => cs_105 (Nat.le_trans (Nat.le_of_ble_eq_true rfl) hd) (hS.le (Nat.le_of_ble_eq_true rfl)) (hR.le (Nat.le_of_ble_eq_true rfl))  v1 0 10 h2 h1000 h0 h1) hC (fun h19 hC => ?_) (fun h19 hC => ?_)
    · have hp := hp.1 h19
      refine g_iload_n rfl ?_
      refine mz_cs hC (fun h3 hC => ?_) (fun h3 hC => ?_)
      · have hp := hp.1 h3
        refine g_brn (tg := 68) (by rw [h3]; rfl) (by decide) rfl ?_
        refine g_aload_n rfl (g_getR (mz_at hS (Nat.le_of_ble_eq_true rfl) mzcS_0) mzcf_11_3 (mz_rb hR (Nat.le_of_ble_eq_true rfl) rfl mzcR_0_3) (g_getI (mz_at hS (Nat.le_of_ble_eq_true rfl) mzcS_56) mzcf_9_1 ?_))
        exact g_iret rfl (hr _ hC)
      · have hp := hp.2 h3
        refine mz_cs hC (fun h4 hC => ?_) (fun h4 hC => ?_)
        · have hp := hp.1 h4
          refine g_br (tg := 76) (by rw [h4]; rfl) ms_287_76 ?_
          refine g_aload_n rfl (g_getR (mz_at hS (Nat.le_of_ble_eq_true rfl) mzcS_0) mzcf_11_3 (mz_rb hR (Nat.le_of_ble_eq_true rfl) rfl mzcR_0_3) (g_getI (mz_at hS (Nat.le_of_ble_eq_true rfl) mzcS_56) mzcf_9_2 ?_))
          exact g_iret rfl (hr _ hC)
        · have hp := hp.2 h4
          refine mz_cs hC (fun h5 hC => ?_) (fun h5 hC => ?_)
          · have hp := hp.1 h5
            refine g_br (tg := 84) (by rw [h5]; rfl) ms_287_84 ?_
            refine g_aload_n rfl (g_getR (mz_at hS (Nat.le_of_ble_eq_true rfl) mzcS_0) mzcf_11_3 (mz_rb hR (Nat.le_of_ble_eq_true rfl) rfl mzcR_0_3) (g_getI (mz_at hS (Nat.le_of_ble_eq_true rfl) mzcS_56) mzcf_9_3 ?_))
            exact g_iret rfl (hr _ hC)
          · have hp := hp.2 h5
            refine mz_cs hC (fun h6 hC => ?_) (fun h6 hC => ?_)
            · have hp := hp.1 h6
              refine g_br (tg := 92) (by rw [h6]; rfl) ms_287_92 ?_
              refine g_aload_n rfl (g_getR (mz_at hS (Nat.le_of_ble_eq_true rfl) mzcS_0) mzcf_11_3 (mz_rb hR (Nat.le_of_ble_eq_true rfl) rfl mzcR_0_3) (g_getI (mz_at hS (Nat.le_of_ble_eq_true rfl) mzcS_56) mzcf_9_7 ?_))
              exact g_iret rfl (hr _ hC)
            · have hp := hp.2 h6
              refine mz_cs hC (fun h7 hC => ?_) (fun h7 hC => ?_)
              · have hp := hp.1 h7
                refine g_br (tg := 100) (by rw [h7]; rfl) ms_287_100 ?_
                refine g_aload_n rfl (g_getR (mz_at hS (Nat.le_of_ble_eq_true rfl) mzcS_0) mzcf_11_3 (mz_rb hR (Nat.le_of_ble_eq_true rfl) rfl mzcR_0_3) ?_)
                have h17 := hp
                refine g_getZ (mz_at hS (Nat.le_of_ble_eq_true rfl) mzcS_56) mzcf_9_8 h17 ?_
                refine g_zeq (tg := 114) rfl ms_287_114 hC (fun h18 hC => ?_) (fun h18 hC => ?_)
                · refine g_iconst mzi_1 (g_goto (tg := 115) rfl ms_287_115 ?_)
                  exact g_iret rfl (hr _ hC)
                · refine g_iconst mzi_0 ?_
                  exact g_iret rfl (hr _ hC)
              · have hp := hp.2 h7
                refine mz_cs hC (fun h8 hC => ?_) (fun h8 hC => ?_)
                · have hp := hp.1 h8
                  refine g_br (tg := 116) (by rw [h8]; rfl) ms_287_116 ?_
                  refine g_aload_n rfl (g_getR (mz_at hS (Nat.le_of_ble_eq_true rfl) mzcS_0) mzcf_11_3 (mz_rb hR (Nat.le_of_ble_eq_true rfl) rfl mzcR_0_3) (g_getI (mz_at hS (Nat.le_of_ble_eq_true rfl) mzcS_56) mzcf_9_11 ?_))
                  exact g_iret rfl (hr _ hC)
                · have hp := hp.2 h8
                  refine mz_cs hC (fun h9 hC => ?_) (fun h9 hC => ?_)
                  · have hp := hp.1 h9
                    refine g_br (tg := 124) (by rw [h9]; rfl) ms_287_124 ?_
                    refine g_aload_n rfl (g_getR (mz_at hS (Nat.le_of_ble_eq_true rfl) mzcS_0) mzcf_11_3 (mz_rb hR (Nat.le_of_ble_eq_true rfl) rfl mzcR_0_3) (g_getI (mz_at hS (Nat.le_of_ble_eq_true rfl) mzcS_56) mzcf_9_12 ?_))
                    exact g_iret rfl (hr _ hC)
                  · have hp := hp.2 h9
                    refine mz_cs hC (fun h10 hC => ?_) (fun h10 hC => ?_)
                    · have hp := hp.1 h10
                      refine g_br (tg := 132) (by rw [h10]; rfl) ms_287_132 ?_
                      refine g_aload_n rfl (g_getR (mz_at hS (Nat.le_of_ble_eq_true rfl) mzcS_0) mzcf_11_3 (mz_rb hR (Nat.le_of_ble_eq_true rfl) rfl mzcR_0_3) (g_getI (mz_at hS (Nat.le_of_ble_eq_true rfl) mzcS_56) mzcf_9_13 ?_))
                      exact g_iret rfl (hr _ hC)
                    · have hp := hp.2 h10
                      refine mz_cs hC (fun h11 hC => ?_) (fun h11 hC => ?_)
                      · have hp := hp.1 h11
                        refine g_br (tg := 140) (by rw [h11]; rfl) ms_287_140 ?_
                        refine g_aload_n rfl (g_getR (mz_at hS (Nat.le_of_ble_eq_true rfl) mzcS_0) mzcf_11_3 (mz_rb hR (Nat.le_of_ble_eq_true rfl) rfl mzcR_0_3) ?_)
                        have h15 := hp
                        refine g_getZ (mz_at hS (Nat.le_of_ble_eq_true rfl) mzcS_56) mzcf_9_9 h15 ?_
                        refine g_zeq (tg := 154) rfl ms_287_154 hC (fun h16 hC => ?_) (fun h16 hC => ?_)
                        · refine g_iconst mzi_1 (g_goto (tg := 155) rfl ms_287_155 ?_)
                          exact g_iret rfl (hr _ hC)
                        · refine g_iconst mzi_0 ?_
                          exact g_iret rfl (hr _ hC)
                      · have hp := hp.2 h11
                        refine mz_cs hC (fun h12 hC => ?_) (fun h12 hC => ?_)
                        · have hp := hp.1 h12
                          refine g_br (tg := 156) (by rw [h12]; rfl) ms_287_156 ?_
                          refine g_aload_n rfl (g_getR (mz_at hS (Nat.le_of_ble_eq_true rfl) mzcS_0) mzcf_11_3 (mz_rb hR (Nat.le_of_ble_eq_true rfl) rfl mzcR_0_3) ?_)
                          have h13 := hp
                          refine g_getZ (mz_at hS (Nat.le_of_ble_eq_true rfl) mzcS_56) mzcf_9_5 h13 ?_
                          refine g_zeq (tg := 170) rfl ms_287_170 hC (fun h14 hC => ?_) (fun h14 hC => ?_)
                          · refine g_iconst mzi_1 (g_goto (tg := 171) rfl ms_287_171 ?_)
                            exact g_iret rfl (hr _ hC)
                          · refine g_iconst mzi_0 ?_
                            exact g_iret rfl (hr _ hC)
                        · have hp := hp.2 h12
                          refine g_br (tg := 172) ((mz_tsw_d (l := [0, 1, 2, 3, 4, 5, 6, 7, 8, 9]) (mz_rng 0 9) ⟨h3, h4, h5, h6, h7, h8, h9, h10, h11, h12, trivial⟩).trans (mz_tg_t rfl)) ms_287_172 ?_
                          refine g_aload_n rfl (g_getR (mz_at hS (Nat.le_of_ble_eq_true rfl) mzcS_0) mzcf_11_8 (mz_rb hR (Nat.le_of_ble_eq_true rfl) rfl mzcR_0_8) (g_getI (mz_at hS (Nat.le_of_ble_eq_true rfl) mzcS_208) mzcf_1_0 ?_))
                          exact g_iret rfl (hr _ hC)
    · have hp := hp.2 h19
      exact ht _ _ h19 hC
  · have hp := hp.2 h20
    exact ht _ _ h20 hC
theorem cs_287 (hd : 2 ≤ d) (hS : mz_ext S 232) (hR : mz_rok R 232)  (v1 : Int32) (N : mz_N) (hp : cp_287_0 v1 N) (h1000 : t < 1000) (h0 : (cf_287_0 v1 N).1 = 0 → Q (.inl (some (.int ((cf_287_0 v1 N).2)))) (mz_k S R N b t)) (h1 : ¬ (cf_287_0 v1 N).1 = 0 → Q (.inr (((cf_287_0 v1 N).1) - 1)) (mz_k S R N b (t + 1))) : mz_Ed (mz_X0 L xs) d 287 [.ref 0, .int v1] (mz_k S R N b t) Q :=
  by
  refine g_in mzq_287 (Nat.le_of_ble_eq_true rfl) (Nat.le_of_ble_eq_true rfl) (Nat.le_trans (Nat.le_of_ble_eq_true rfl) hd) ?_
  refine g_weak ?_ (cg_287_0 (d := d - 1) (by omega) hS hR v1 N (C0 := fun z => (z.1 = 0 → Q (.inl (some (.int z.2))) (mz_k S R N b t)) ∧ (¬ z.1 = 0 → Q (.inr (z.1 - 1)) (mz_k S R N b (t + 1)))) (fun _ h => h.1 rfl) (fun c _ hc h => h.2 hc) h1000 hp ⟨h0, h1⟩)
  exact ⟨rfl, rfl, trivial⟩
/-! 286 KeptHouseLaw.state (LKeptHouse;I[J)I -/
theorem ms_286_0 : mz_sf mk_286 0 = mk_286 := mz_sf_zero _
theorem ms_286_13 : mz_sf mk_286 13 = mt_286_13 := mz_sf_add ms_286_0 (t := 13) rfl rfl
theorem ms_286_16 : mz_sf mk_286 16 = mt_286_16 := mz_sf_add ms_286_13 (t := 3) rfl rfl
theorem ms_286_18 : mz_sf mk_286 18 = mt_286_18 := mz_sf_add ms_286_16 (t := 2) rfl rfl
set_option maxRecDepth 100000 in
theorem mzq_286 : mz_PG0 286 = some (13, ⟨"KeptHouseLaw", "state", "(LKeptHouse;I[J)I"⟩, method_32_code, 4, some .int, [(0, 9, 12, 13), (0, 9, 15, 15)], mk_286, [(0, 12, 13), (1, 15, 16)]) := rfl
theorem cg_286_0 (hd : 2 ≤ d) (hS : mz_ext S 343) (hR : mz_rok R 343)  (v1 : Int32) (N : mz_N) (t : Nat) {C0 : (Int32 × mz_N × Nat) → Prop} (hr : ∀ (w : Int32) (N2 : mz_N) (t2 : Nat), C0 (w, N2, t2) → Q (.inl (some (.int w))) (mz_k S R N2 b t2)) (hp : cp_286_0 v1 N t) (hC : C0 (cf_286_0 v1 N t)) : mz_G (d, mz_X0 L xs, some .int, [(0, 12, 13), (1, 15, 16)], mk_286, 4, Q) 0 mk_286 [(0, .ref 0), (1, .int v1), (2, .ref 342)] [] true (mz_k S R N b t) := by
  unfold cf_286_0 at hC
  unfold cp_286_0 at hp
  refine g_aload_n rfl (g_iconst mzi_0 (g_aload_n rfl (g_iload_n rfl ?_)))
  obtain ⟨h1, hp⟩ := hp
  obtain ⟨h1000, hp⟩ := hp
  refine g_v2vh (Nat.le_of_ble_eq_true rfl) (mz_at hS (Nat.le_of_ble_eq_true rfl) mzcS_0) (fun _ h0 h1 => cs_287 (Nat.le_trans (Nat.le_of_ble_eq_true rfl) hd) (hS.le (Nat.le_of_ble_eq_true rfl)) (hR.le (Nat.le_of_ble_eq_true rfl))  v1 N h1 h1000 h0 h1) hC (fun h2 hC => ?_) (fun h2 hC => ?_)
  · have hp := hp.1 h2
    refine g_i2l (g_last (mz_at hS (Nat.le_of_ble_eq_true rfl) mzcS_342) (mz_ibd (by decide)) (g_goto (tg := 18) rfl ms_286_18 (g_iconst mzi_0 ?_)))
    exact g_iret rfl (hr _ _ _ hC)
  · have hp := hp.2 h2
    refine mz_cs hC (fun h6 hC => ?_) (fun h6 hC => ?_)
    · have hp := hp.1 h6
      refine ⟨(0, 12, 13), (by rw [h6]; rfl), ?_⟩
      show mz_G (d, mz_X0 L xs, some .int, [(0, 12, 13), (1, 15, 16)], mk_286, 4, Q) 13 (mz_sf mk_286 13) [] [] false (mz_k S R N b (t + 1))
      rw [ms_286_13]
      refine g_iconst mzi_1 ?_
      exact g_iret rfl (hr _ _ _ hC)
    · have hp := hp.2 h6
      have h4 := hp
      refine ⟨(1, 15, 16), (by rw [h4]; rfl), ?_⟩
      show mz_G (d, mz_X0 L xs, some .int, [(0, 12, 13), (1, 15, 16)], mk_286, 4, Q) 16 (mz_sf mk_286 16) [] [] false (mz_k S R N b (t + 1))
      rw [ms_286_16]
      refine g_iconst mzi_2 ?_
      exact g_iret rfl (hr _ _ _ hC)
theorem cs_286 (hd : 3 ≤ d) (hS : mz_ext S 343) (hR : mz_rok R 343)  (v1 : Int32) (N : mz_N) (t : Nat) (hp : cp_286_0 v1 N t) (hq : Q (.inl (some (.int ((cf_286_0 v1 N t).1)))) (mz_k S R ((cf_286_0 v1 N t).2.1) b ((cf_286_0 v1 N t).2.2))) : mz_Ed (mz_X0 L xs) d 286 [.ref 0, .int v1, .ref 342] (mz_k S R N b t) Q :=
  by
  refine g_in mzq_286 (Nat.le_of_ble_eq_true rfl) (Nat.le_of_ble_eq_true rfl) (Nat.le_trans (Nat.le_of_ble_eq_true rfl) hd) ?_
  refine g_weak ?_ (cg_286_0 (d := d - 1) (by omega) hS hR v1 N t (C0 := fun z => Q (.inl (some (.int z.1))) (mz_k S R z.2.1 b z.2.2)) (fun _ _ _ h => h) hp hq)
  exact ⟨rfl, rfl, rfl, trivial⟩
/-! 289 KeptHouse.cell (III)J -/
theorem ms_289_0 : mz_sf mk_289 0 = mk_289 := mz_sf_zero _
theorem ms_289_23 : mz_sf mk_289 23 = mt_289_23 := mz_sf_add ms_289_0 (t := 23) rfl rfl
theorem ms_289_79 : mz_sf mk_289 79 = mt_289_79 := mz_sf_add ms_289_23 (t := 56) rfl rfl
theorem ms_289_90 : mz_sf mk_289 90 = mt_289_90 := mz_sf_add ms_289_79 (t := 11) rfl rfl
theorem ms_289_101 : mz_sf mk_289 101 = mt_289_101 := mz_sf_add ms_289_90 (t := 11) rfl rfl
theorem ms_289_113 : mz_sf mk_289 113 = mt_289_113 := mz_sf_add ms_289_101 (t := 12) rfl rfl
theorem ms_289_125 : mz_sf mk_289 125 = mt_289_125 := mz_sf_add ms_289_113 (t := 12) rfl rfl
set_option maxRecDepth 100000 in
theorem mzq_289 : mz_PG0 289 = some (11, ⟨"KeptHouse", "cell", "(III)J"⟩, prog_1_method_37_code, 5, some .long, [], mk_289, []) := rfl
theorem cg_289_0 (hd : 1 ≤ d) (hS : mz_ext S 232) (hR : mz_rok R 232)  (v1 : Int32) (v2 : Int32) (v3 : Int32) (N : mz_N) {C0 : (Nat × Int64) → Prop} (hr : ∀ (w : Int64), C0 (0, w) → Q (.inl (some (.long w))) (mz_k S R N b t)) (ht : ∀ (c : Nat) (w : Int64), ¬ c = 0 → C0 (c, w) → Q (.inr (c - 1)) (mz_k S R N b (t + 1))) (h1000 : t < 1000) (hp : cp_289_0 v1 v2 v3 N) (hC : C0 (cf_289_0 v1 v2 v3 N)) : mz_G (d, mz_X0 L xs, some .long, [], mk_289, 5, Q) 0 mk_289 [(0, .ref 0), (1, .int v1), (2, .int v2), (3, .int v3)] [] true (mz_k S R N b t) := by
  unfold cf_289_0 at hC
  unfold cp_289_0 at hp
  refine g_aload_n rfl ?_
  obtain ⟨h1, hp⟩ := hp
  refine g_v1nt (Nat.le_of_ble_eq_true rfl) (mz_at hS (Nat.le_of_ble_eq_true rfl) mzcS_0) rfl (fun _ h0 h1 => cs_104 (Nat.le_trans (Nat.le_of_ble_eq_true rfl) hd) (hS.le (Nat.le_of_ble_eq_true rfl)) (hR.le (Nat.le_of_ble_eq_true rfl))  N h1 h1000 h0 h1) hC (fun h19 hC => ?_) (fun h19 hC => ?_)
  · have hp := hp.1 h19
    refine g_iload_n rfl (g_iconst mzi_0 (g_iconst mzi_4 ?_))
    obtain ⟨h2, hp⟩ := hp
    refine g_s3nt (Nat.le_of_ble_eq_true rfl) rfl (fun _ h0 h1 => cs_105 (Nat.le_trans (Nat.le_of_ble_eq_true rfl) hd) (hS.le (Nat.le_of_ble_eq_true rfl)) (hR.le (Nat.le_of_ble_eq_true rfl))  v1 0 4 h2 h1000 h0 h1) hC (fun h18 hC => ?_) (fun h18 hC => ?_)
    · have hp := hp.1 h18
      refine g_iload_n rfl (g_iconst mzi_0 (g_bipush mzb_47 ?_))
      obtain ⟨h3, hp⟩ := hp
      refine g_s3nt (Nat.le_of_ble_eq_true rfl) rfl (fun _ h0 h1 => cs_105 (Nat.le_trans (Nat.le_of_ble_eq_true rfl) hd) (hS.le (Nat.le_of_ble_eq_true rfl)) (hR.le (Nat.le_of_ble_eq_true rfl))  v2 0 47 h3 h1000 h0 h1) hC (fun h17 hC => ?_) (fun h17 hC => ?_)
      · have hp := hp.1 h17
        refine g_iload_n rfl (g_iconst mzi_0 (g_iconst mzi_5 ?_))
        obtain ⟨h4, hp⟩ := hp
        refine g_s3nt (Nat.le_of_ble_eq_true rfl) rfl (fun _ h0 h1 => cs_105 (Nat.le_trans (Nat.le_of_ble_eq_true rfl) hd) (hS.le (Nat.le_of_ble_eq_true rfl)) (hR.le (Nat.le_of_ble_eq_true rfl))  v3 0 5 h4 h1000 h0 h1) hC (fun h16 hC => ?_) (fun h16 hC => ?_)
        · have hp := hp.1 h16
          refine g_iload_n rfl (g_bipush mzb_48 (g_imul (g_iload_n rfl (g_iadd (g_istore (Nat.le_of_ble_eq_true rfl) rfl (g_iload_n rfl ?_))))))
          refine mz_cs hC (fun h5 hC => ?_) (fun h5 hC => ?_)
          · have hp := hp.1 h5
            refine g_brn (tg := 68) (by rw [h5]; rfl) (by decide) rfl ?_
            refine g_aload_n rfl (g_getR (mz_at hS (Nat.le_of_ble_eq_true rfl) mzcS_0) mzcf_11_4 (mz_rb hR (Nat.le_of_ble_eq_true rfl) rfl mzcR_0_4) (g_getR (mz_at hS (Nat.le_of_ble_eq_true rfl) mzcS_65) mzcf_3_2 (mz_rb hR (Nat.le_of_ble_eq_true rfl) rfl mzcR_65_2) (g_iload rfl ?_)))
            have h15 := hp
            refine g_lald (mz_at hS (Nat.le_of_ble_eq_true rfl) mzcS_68) h15 ?_
            exact g_lret rfl (hr _ hC)
          · have hp := hp.2 h5
            refine mz_cs hC (fun h6 hC => ?_) (fun h6 hC => ?_)
            · have hp := hp.1 h6
              refine g_br (tg := 79) (by rw [h6]; rfl) ms_289_79 ?_
              refine g_aload_n rfl (g_getR (mz_at hS (Nat.le_of_ble_eq_true rfl) mzcS_0) mzcf_11_4 (mz_rb hR (Nat.le_of_ble_eq_true rfl) rfl mzcR_0_4) (g_getR (mz_at hS (Nat.le_of_ble_eq_true rfl) mzcS_65) mzcf_3_3 (mz_rb hR (Nat.le_of_ble_eq_true rfl) rfl mzcR_65_3) (g_iload rfl ?_)))
              have h14 := hp
              refine g_lald (mz_at hS (Nat.le_of_ble_eq_true rfl) mzcS_69) h14 ?_
              exact g_lret rfl (hr _ hC)
            · have hp := hp.2 h6
              refine mz_cs hC (fun h7 hC => ?_) (fun h7 hC => ?_)
              · have hp := hp.1 h7
                refine g_br (tg := 90) (by rw [h7]; rfl) ms_289_90 ?_
                refine g_aload_n rfl (g_getR (mz_at hS (Nat.le_of_ble_eq_true rfl) mzcS_0) mzcf_11_4 (mz_rb hR (Nat.le_of_ble_eq_true rfl) rfl mzcR_0_4) (g_getR (mz_at hS (Nat.le_of_ble_eq_true rfl) mzcS_65) mzcf_3_4 (mz_rb hR (Nat.le_of_ble_eq_true rfl) rfl mzcR_65_4) (g_iload rfl ?_)))
                have h13 := hp
                refine g_lald (mz_at hS (Nat.le_of_ble_eq_true rfl) mzcS_70) h13 ?_
                exact g_lret rfl (hr _ hC)
              · have hp := hp.2 h7
                refine mz_cs hC (fun h8 hC => ?_) (fun h8 hC => ?_)
                · have hp := hp.1 h8
                  refine g_br (tg := 101) (by rw [h8]; rfl) ms_289_101 ?_
                  refine g_aload_n rfl (g_getR (mz_at hS (Nat.le_of_ble_eq_true rfl) mzcS_0) mzcf_11_4 (mz_rb hR (Nat.le_of_ble_eq_true rfl) rfl mzcR_0_4) (g_getR (mz_at hS (Nat.le_of_ble_eq_true rfl) mzcS_65) mzcf_3_6 (mz_rb hR (Nat.le_of_ble_eq_true rfl) rfl mzcR_65_6) (g_iload rfl ?_)))
                  have h12 := hp
                  refine g_iald hS.1 (mz_at hS (Nat.le_of_ble_eq_true rfl) mzcS_72) h12 (g_i2l ?_)
                  exact g_lret rfl (hr _ hC)
                · have hp := hp.2 h8
                  refine mz_cs hC (fun h9 hC => ?_) (fun h9 hC => ?_)
                  · have hp := hp.1 h9
                    refine g_br (tg := 113) (by rw [h9]; rfl) ms_289_113 ?_
                    refine g_aload_n rfl (g_getR (mz_at hS (Nat.le_of_ble_eq_true rfl) mzcS_0) mzcf_11_4 (mz_rb hR (Nat.le_of_ble_eq_true rfl) rfl mzcR_0_4) (g_getR (mz_at hS (Nat.le_of_ble_eq_true rfl) mzcS_65) mzcf_3_7 (mz_rb hR (Nat.le_of_ble_eq_true rfl) rfl mzcR_65_7) (g_iload rfl ?_)))
                    have h11 := hp
                    refine g_iald hS.1 (mz_at hS (Nat.le_of_ble_eq_true rfl) mzcS_73) h11 (g_i2l ?_)
                    exact g_lret rfl (hr _ hC)
                  · have hp := hp.2 h9
                    refine g_br (tg := 125) ((mz_tsw_d (l := [0, 1, 2, 3, 4]) (mz_rng 0 4) ⟨h5, h6, h7, h8, h9, trivial⟩).trans (mz_tg_t rfl)) ms_289_125 ?_
                    refine g_aload_n rfl (g_getR (mz_at hS (Nat.le_of_ble_eq_true rfl) mzcS_0) mzcf_11_4 (mz_rb hR (Nat.le_of_ble_eq_true rfl) rfl mzcR_0_4) (g_getR (mz_at hS (Nat.le_of_ble_eq_true rfl) mzcS_65) mzcf_3_5 (mz_rb hR (Nat.le_of_ble_eq_true rfl) rfl mzcR_65_5) (g_iload rfl ?_)))
                    have h10 := hp
                    refine g_lald (mz_at hS (Nat.le_of_ble_eq_true rfl) mzcS_71) h10 ?_
                    exact g_lret rfl (hr _ hC)
        · have hp := hp.2 h16
          exact ht _ _ h16 hC
      · have hp := hp.2 h17
        exact ht _ _ h17 hC
    · have hp := hp.2 h18
      exact ht _ _ h18 hC
  · have hp := hp.2 h19
    exact ht _ _ h19 hC
theorem cs_289 (hd : 2 ≤ d) (hS : mz_ext S 232) (hR : mz_rok R 232)  (v1 : Int32) (v2 : Int32) (v3 : Int32) (N : mz_N) (hp : cp_289_0 v1 v2 v3 N) (h1000 : t < 1000) (h0 : (cf_289_0 v1 v2 v3 N).1 = 0 → Q (.inl (some (.long ((cf_289_0 v1 v2 v3 N).2)))) (mz_k S R N b t)) (h1 : ¬ (cf_289_0 v1 v2 v3 N).1 = 0 → Q (.inr (((cf_289_0 v1 v2 v3 N).1) - 1)) (mz_k S R N b (t + 1))) : mz_Ed (mz_X0 L xs) d 289 [.ref 0, .int v1, .int v2, .int v3] (mz_k S R N b t) Q :=
  by
  refine g_in mzq_289 (Nat.le_of_ble_eq_true rfl) (Nat.le_of_ble_eq_true rfl) (Nat.le_trans (Nat.le_of_ble_eq_true rfl) hd) ?_
  refine g_weak ?_ (cg_289_0 (d := d - 1) (by omega) hS hR v1 v2 v3 N (C0 := fun z => (z.1 = 0 → Q (.inl (some (.long z.2))) (mz_k S R N b t)) ∧ (¬ z.1 = 0 → Q (.inr (z.1 - 1)) (mz_k S R N b (t + 1)))) (fun _ h => h.1 rfl) (fun c _ hc h => h.2 hc) h1000 hp ⟨h0, h1⟩)
  exact ⟨rfl, rfl, rfl, rfl, trivial⟩
/-! 288 KeptHouseLaw.cell (LKeptHouse;III[J)I -/
theorem ms_288_0 : mz_sf mk_288 0 = mk_288 := mz_sf_zero _
theorem ms_288_16 : mz_sf mk_288 16 = mt_288_16 := mz_sf_add ms_288_0 (t := 16) rfl rfl
theorem ms_288_20 : mz_sf mk_288 20 = mt_288_20 := mz_sf_add ms_288_16 (t := 4) rfl rfl
theorem ms_288_22 : mz_sf mk_288 22 = mt_288_22 := mz_sf_add ms_288_20 (t := 2) rfl rfl
set_option maxRecDepth 100000 in
theorem mzq_288 : mz_PG0 288 = some (13, ⟨"KeptHouseLaw", "cell", "(LKeptHouse;III[J)I"⟩, method_33_code, 6, some .int, [(0, 11, 14, 13), (0, 11, 18, 15)], mk_288, [(0, 14, 16), (1, 18, 20)]) := rfl
theorem cg_288_0 (hd : 2 ≤ d) (hS : mz_ext S 343) (hR : mz_rok R 343)  (v1 : Int32) (v2 : Int32) (v3 : Int32) (N : mz_N) (t : Nat) {C0 : (Int32 × mz_N × Nat) → Prop} (hr : ∀ (w : Int32) (N2 : mz_N) (t2 : Nat), C0 (w, N2, t2) → Q (.inl (some (.int w))) (mz_k S R N2 b t2)) (hp : cp_288_0 v1 v2 v3 N t) (hC : C0 (cf_288_0 v1 v2 v3 N t)) : mz_G (d, mz_X0 L xs, some .int, [(0, 14, 16), (1, 18, 20)], mk_288, 6, Q) 0 mk_288 [(0, .ref 0), (1, .int v1), (2, .int v2), (3, .int v3), (4, .ref 342)] [] true (mz_k S R N b t) := by
  unfold cf_288_0 at hC
  unfold cp_288_0 at hp
  refine g_aload rfl (g_iconst mzi_0 (g_aload_n rfl (g_iload_n rfl (g_iload_n rfl (g_iload_n rfl ?_)))))
  obtain ⟨h1, hp⟩ := hp
  obtain ⟨h1000, hp⟩ := hp
  refine g_v4vh (Nat.le_of_ble_eq_true rfl) (mz_at hS (Nat.le_of_ble_eq_true rfl) mzcS_0) (fun _ h0 h1 => cs_289 (Nat.le_trans (Nat.le_of_ble_eq_true rfl) hd) (hS.le (Nat.le_of_ble_eq_true rfl)) (hR.le (Nat.le_of_ble_eq_true rfl))  v1 v2 v3 N h1 h1000 h0 h1) hC (fun h2 hC => ?_) (fun h2 hC => ?_)
  · have hp := hp.1 h2
    refine g_last (mz_at hS (Nat.le_of_ble_eq_true rfl) mzcS_342) (mz_ibd (by decide)) (g_goto (tg := 22) rfl ms_288_22 (g_iconst mzi_0 ?_))
    exact g_iret rfl (hr _ _ _ hC)
  · have hp := hp.2 h2
    refine mz_cs hC (fun h6 hC => ?_) (fun h6 hC => ?_)
    · have hp := hp.1 h6
      refine ⟨(0, 14, 16), (by rw [h6]; rfl), ?_⟩
      show mz_G (d, mz_X0 L xs, some .int, [(0, 14, 16), (1, 18, 20)], mk_288, 6, Q) 16 (mz_sf mk_288 16) [] [] false (mz_k S R N b (t + 1))
      rw [ms_288_16]
      refine g_iconst mzi_1 ?_
      exact g_iret rfl (hr _ _ _ hC)
    · have hp := hp.2 h6
      have h4 := hp
      refine ⟨(1, 18, 20), (by rw [h4]; rfl), ?_⟩
      show mz_G (d, mz_X0 L xs, some .int, [(0, 14, 16), (1, 18, 20)], mk_288, 6, Q) 20 (mz_sf mk_288 20) [] [] false (mz_k S R N b (t + 1))
      rw [ms_288_20]
      refine g_iconst mzi_2 ?_
      exact g_iret rfl (hr _ _ _ hC)
theorem cs_288 (hd : 3 ≤ d) (hS : mz_ext S 343) (hR : mz_rok R 343)  (v1 : Int32) (v2 : Int32) (v3 : Int32) (N : mz_N) (t : Nat) (hp : cp_288_0 v1 v2 v3 N t) (hq : Q (.inl (some (.int ((cf_288_0 v1 v2 v3 N t).1)))) (mz_k S R ((cf_288_0 v1 v2 v3 N t).2.1) b ((cf_288_0 v1 v2 v3 N t).2.2))) : mz_Ed (mz_X0 L xs) d 288 [.ref 0, .int v1, .int v2, .int v3, .ref 342] (mz_k S R N b t) Q :=
  by
  refine g_in mzq_288 (Nat.le_of_ble_eq_true rfl) (Nat.le_of_ble_eq_true rfl) (Nat.le_trans (Nat.le_of_ble_eq_true rfl) hd) ?_
  refine g_weak ?_ (cg_288_0 (d := d - 1) (by omega) hS hR v1 v2 v3 N t (C0 := fun z => Q (.inl (some (.int z.1))) (mz_k S R z.2.1 b z.2.2)) (fun _ _ _ h => h) hp hq)
  exact ⟨rfl, rfl, rfl, rfl, rfl, trivial⟩
/-! 291 KeptHouse.ignite (II)Z -/
theorem ms_291_0 : mz_sf mk_291 0 = mk_291 := mz_sf_zero _
set_option maxRecDepth 100000 in
theorem mzq_291 : mz_PG0 291 = some (11, ⟨"KeptHouse", "ignite", "(II)Z"⟩, prog_1_method_38_code, 3, some .boolean, [], mk_291, []) := rfl
theorem cg_291_0 (hd : 1 ≤ d) (hS : mz_ext S 232) (hR : mz_rok R 232)  (v1 : Int32) (v2 : Int32) (N : mz_N) {C0 : (Nat × Bool × mz_N) → Prop} (hr : ∀ (w : Bool) (N2 : mz_N), C0 (0, w, N2) → Q (.inl (some (.int (mz_b01 w)))) (mz_k S R N2 b t)) (ht : ∀ (c : Nat) (w : Bool) (N2 : mz_N), ¬ c = 0 → C0 (c, w, N2) → Q (.inr (c - 1)) (mz_k S R N2 b (t + 1))) (h1000 : t < 1000) (hp : cp_291_0 v1 v2 N) (hC : C0 (cf_291_0 v1 v2 N)) : mz_G (d, mz_X0 L xs, some .boolean, [], mk_291, 3, Q) 0 mk_291 [(0, .ref 0), (1, .int v1), (2, .int v2)] [] true (mz_k S R N b t) := by
  unfold cf_291_0 at hC
  unfold cp_291_0 at hp
  refine g_aload_n rfl ?_
  obtain ⟨h1, hp⟩ := hp
  refine g_v1nt (Nat.le_of_ble_eq_true rfl) (mz_at hS (Nat.le_of_ble_eq_true rfl) mzcS_0) rfl (fun _ h0 h1 => cs_104 (Nat.le_trans (Nat.le_of_ble_eq_true rfl) hd) (hS.le (Nat.le_of_ble_eq_true rfl)) (hR.le (Nat.le_of_ble_eq_true rfl))  N h1 h1000 h0 h1) hC (fun h7 hC => ?_) (fun h7 hC => ?_)
  · have hp := hp.1 h7
    refine g_iload_n rfl (g_iconst mzi_0 (g_iconst mzi_4 ?_))
    obtain ⟨h2, hp⟩ := hp
    refine g_s3nt (Nat.le_of_ble_eq_true rfl) rfl (fun _ h0 h1 => cs_105 (Nat.le_trans (Nat.le_of_ble_eq_true rfl) hd) (hS.le (Nat.le_of_ble_eq_true rfl)) (hR.le (Nat.le_of_ble_eq_true rfl))  v1 0 4 h2 h1000 h0 h1) hC (fun h6 hC => ?_) (fun h6 hC => ?_)
    · have hp := hp.1 h6
      refine g_iload_n rfl (g_iconst mzi_0 (g_bipush mzb_47 ?_))
      obtain ⟨h3, hp⟩ := hp
      refine g_s3nt (Nat.le_of_ble_eq_true rfl) rfl (fun _ h0 h1 => cs_105 (Nat.le_trans (Nat.le_of_ble_eq_true rfl) hd) (hS.le (Nat.le_of_ble_eq_true rfl)) (hR.le (Nat.le_of_ble_eq_true rfl))  v2 0 47 h3 h1000 h0 h1) hC (fun h5 hC => ?_) (fun h5 hC => ?_)
      · have hp := hp.1 h5
        refine g_aload_n rfl (g_getR (mz_at hS (Nat.le_of_ble_eq_true rfl) mzcS_0) mzcf_11_4 (mz_rb hR (Nat.le_of_ble_eq_true rfl) rfl mzcR_0_4) (g_iload_n rfl (g_bipush mzb_48 (g_imul (g_iload_n rfl (g_iadd ?_))))))
        have h4 := hp
        refine g_v2v (Nat.le_of_ble_eq_true rfl) (mz_at hS (Nat.le_of_ble_eq_true rfl) mzcS_65) (fun _ hq => cs_250 (Nat.le_trans (Nat.le_of_ble_eq_true rfl) hd) (hS.le (Nat.le_of_ble_eq_true rfl)) (hR.le (Nat.le_of_ble_eq_true rfl))  ((v1 * 48) + v2) N h4 hq) ?_
        exact g_zret (z := ((cf_250_0 ((v1 * 48) + v2) N).1)) rfl (hr _ _ hC)
      · have hp := hp.2 h5
        exact ht _ _ _ h5 hC
    · have hp := hp.2 h6
      exact ht _ _ _ h6 hC
  · have hp := hp.2 h7
    exact ht _ _ _ h7 hC
theorem cs_291 (hd : 2 ≤ d) (hS : mz_ext S 232) (hR : mz_rok R 232)  (v1 : Int32) (v2 : Int32) (N : mz_N) (hp : cp_291_0 v1 v2 N) (h1000 : t < 1000) (h0 : (cf_291_0 v1 v2 N).1 = 0 → Q (.inl (some (.int (mz_b01 ((cf_291_0 v1 v2 N).2.1))))) (mz_k S R ((cf_291_0 v1 v2 N).2.2) b t)) (h1 : ¬ (cf_291_0 v1 v2 N).1 = 0 → Q (.inr (((cf_291_0 v1 v2 N).1) - 1)) (mz_k S R ((cf_291_0 v1 v2 N).2.2) b (t + 1))) : mz_Ed (mz_X0 L xs) d 291 [.ref 0, .int v1, .int v2] (mz_k S R N b t) Q :=
  by
  refine g_in mzq_291 (Nat.le_of_ble_eq_true rfl) (Nat.le_of_ble_eq_true rfl) (Nat.le_trans (Nat.le_of_ble_eq_true rfl) hd) ?_
  refine g_weak ?_ (cg_291_0 (d := d - 1) (by omega) hS hR v1 v2 N (C0 := fun z => (z.1 = 0 → Q (.inl (some (.int (mz_b01 z.2.1)))) (mz_k S R z.2.2 b t)) ∧ (¬ z.1 = 0 → Q (.inr (z.1 - 1)) (mz_k S R z.2.2 b (t + 1)))) (fun _ _ h => h.1 rfl) (fun c _ _ hc h => h.2 hc) h1000 hp ⟨h0, h1⟩)
  exact ⟨rfl, rfl, rfl, trivial⟩
/-! 290 KeptHouseLaw.ignite (LKeptHouse;II[J)I -/
theorem ms_290_0 : mz_sf mk_290 0 = mk_290 := mz_sf_zero _
theorem ms_290_15 : mz_sf mk_290 15 = mt_290_15 := mz_sf_add ms_290_0 (t := 15) rfl rfl
theorem ms_290_16 : mz_sf mk_290 16 = mt_290_16 := mz_sf_add ms_290_15 (t := 1) rfl rfl
theorem ms_290_22 : mz_sf mk_290 22 = mt_290_22 := mz_sf_add ms_290_16 (t := 6) rfl rfl
theorem ms_290_26 : mz_sf mk_290 26 = mt_290_26 := mz_sf_add ms_290_22 (t := 4) rfl rfl
theorem ms_290_28 : mz_sf mk_290 28 = mt_290_28 := mz_sf_add ms_290_26 (t := 2) rfl rfl
set_option maxRecDepth 100000 in
theorem mzq_290 : mz_PG0 290 = some (13, ⟨"KeptHouseLaw", "ignite", "(LKeptHouse;II[J)I"⟩, method_34_code, 5, some .int, [(0, 17, 20, 13), (0, 17, 24, 15)], mk_290, [(0, 20, 22), (1, 24, 26)]) := rfl
theorem cg_290_16 (hd : 2 ≤ d) (hS : mz_ext S 343) (hR : mz_rok R 343)  (s1 : Int32) (s2 : Int64) (N : mz_N) (t : Nat) {C0 : (Int32 × mz_N × Nat) → Prop} (hr : ∀ (w : Int32) (N2 : mz_N) (t2 : Nat), C0 (w, N2, t2) → Q (.inl (some (.int w))) (mz_k S R N2 b t2)) (hp : cp_290_16 s1 s2 N t) (hC : C0 (cf_290_16 s1 s2 N t)) : mz_G (d, mz_X0 L xs, some .int, [(0, 20, 22), (1, 24, 26)], mk_290, 5, Q) 16 mt_290_16 [] [.long s2, .int s1, .ref 342] false (mz_k S R N b t) := by
  unfold cf_290_16 at hC
  unfold cp_290_16 at hp
  have h1 := hp
  refine g_last (mz_at hS (Nat.le_of_ble_eq_true rfl) mzcS_342) h1 (g_goto (tg := 28) rfl ms_290_28 (g_iconst mzi_0 ?_))
  exact g_iret rfl (hr _ _ _ hC)
theorem cg_290_0 (hd : 2 ≤ d) (hS : mz_ext S 343) (hR : mz_rok R 343)  (v1 : Int32) (v2 : Int32) (N : mz_N) (t : Nat) {C0 : (Int32 × mz_N × Nat) → Prop} (hr : ∀ (w : Int32) (N2 : mz_N) (t2 : Nat), C0 (w, N2, t2) → Q (.inl (some (.int w))) (mz_k S R N2 b t2)) (hp : cp_290_0 v1 v2 N t) (hC : C0 (cf_290_0 v1 v2 N t)) : mz_G (d, mz_X0 L xs, some .int, [(0, 20, 22), (1, 24, 26)], mk_290, 5, Q) 0 mk_290 [(0, .ref 0), (1, .int v1), (2, .int v2), (3, .ref 342)] [] true (mz_k S R N b t) := by
  unfold cf_290_0 at hC
  unfold cp_290_0 at hp
  refine g_aload_n rfl (g_iconst mzi_0 (g_aload_n rfl (g_iload_n rfl (g_iload_n rfl ?_))))
  obtain ⟨h1, hp⟩ := hp
  obtain ⟨h1000, hp⟩ := hp
  refine g_v3vh (Nat.le_of_ble_eq_true rfl) (mz_at hS (Nat.le_of_ble_eq_true rfl) mzcS_0) (fun _ h0 h1 => cs_291 (Nat.le_trans (Nat.le_of_ble_eq_true rfl) hd) (hS.le (Nat.le_of_ble_eq_true rfl)) (hR.le (Nat.le_of_ble_eq_true rfl))  v1 v2 N h1 h1000 h0 h1) hC (fun h2 hC => ?_) (fun h2 hC => ?_)
  · have hp := hp.1 h2
    refine g_zeq (tg := 15) rfl ms_290_15 hC (fun h3 hC => ?_) (fun h3 hC => ?_)
    · have hp := hp.1 h3
      refine g_lconst mzl_1 (g_goto (tg := 16) rfl ms_290_16 ?_)
      refine g_weak ?_ (g_cl (cg_290_16 hd hS hR 0 1 ((cf_291_0 v1 v2 N).2.2) t hr hp hC))
      exact trivial
    · have hp := hp.2 h3
      refine g_lconst mzl_0 ?_
      refine g_weak ?_ (g_cl (cg_290_16 hd hS hR 0 0 ((cf_291_0 v1 v2 N).2.2) t hr hp hC))
      exact trivial
  · have hp := hp.2 h2
    refine mz_cs hC (fun h7 hC => ?_) (fun h7 hC => ?_)
    · have hp := hp.1 h7
      refine ⟨(0, 20, 22), (by rw [h7]; rfl), ?_⟩
      show mz_G (d, mz_X0 L xs, some .int, [(0, 20, 22), (1, 24, 26)], mk_290, 5, Q) 22 (mz_sf mk_290 22) [] [] false (mz_k S R ((cf_291_0 v1 v2 N).2.2) b (t + 1))
      rw [ms_290_22]
      refine g_iconst mzi_1 ?_
      exact g_iret rfl (hr _ _ _ hC)
    · have hp := hp.2 h7
      have h5 := hp
      refine ⟨(1, 24, 26), (by rw [h5]; rfl), ?_⟩
      show mz_G (d, mz_X0 L xs, some .int, [(0, 20, 22), (1, 24, 26)], mk_290, 5, Q) 26 (mz_sf mk_290 26) [] [] false (mz_k S R ((cf_291_0 v1 v2 N).2.2) b (t + 1))
      rw [ms_290_26]
      refine g_iconst mzi_2 ?_
      exact g_iret rfl (hr _ _ _ hC)
theorem cs_290 (hd : 3 ≤ d) (hS : mz_ext S 343) (hR : mz_rok R 343)  (v1 : Int32) (v2 : Int32) (N : mz_N) (t : Nat) (hp : cp_290_0 v1 v2 N t) (hq : Q (.inl (some (.int ((cf_290_0 v1 v2 N t).1)))) (mz_k S R ((cf_290_0 v1 v2 N t).2.1) b ((cf_290_0 v1 v2 N t).2.2))) : mz_Ed (mz_X0 L xs) d 290 [.ref 0, .int v1, .int v2, .ref 342] (mz_k S R N b t) Q :=
  by
  refine g_in mzq_290 (Nat.le_of_ble_eq_true rfl) (Nat.le_of_ble_eq_true rfl) (Nat.le_trans (Nat.le_of_ble_eq_true rfl) hd) ?_
  refine g_weak ?_ (cg_290_0 (d := d - 1) (by omega) hS hR v1 v2 N t (C0 := fun z => Q (.inl (some (.int z.1))) (mz_k S R z.2.1 b z.2.2)) (fun _ _ _ h => h) hp hq)
  exact ⟨rfl, rfl, rfl, rfl, trivial⟩
/-! 293 KeptHouse.detected (I)Z -/
theorem ms_293_0 : mz_sf mk_293 0 = mk_293 := mz_sf_zero _
set_option maxRecDepth 100000 in
theorem mzq_293 : mz_PG0 293 = some (11, ⟨"KeptHouse", "detected", "(I)Z"⟩, prog_1_method_39_code, 2, some .boolean, [], mk_293, []) := rfl
theorem cg_293_0 (hd : 2 ≤ d) (hS : mz_ext S 232) (hR : mz_rok R 232)  (v1 : Int32) (N : mz_N) {C0 : (Nat × Bool) → Prop} (hr : ∀ (w : Bool), C0 (0, w) → Q (.inl (some (.int (mz_b01 w)))) (mz_k S R N b t)) (ht : ∀ (c : Nat) (w : Bool), ¬ c = 0 → C0 (c, w) → Q (.inr (c - 1)) (mz_k S R N b (t + 1))) (h1000 : t < 1000) (hp : cp_293_0 v1 N) (hC : C0 (cf_293_0 v1 N)) : mz_G (d, mz_X0 L xs, some .boolean, [], mk_293, 2, Q) 0 mk_293 [(0, .ref 0), (1, .int v1)] [] true (mz_k S R N b t) := by
  unfold cf_293_0 at hC
  unfold cp_293_0 at hp
  refine g_aload_n rfl ?_
  obtain ⟨h1, hp⟩ := hp
  refine g_v1nt (Nat.le_of_ble_eq_true rfl) (mz_at hS (Nat.le_of_ble_eq_true rfl) mzcS_0) rfl (fun _ h0 h1 => cs_104 (Nat.le_trans (Nat.le_of_ble_eq_true rfl) hd) (hS.le (Nat.le_of_ble_eq_true rfl)) (hR.le (Nat.le_of_ble_eq_true rfl))  N h1 h1000 h0 h1) hC (fun h5 hC => ?_) (fun h5 hC => ?_)
  · have hp := hp.1 h5
    refine g_iload_n rfl (g_iconst mzi_0 (g_aload_n rfl (g_getR (mz_at hS (Nat.le_of_ble_eq_true rfl) mzcS_0) mzcf_11_1 (mz_rb hR (Nat.le_of_ble_eq_true rfl) rfl mzcR_0_1) (g_getI (mz_at hS (Nat.le_of_ble_eq_true rfl) mzcS_2) mzcf_5_7 (g_iconst mzi_1 (g_isub ?_))))))
    obtain ⟨h2, hp⟩ := hp
    refine g_s3nt (Nat.le_of_ble_eq_true rfl) rfl (fun _ h0 h1 => cs_105 (Nat.le_trans (Nat.le_of_ble_eq_true rfl) hd) (hS.le (Nat.le_of_ble_eq_true rfl)) (hR.le (Nat.le_of_ble_eq_true rfl))  v1 0 ((N.1 2 7) - 1) h2 h1000 h0 h1) hC (fun h4 hC => ?_) (fun h4 hC => ?_)
    · have hp := hp.1 h4
      refine g_aload_n rfl (g_getR (mz_at hS (Nat.le_of_ble_eq_true rfl) mzcS_0) mzcf_11_4 (mz_rb hR (Nat.le_of_ble_eq_true rfl) rfl mzcR_0_4) (g_aload_n rfl (g_getR (mz_at hS (Nat.le_of_ble_eq_true rfl) mzcS_0) mzcf_11_1 (mz_rb hR (Nat.le_of_ble_eq_true rfl) rfl mzcR_0_1) (g_iload_n rfl ?_))))
      have h3 := hp
      refine g_v3v (Nat.le_of_ble_eq_true rfl) (mz_at hS (Nat.le_of_ble_eq_true rfl) mzcS_65) (fun _ hq => cs_210 (Nat.le_trans (Nat.le_of_ble_eq_true rfl) hd) (hS.le (Nat.le_of_ble_eq_true rfl)) (hR.le (Nat.le_of_ble_eq_true rfl))  v1 N h3 hq) ?_
      exact g_zret (z := (cf_210_0 v1 N)) rfl (hr _ hC)
    · have hp := hp.2 h4
      exact ht _ _ h4 hC
  · have hp := hp.2 h5
    exact ht _ _ h5 hC
theorem cs_293 (hd : 3 ≤ d) (hS : mz_ext S 232) (hR : mz_rok R 232)  (v1 : Int32) (N : mz_N) (hp : cp_293_0 v1 N) (h1000 : t < 1000) (h0 : (cf_293_0 v1 N).1 = 0 → Q (.inl (some (.int (mz_b01 ((cf_293_0 v1 N).2))))) (mz_k S R N b t)) (h1 : ¬ (cf_293_0 v1 N).1 = 0 → Q (.inr (((cf_293_0 v1 N).1) - 1)) (mz_k S R N b (t + 1))) : mz_Ed (mz_X0 L xs) d 293 [.ref 0, .int v1] (mz_k S R N b t) Q :=
  by
  refine g_in mzq_293 (Nat.le_of_ble_eq_true rfl) (Nat.le_of_ble_eq_true rfl) (Nat.le_trans (Nat.le_of_ble_eq_true rfl) hd) ?_
  refine g_weak ?_ (cg_293_0 (d := d - 1) (by omega) hS hR v1 N (C0 := fun z => (z.1 = 0 → Q (.inl (some (.int (mz_b01 z.2)))) (mz_k S R N b t)) ∧ (¬ z.1 = 0 → Q (.inr (z.1 - 1)) (mz_k S R N b (t + 1)))) (fun _ h => h.1 rfl) (fun c _ hc h => h.2 hc) h1000 hp ⟨h0, h1⟩)
  exact ⟨rfl, rfl, trivial⟩
/-! 292 KeptHouseLaw.detected (LKeptHouse;I[J)I -/
theorem ms_292_0 : mz_sf mk_292 0 = mk_292 := mz_sf_zero _
theorem ms_292_14 : mz_sf mk_292 14 = mt_292_14 := mz_sf_add ms_292_0 (t := 14) rfl rfl
theorem ms_292_15 : mz_sf mk_292 15 = mt_292_15 := mz_sf_add ms_292_14 (t := 1) rfl rfl
theorem ms_292_20 : mz_sf mk_292 20 = mt_292_20 := mz_sf_add ms_292_15 (t := 5) rfl rfl
theorem ms_292_23 : mz_sf mk_292 23 = mt_292_23 := mz_sf_add ms_292_20 (t := 3) rfl rfl
theorem ms_292_25 : mz_sf mk_292 25 = mt_292_25 := mz_sf_add ms_292_23 (t := 2) rfl rfl
set_option maxRecDepth 100000 in
theorem mzq_292 : mz_PG0 292 = some (13, ⟨"KeptHouseLaw", "detected", "(LKeptHouse;I[J)I"⟩, method_35_code, 4, some .int, [(0, 16, 19, 13), (0, 16, 22, 15)], mk_292, [(0, 19, 20), (1, 22, 23)]) := rfl
theorem cg_292_15 (hd : 3 ≤ d) (hS : mz_ext S 343) (hR : mz_rok R 343)  (s1 : Int32) (s2 : Int64) (N : mz_N) (t : Nat) {C0 : (Int32 × mz_N × Nat) → Prop} (hr : ∀ (w : Int32) (N2 : mz_N) (t2 : Nat), C0 (w, N2, t2) → Q (.inl (some (.int w))) (mz_k S R N2 b t2)) (hp : cp_292_15 s1 s2 N t) (hC : C0 (cf_292_15 s1 s2 N t)) : mz_G (d, mz_X0 L xs, some .int, [(0, 19, 20), (1, 22, 23)], mk_292, 4, Q) 15 mt_292_15 [] [.long s2, .int s1, .ref 342] false (mz_k S R N b t) := by
  unfold cf_292_15 at hC
  unfold cp_292_15 at hp
  have h1 := hp
  refine g_last (mz_at hS (Nat.le_of_ble_eq_true rfl) mzcS_342) h1 (g_goto (tg := 25) rfl ms_292_25 (g_iconst mzi_0 ?_))
  exact g_iret rfl (hr _ _ _ hC)
theorem cg_292_0 (hd : 3 ≤ d) (hS : mz_ext S 343) (hR : mz_rok R 343)  (v1 : Int32) (N : mz_N) (t : Nat) {C0 : (Int32 × mz_N × Nat) → Prop} (hr : ∀ (w : Int32) (N2 : mz_N) (t2 : Nat), C0 (w, N2, t2) → Q (.inl (some (.int w))) (mz_k S R N2 b t2)) (hp : cp_292_0 v1 N t) (hC : C0 (cf_292_0 v1 N t)) : mz_G (d, mz_X0 L xs, some .int, [(0, 19, 20), (1, 22, 23)], mk_292, 4, Q) 0 mk_292 [(0, .ref 0), (1, .int v1), (2, .ref 342)] [] true (mz_k S R N b t) := by
  unfold cf_292_0 at hC
  unfold cp_292_0 at hp
  refine g_aload_n rfl (g_iconst mzi_0 (g_aload_n rfl (g_iload_n rfl ?_)))
  obtain ⟨h1, hp⟩ := hp
  obtain ⟨h1000, hp⟩ := hp
  refine g_v2vh (Nat.le_of_ble_eq_true rfl) (mz_at hS (Nat.le_of_ble_eq_true rfl) mzcS_0) (fun _ h0 h1 => cs_293 (Nat.le_trans (Nat.le_of_ble_eq_true rfl) hd) (hS.le (Nat.le_of_ble_eq_true rfl)) (hR.le (Nat.le_of_ble_eq_true rfl))  v1 N h1 h1000 h0 h1) hC (fun h2 hC => ?_) (fun h2 hC => ?_)
  · have hp := hp.1 h2
    refine g_zeq (tg := 14) rfl ms_292_14 hC (fun h3 hC => ?_) (fun h3 hC => ?_)
    · have hp := hp.1 h3
      refine g_lconst mzl_1 (g_goto (tg := 15) rfl ms_292_15 ?_)
      refine g_weak ?_ (g_cl (cg_292_15 hd hS hR 0 1 N t hr hp hC))
      exact trivial
    · have hp := hp.2 h3
      refine g_lconst mzl_0 ?_
      refine g_weak ?_ (g_cl (cg_292_15 hd hS hR 0 0 N t hr hp hC))
      exact trivial
  · have hp := hp.2 h2
    refine mz_cs hC (fun h7 hC => ?_) (fun h7 hC => ?_)
    · have hp := hp.1 h7
      refine ⟨(0, 19, 20), (by rw [h7]; rfl), ?_⟩
      show mz_G (d, mz_X0 L xs, some .int, [(0, 19, 20), (1, 22, 23)], mk_292, 4, Q) 20 (mz_sf mk_292 20) [] [] false (mz_k S R N b (t + 1))
      rw [ms_292_20]
      refine g_iconst mzi_1 ?_
      exact g_iret rfl (hr _ _ _ hC)
    · have hp := hp.2 h7
      have h5 := hp
      refine ⟨(1, 22, 23), (by rw [h5]; rfl), ?_⟩
      show mz_G (d, mz_X0 L xs, some .int, [(0, 19, 20), (1, 22, 23)], mk_292, 4, Q) 23 (mz_sf mk_292 23) [] [] false (mz_k S R N b (t + 1))
      rw [ms_292_23]
      refine g_iconst mzi_2 ?_
      exact g_iret rfl (hr _ _ _ hC)
theorem cs_292 (hd : 4 ≤ d) (hS : mz_ext S 343) (hR : mz_rok R 343)  (v1 : Int32) (N : mz_N) (t : Nat) (hp : cp_292_0 v1 N t) (hq : Q (.inl (some (.int ((cf_292_0 v1 N t).1)))) (mz_k S R ((cf_292_0 v1 N t).2.1) b ((cf_292_0 v1 N t).2.2))) : mz_Ed (mz_X0 L xs) d 292 [.ref 0, .int v1, .ref 342] (mz_k S R N b t) Q :=
  by
  refine g_in mzq_292 (Nat.le_of_ble_eq_true rfl) (Nat.le_of_ble_eq_true rfl) (Nat.le_trans (Nat.le_of_ble_eq_true rfl) hd) ?_
  refine g_weak ?_ (cg_292_0 (d := d - 1) (by omega) hS hR v1 N t (C0 := fun z => Q (.inl (some (.int z.1))) (mz_k S R z.2.1 b z.2.2)) (fun _ _ _ h => h) hp hq)
  exact ⟨rfl, rfl, rfl, trivial⟩
/-! 295 KeptHouse.alarms ()I -/
theorem ms_295_0 : mz_sf mk_295 0 = mk_295 := mz_sf_zero _
set_option maxRecDepth 100000 in
theorem mzq_295 : mz_PG0 295 = some (11, ⟨"KeptHouse", "alarms", "()I"⟩, prog_1_method_40_code, 1, some .int, [], mk_295, []) := rfl
theorem cg_295_0 (hd : 1 ≤ d) (hS : mz_ext S 232) (hR : mz_rok R 232)  (N : mz_N) {C0 : (Nat × Int32) → Prop} (hr : ∀ (w : Int32), C0 (0, w) → Q (.inl (some (.int w))) (mz_k S R N b t)) (ht : ∀ (c : Nat) (w : Int32), ¬ c = 0 → C0 (c, w) → Q (.inr (c - 1)) (mz_k S R N b (t + 1))) (h1000 : t < 1000) (hp : cp_295_0 N) (hC : C0 (cf_295_0 N)) : mz_G (d, mz_X0 L xs, some .int, [], mk_295, 1, Q) 0 mk_295 [(0, .ref 0)] [] true (mz_k S R N b t) := by
  unfold cf_295_0 at hC
  unfold cp_295_0 at hp
  refine g_aload_n rfl ?_
  have h1 := hp
  refine g_v1nt (Nat.le_of_ble_eq_true rfl) (mz_at hS (Nat.le_of_ble_eq_true rfl) mzcS_0) rfl (fun _ h0 h1 => cs_104 (Nat.le_trans (Nat.le_of_ble_eq_true rfl) hd) (hS.le (Nat.le_of_ble_eq_true rfl)) (hR.le (Nat.le_of_ble_eq_true rfl))  N h1 h1000 h0 h1) hC (fun h2 hC => ?_) (fun h2 hC => ?_)
  · refine g_aload_n rfl (g_getR (mz_at hS (Nat.le_of_ble_eq_true rfl) mzcS_0) mzcf_11_5 (mz_rb hR (Nat.le_of_ble_eq_true rfl) rfl mzcR_0_5) (g_getI (mz_at hS (Nat.le_of_ble_eq_true rfl) mzcS_81) mzcf_10_3 ?_))
    exact g_iret rfl (hr _ hC)
  · exact ht _ _ h2 hC
theorem cs_295 (hd : 2 ≤ d) (hS : mz_ext S 232) (hR : mz_rok R 232)  (N : mz_N) (hp : cp_295_0 N) (h1000 : t < 1000) (h0 : (cf_295_0 N).1 = 0 → Q (.inl (some (.int ((cf_295_0 N).2)))) (mz_k S R N b t)) (h1 : ¬ (cf_295_0 N).1 = 0 → Q (.inr (((cf_295_0 N).1) - 1)) (mz_k S R N b (t + 1))) : mz_Ed (mz_X0 L xs) d 295 [.ref 0] (mz_k S R N b t) Q :=
  by
  refine g_in mzq_295 (Nat.le_of_ble_eq_true rfl) (Nat.le_of_ble_eq_true rfl) (Nat.le_trans (Nat.le_of_ble_eq_true rfl) hd) ?_
  refine g_weak ?_ (cg_295_0 (d := d - 1) (by omega) hS hR N (C0 := fun z => (z.1 = 0 → Q (.inl (some (.int z.2))) (mz_k S R N b t)) ∧ (¬ z.1 = 0 → Q (.inr (z.1 - 1)) (mz_k S R N b (t + 1)))) (fun _ h => h.1 rfl) (fun c _ hc h => h.2 hc) h1000 hp ⟨h0, h1⟩)
  exact ⟨rfl, trivial⟩
/-! 294 KeptHouseLaw.alarms (LKeptHouse;[J)I -/
theorem ms_294_0 : mz_sf mk_294 0 = mk_294 := mz_sf_zero _
theorem ms_294_12 : mz_sf mk_294 12 = mt_294_12 := mz_sf_add ms_294_0 (t := 12) rfl rfl
theorem ms_294_14 : mz_sf mk_294 14 = mt_294_14 := mz_sf_add ms_294_12 (t := 2) rfl rfl
set_option maxRecDepth 100000 in
theorem mzq_294 : mz_PG0 294 = some (13, ⟨"KeptHouseLaw", "alarms", "(LKeptHouse;[J)I"⟩, method_36_code, 3, some .int, [(0, 8, 11, 15)], mk_294, [(1, 11, 12)]) := rfl
theorem cg_294_0 (hd : 2 ≤ d) (hS : mz_ext S 343) (hR : mz_rok R 343)  (N : mz_N) (t : Nat) {C0 : (Int32 × mz_N × Nat) → Prop} (hr : ∀ (w : Int32) (N2 : mz_N) (t2 : Nat), C0 (w, N2, t2) → Q (.inl (some (.int w))) (mz_k S R N2 b t2)) (hp : cp_294_0 N t) (hC : C0 (cf_294_0 N t)) : mz_G (d, mz_X0 L xs, some .int, [(1, 11, 12)], mk_294, 3, Q) 0 mk_294 [(0, .ref 0), (1, .ref 342)] [] true (mz_k S R N b t) := by
  unfold cf_294_0 at hC
  unfold cp_294_0 at hp
  refine g_aload_n rfl (g_iconst mzi_0 (g_aload_n rfl ?_))
  obtain ⟨h1, hp⟩ := hp
  obtain ⟨h1000, hp⟩ := hp
  refine g_v1vh (Nat.le_of_ble_eq_true rfl) (mz_at hS (Nat.le_of_ble_eq_true rfl) mzcS_0) (fun _ h0 h1 => cs_295 (Nat.le_trans (Nat.le_of_ble_eq_true rfl) hd) (hS.le (Nat.le_of_ble_eq_true rfl)) (hR.le (Nat.le_of_ble_eq_true rfl))  N h1 h1000 h0 h1) hC (fun h2 hC => ?_) (fun h2 hC => ?_)
  · have hp := hp.1 h2
    refine g_i2l (g_last (mz_at hS (Nat.le_of_ble_eq_true rfl) mzcS_342) (mz_ibd (by decide)) (g_goto (tg := 14) rfl ms_294_14 (g_iconst mzi_0 ?_)))
    exact g_iret rfl (hr _ _ _ hC)
  · have hp := hp.2 h2
    have h4 := hp
    refine ⟨(1, 11, 12), (by rw [h4]; rfl), ?_⟩
    show mz_G (d, mz_X0 L xs, some .int, [(1, 11, 12)], mk_294, 3, Q) 12 (mz_sf mk_294 12) [] [] false (mz_k S R N b (t + 1))
    rw [ms_294_12]
    refine g_iconst mzi_1 ?_
    exact g_iret rfl (hr _ _ _ hC)
theorem cs_294 (hd : 3 ≤ d) (hS : mz_ext S 343) (hR : mz_rok R 343)  (N : mz_N) (t : Nat) (hp : cp_294_0 N t) (hq : Q (.inl (some (.int ((cf_294_0 N t).1)))) (mz_k S R ((cf_294_0 N t).2.1) b ((cf_294_0 N t).2.2))) : mz_Ed (mz_X0 L xs) d 294 [.ref 0, .ref 342] (mz_k S R N b t) Q :=
  by
  refine g_in mzq_294 (Nat.le_of_ble_eq_true rfl) (Nat.le_of_ble_eq_true rfl) (Nat.le_trans (Nat.le_of_ble_eq_true rfl) hd) ?_
  refine g_weak ?_ (cg_294_0 (d := d - 1) (by omega) hS hR N t (C0 := fun z => Q (.inl (some (.int z.1))) (mz_k S R z.2.1 b z.2.2)) (fun _ _ _ h => h) hp hq)
  exact ⟨rfl, rfl, trivial⟩
/-! 297 KeptHouse.alarm (II)I -/
theorem ms_297_0 : mz_sf mk_297 0 = mk_297 := mz_sf_zero _
theorem ms_297_23 : mz_sf mk_297 23 = mt_297_23 := mz_sf_add ms_297_0 (t := 23) rfl rfl
set_option maxRecDepth 100000 in
theorem mzq_297 : mz_PG0 297 = some (11, ⟨"KeptHouse", "alarm", "(II)I"⟩, prog_1_method_41_code, 3, some .int, [], mk_297, []) := rfl
theorem cg_297_0 (hd : 1 ≤ d) (hS : mz_ext S 232) (hR : mz_rok R 232)  (v1 : Int32) (v2 : Int32) (N : mz_N) {C0 : (Nat × Int32) → Prop} (hr : ∀ (w : Int32), C0 (0, w) → Q (.inl (some (.int w))) (mz_k S R N b t)) (ht : ∀ (c : Nat) (w : Int32), ¬ c = 0 → C0 (c, w) → Q (.inr (c - 1)) (mz_k S R N b (t + 1))) (h1000 : t < 1000) (hp : cp_297_0 v1 v2 N) (hC : C0 (cf_297_0 v1 v2 N)) : mz_G (d, mz_X0 L xs, some .int, [], mk_297, 3, Q) 0 mk_297 [(0, .ref 0), (1, .int v1), (2, .int v2)] [] true (mz_k S R N b t) := by
  unfold cf_297_0 at hC
  unfold cp_297_0 at hp
  refine g_aload_n rfl ?_
  obtain ⟨h1, hp⟩ := hp
  refine g_v1nt (Nat.le_of_ble_eq_true rfl) (mz_at hS (Nat.le_of_ble_eq_true rfl) mzcS_0) rfl (fun _ h0 h1 => cs_104 (Nat.le_trans (Nat.le_of_ble_eq_true rfl) hd) (hS.le (Nat.le_of_ble_eq_true rfl)) (hR.le (Nat.le_of_ble_eq_true rfl))  N h1 h1000 h0 h1) hC (fun h8 hC => ?_) (fun h8 hC => ?_)
  · have hp := hp.1 h8
    refine g_iload_n rfl (g_iconst mzi_0 (g_aload_n rfl (g_getR (mz_at hS (Nat.le_of_ble_eq_true rfl) mzcS_0) mzcf_11_5 (mz_rb hR (Nat.le_of_ble_eq_true rfl) rfl mzcR_0_5) (g_getI (mz_at hS (Nat.le_of_ble_eq_true rfl) mzcS_81) mzcf_10_3 (g_bipush mzb_32 (g_imin (Nat.le_of_ble_eq_true rfl) (g_iconst mzi_1 ?_)))))))
    refine g_isub ?_
    obtain ⟨h2, hp⟩ := hp
    refine g_s3nt (Nat.le_of_ble_eq_true rfl) rfl (fun _ h0 h1 => cs_105 (Nat.le_trans (Nat.le_of_ble_eq_true rfl) hd) (hS.le (Nat.le_of_ble_eq_true rfl)) (hR.le (Nat.le_of_ble_eq_true rfl))  v1 0 ((mz_imin (N.1 81 3) 32) - 1) h2 h1000 h0 h1) hC (fun h7 hC => ?_) (fun h7 hC => ?_)
    · have hp := hp.1 h7
      refine g_iload_n rfl (g_iconst mzi_0 (g_iconst mzi_1 ?_))
      obtain ⟨h3, hp⟩ := hp
      refine g_s3nt (Nat.le_of_ble_eq_true rfl) rfl (fun _ h0 h1 => cs_105 (Nat.le_trans (Nat.le_of_ble_eq_true rfl) hd) (hS.le (Nat.le_of_ble_eq_true rfl)) (hR.le (Nat.le_of_ble_eq_true rfl))  v2 0 1 h3 h1000 h0 h1) hC (fun h6 hC => ?_) (fun h6 hC => ?_)
      · have hp := hp.1 h6
        refine g_aload_n rfl (g_getR (mz_at hS (Nat.le_of_ble_eq_true rfl) mzcS_0) mzcf_11_5 (mz_rb hR (Nat.le_of_ble_eq_true rfl) rfl mzcR_0_5) (g_getR (mz_at hS (Nat.le_of_ble_eq_true rfl) mzcS_81) mzcf_10_2 (mz_rb hR (Nat.le_of_ble_eq_true rfl) rfl mzcR_81_2) (g_iload_n rfl ?_)))
        obtain ⟨h4, hp⟩ := hp
        refine g_aald4 (mz_at hS (Nat.le_of_ble_eq_true rfl) mzcS_84) h4 (mz_rb hR (Nat.le_of_ble_eq_true rfl) rfl (mzcR2_84 h4)) (g_aload_n rfl (g_getR (mz_at hS (Nat.le_of_ble_eq_true rfl) mzcS_0) mzcf_11_5 (mz_rb hR (Nat.le_of_ble_eq_true rfl) rfl mzcR_0_5) (g_getI (mz_at hS (Nat.le_of_ble_eq_true rfl) mzcS_81) mzcf_10_3 (g_iconst mzi_1 (g_isub (g_iload_n rfl (g_isub ?_)))))))
        refine g_bipush mzb_32 (g_irem (by decide) ?_)
        have h5 := hp
        refine g_iald hS.1 (mz_at hS (mzcL2_84 h4 (Nat.le_of_ble_eq_true rfl)) (mzcS2_84 h4)) h5 ?_
        exact g_iret rfl (hr _ hC)
      · have hp := hp.2 h6
        exact ht _ _ h6 hC
    · have hp := hp.2 h7
      exact ht _ _ h7 hC
  · have hp := hp.2 h8
    exact ht _ _ h8 hC
theorem cs_297 (hd : 2 ≤ d) (hS : mz_ext S 232) (hR : mz_rok R 232)  (v1 : Int32) (v2 : Int32) (N : mz_N) (hp : cp_297_0 v1 v2 N) (h1000 : t < 1000) (h0 : (cf_297_0 v1 v2 N).1 = 0 → Q (.inl (some (.int ((cf_297_0 v1 v2 N).2)))) (mz_k S R N b t)) (h1 : ¬ (cf_297_0 v1 v2 N).1 = 0 → Q (.inr (((cf_297_0 v1 v2 N).1) - 1)) (mz_k S R N b (t + 1))) : mz_Ed (mz_X0 L xs) d 297 [.ref 0, .int v1, .int v2] (mz_k S R N b t) Q :=
  by
  refine g_in mzq_297 (Nat.le_of_ble_eq_true rfl) (Nat.le_of_ble_eq_true rfl) (Nat.le_trans (Nat.le_of_ble_eq_true rfl) hd) ?_
  refine g_weak ?_ (cg_297_0 (d := d - 1) (by omega) hS hR v1 v2 N (C0 := fun z => (z.1 = 0 → Q (.inl (some (.int z.2))) (mz_k S R N b t)) ∧ (¬ z.1 = 0 → Q (.inr (z.1 - 1)) (mz_k S R N b (t + 1)))) (fun _ h => h.1 rfl) (fun c _ hc h => h.2 hc) h1000 hp ⟨h0, h1⟩)
  exact ⟨rfl, rfl, rfl, trivial⟩
/-! 296 KeptHouseLaw.alarm (LKeptHouse;II[J)I -/
theorem ms_296_0 : mz_sf mk_296 0 = mk_296 := mz_sf_zero _
theorem ms_296_15 : mz_sf mk_296 15 = mt_296_15 := mz_sf_add ms_296_0 (t := 15) rfl rfl
theorem ms_296_19 : mz_sf mk_296 19 = mt_296_19 := mz_sf_add ms_296_15 (t := 4) rfl rfl
theorem ms_296_21 : mz_sf mk_296 21 = mt_296_21 := mz_sf_add ms_296_19 (t := 2) rfl rfl
set_option maxRecDepth 100000 in
theorem mzq_296 : mz_PG0 296 = some (13, ⟨"KeptHouseLaw", "alarm", "(LKeptHouse;II[J)I"⟩, method_37_code, 5, some .int, [(0, 10, 13, 13), (0, 10, 17, 15)], mk_296, [(0, 13, 15), (1, 17, 19)]) := rfl
theorem cg_296_0 (hd : 2 ≤ d) (hS : mz_ext S 343) (hR : mz_rok R 343)  (v1 : Int32) (v2 : Int32) (N : mz_N) (t : Nat) {C0 : (Int32 × mz_N × Nat) → Prop} (hr : ∀ (w : Int32) (N2 : mz_N) (t2 : Nat), C0 (w, N2, t2) → Q (.inl (some (.int w))) (mz_k S R N2 b t2)) (hp : cp_296_0 v1 v2 N t) (hC : C0 (cf_296_0 v1 v2 N t)) : mz_G (d, mz_X0 L xs, some .int, [(0, 13, 15), (1, 17, 19)], mk_296, 5, Q) 0 mk_296 [(0, .ref 0), (1, .int v1), (2, .int v2), (3, .ref 342)] [] true (mz_k S R N b t) := by
  unfold cf_296_0 at hC
  unfold cp_296_0 at hp
  refine g_aload_n rfl (g_iconst mzi_0 (g_aload_n rfl (g_iload_n rfl (g_iload_n rfl ?_))))
  obtain ⟨h1, hp⟩ := hp
  obtain ⟨h1000, hp⟩ := hp
  refine g_v3vh (Nat.le_of_ble_eq_true rfl) (mz_at hS (Nat.le_of_ble_eq_true rfl) mzcS_0) (fun _ h0 h1 => cs_297 (Nat.le_trans (Nat.le_of_ble_eq_true rfl) hd) (hS.le (Nat.le_of_ble_eq_true rfl)) (hR.le (Nat.le_of_ble_eq_true rfl))  v1 v2 N h1 h1000 h0 h1) hC (fun h2 hC => ?_) (fun h2 hC => ?_)
  · have hp := hp.1 h2
    refine g_i2l (g_last (mz_at hS (Nat.le_of_ble_eq_true rfl) mzcS_342) (mz_ibd (by decide)) (g_goto (tg := 21) rfl ms_296_21 (g_iconst mzi_0 ?_)))
    exact g_iret rfl (hr _ _ _ hC)
  · have hp := hp.2 h2
    refine mz_cs hC (fun h6 hC => ?_) (fun h6 hC => ?_)
    · have hp := hp.1 h6
      refine ⟨(0, 13, 15), (by rw [h6]; rfl), ?_⟩
      show mz_G (d, mz_X0 L xs, some .int, [(0, 13, 15), (1, 17, 19)], mk_296, 5, Q) 15 (mz_sf mk_296 15) [] [] false (mz_k S R N b (t + 1))
      rw [ms_296_15]
      refine g_iconst mzi_1 ?_
      exact g_iret rfl (hr _ _ _ hC)
    · have hp := hp.2 h6
      have h4 := hp
      refine ⟨(1, 17, 19), (by rw [h4]; rfl), ?_⟩
      show mz_G (d, mz_X0 L xs, some .int, [(0, 13, 15), (1, 17, 19)], mk_296, 5, Q) 19 (mz_sf mk_296 19) [] [] false (mz_k S R N b (t + 1))
      rw [ms_296_19]
      refine g_iconst mzi_2 ?_
      exact g_iret rfl (hr _ _ _ hC)
theorem cs_296 (hd : 3 ≤ d) (hS : mz_ext S 343) (hR : mz_rok R 343)  (v1 : Int32) (v2 : Int32) (N : mz_N) (t : Nat) (hp : cp_296_0 v1 v2 N t) (hq : Q (.inl (some (.int ((cf_296_0 v1 v2 N t).1)))) (mz_k S R ((cf_296_0 v1 v2 N t).2.1) b ((cf_296_0 v1 v2 N t).2.2))) : mz_Ed (mz_X0 L xs) d 296 [.ref 0, .int v1, .int v2, .ref 342] (mz_k S R N b t) Q :=
  by
  refine g_in mzq_296 (Nat.le_of_ble_eq_true rfl) (Nat.le_of_ble_eq_true rfl) (Nat.le_trans (Nat.le_of_ble_eq_true rfl) hd) ?_
  refine g_weak ?_ (cg_296_0 (d := d - 1) (by omega) hS hR v1 v2 N t (C0 := fun z => Q (.inl (some (.int z.1))) (mz_k S R z.2.1 b z.2.2)) (fun _ _ _ h => h) hp hq)
  exact ⟨rfl, rfl, rfl, rfl, trivial⟩
/-! 300 KeptHouse$Access.mayHaveDoor (II)Z -/
theorem ms_300_0 : mz_sf mk_300 0 = mk_300 := mz_sf_zero _
theorem ms_300_12 : mz_sf mk_300 12 = mt_300_12 := mz_sf_add ms_300_0 (t := 12) rfl rfl
theorem ms_300_16 : mz_sf mk_300 16 = mt_300_16 := mz_sf_add ms_300_12 (t := 4) rfl rfl
theorem ms_300_17 : mz_sf mk_300 17 = mt_300_17 := mz_sf_add ms_300_16 (t := 1) rfl rfl
set_option maxRecDepth 100000 in
theorem mzq_300 : mz_PG0 300 = some (0, ⟨"KeptHouse$Access", "mayHaveDoor", "(II)Z"⟩, prog_2_method_3_code, 2, some .boolean, [], mk_300, []) := rfl
theorem cg_300_0 (hd : 1 ≤ d) (hS : mz_ext S 232) (hR : mz_rok R 232)  (v0 : Int32) (v1 : Int32) {C0 : (Bool) → Prop} (hr : ∀ (w : Bool), C0 w → Q (.inl (some (.int (mz_b01 w)))) (mz_k S R N b t)) (hp : cp_300_0 v0 v1) (hC : C0 (cf_300_0 v0 v1)) : mz_G (d, mz_X0 L xs, some .boolean, [], mk_300, 2, Q) 0 mk_300 [(0, .int v0), (1, .int v1)] [] true (mz_k S R N b t) := by
  unfold cf_300_0 at hC
  unfold cp_300_0 at hp
  refine g_iload_n rfl ?_
  refine g_ifeq (tg := 12) rfl ms_300_12 hC (fun h1 hC => ?_) (fun h1 hC => ?_)
  · refine g_iconst mzi_1 (g_goto (tg := 17) rfl ms_300_17 ?_)
    exact g_zret (z := true) rfl (hr _ hC)
  · refine g_iload_n rfl ?_
    refine g_s1v (Nat.le_of_ble_eq_true rfl) (fun _ hq => cs_21 (Nat.le_trans (Nat.le_of_ble_eq_true rfl) hd) (hS.le (Nat.le_of_ble_eq_true rfl)) (hR.le (Nat.le_of_ble_eq_true rfl))  v1 trivial hq) (g_iconst mzi_m1 ?_)
    refine g_icne (tg := 16) rfl ms_300_16 hC (fun h3 hC => ?_) (fun h3 hC => ?_)
    · refine g_iconst mzi_1 (g_goto (tg := 17) rfl ms_300_17 ?_)
      exact g_zret (z := true) rfl (hr _ hC)
    · refine g_iconst mzi_0 ?_
      exact g_zret (z := false) rfl (hr _ hC)
theorem cs_300 (hd : 2 ≤ d) (hS : mz_ext S 232) (hR : mz_rok R 232)  (v0 : Int32) (v1 : Int32) (hp : cp_300_0 v0 v1) (hq : Q (.inl (some (.int (mz_b01 (cf_300_0 v0 v1))))) (mz_k S R N b t)) : mz_Ed (mz_X0 L xs) d 300 [.int v0, .int v1] (mz_k S R N b t) Q :=
  by
  refine g_in mzq_300 (Nat.le_of_ble_eq_true rfl) (Nat.le_of_ble_eq_true rfl) (Nat.le_trans (Nat.le_of_ble_eq_true rfl) hd) ?_
  refine g_weak ?_ (cg_300_0 (d := d - 1) (by omega) hS hR v0 v1 (C0 := fun z => Q (.inl (some (.int (mz_b01 z)))) (mz_k S R N b t)) (fun _ h => h) hp hq)
  exact ⟨rfl, rfl, trivial⟩
/-! 301 KeptHouse$Access.freeDoor ()I -/
theorem ms_301_0 : mz_sf mk_301 0 = mk_301 := mz_sf_zero _
theorem ms_301_2 : mz_sf mk_301 2 = mt_301_2 := mz_sf_add ms_301_0 (t := 2) rfl rfl
theorem ms_301_19 : mz_sf mk_301 19 = mt_301_19 := mz_sf_add ms_301_2 (t := 17) rfl rfl
theorem ms_301_25 : mz_sf mk_301 25 = mt_301_25 := mz_sf_add ms_301_19 (t := 6) rfl rfl
set_option maxRecDepth 100000 in
theorem mzq_301 : mz_PG0 301 = some (0, ⟨"KeptHouse$Access", "freeDoor", "()I"⟩, prog_2_method_4_code, 2, some .int, [], mk_301, []) := rfl
theorem cb_301_2 (hd : 0 ≤ d) (hS : mz_ext S 232) (hR : mz_rok R 232)  (N : mz_N) (s : Int32) {C0 : (Int32) → Prop} (hr : ∀ (w : Int32), C0 w → Q (.inl (some (.int w))) (mz_k S R N b t)) {C1 : ((Int32) ⊕ (Int32)) → Prop} (hc1 : ∀ s2, C1 (.inl s2) → mz_G (d, mz_X0 L xs, some .int, [], mk_301, 2, Q) 2 mt_301_2 [(0, .ref 100), (1, .int s2)] [] false (mz_k S R N b t)) (hx1 : ∀ z, C1 (.inr z) → C0 z) (hp : cd_301_2 N s) (hC : C1 (cq_301_2 N s)) : mz_G (d, mz_X0 L xs, some .int, [], mk_301, 2, Q) 2 mt_301_2 [(0, .ref 100), (1, .int s)] [] false (mz_k S R N b t) := by
  unfold cq_301_2 at hC
  unfold cd_301_2 at hp
  refine g_iload_n rfl (g_bipush mzb_20 ?_)
  refine g_icge (tg := 25) rfl ms_301_25 hC (fun h1 hC => ?_) (fun h1 hC => ?_)
  · have hp := hp.1 h1
    refine g_aload_n rfl (g_getR (mz_at hS (Nat.le_of_ble_eq_true rfl) mzcS_100) mzcf_0_0 (mz_rb hR (Nat.le_of_ble_eq_true rfl) rfl mzcR_100_0) (g_iload_n rfl ?_))
    have h2 := hp
    refine g_iald hS.1 (mz_at hS (Nat.le_of_ble_eq_true rfl) mzcS_101) h2 ?_
    refine g_ifne (tg := 19) rfl ms_301_19 hC (fun h3 hC => ?_) (fun h3 hC => ?_)
    · refine g_iload_n rfl ?_
      exact g_iret rfl (hr _ (hx1 _ hC))
    · refine g_iinc rfl mzi_1 (Nat.le_of_ble_eq_true rfl) rfl (g_goto (tg := 2) rfl ms_301_2 ?_)
      refine g_weak ?_ (g_cl (hc1 ((s + 1)) hC))
      exact ⟨rfl, rfl, trivial⟩
  · have hp := hp.2 h1
    refine g_iconst mzi_m1 ?_
    exact g_iret rfl (hr _ (hx1 _ hC))
theorem cg_301_2 (hd : 0 ≤ d) (hS : mz_ext S 232) (hR : mz_rok R 232)  (v1 : Int32) (N : mz_N) {C0 : (Int32) → Prop} (hr : ∀ (w : Int32), C0 w → Q (.inl (some (.int w))) (mz_k S R N b t)) (hp : cp_301_2 v1 N) (hC : C0 (cf_301_2 v1 N)) : mz_G (d, mz_X0 L xs, some .int, [], mk_301, 2, Q) 2 mt_301_2 [(0, .ref 100), (1, .int v1)] [] false (mz_k S R N b t) := by
  obtain ⟨n, hn⟩ := hp
  exact g_loop (G := fun s => mz_G (d, mz_X0 L xs, some .int, [], mk_301, 2, Q) 2 mt_301_2 [(0, .ref 100), (1, .int s)] [] false (mz_k S R N b t)) (C := C0) (fun C2 hc hx s hP hC => cb_301_2 hd hS hR N s hr hc hx hP hC) n (v1) hn hC
theorem cg_301_0 (hd : 0 ≤ d) (hS : mz_ext S 232) (hR : mz_rok R 232)  (N : mz_N) {C0 : (Int32) → Prop} (hr : ∀ (w : Int32), C0 w → Q (.inl (some (.int w))) (mz_k S R N b t)) (hp : cp_301_0 N) (hC : C0 (cf_301_0 N)) : mz_G (d, mz_X0 L xs, some .int, [], mk_301, 2, Q) 0 mk_301 [(0, .ref 100)] [] true (mz_k S R N b t) := by
  unfold cf_301_0 at hC
  unfold cp_301_0 at hp
  refine g_iconst mzi_0 (g_istore_n (Nat.le_of_ble_eq_true rfl) rfl ?_)
  refine g_weak ?_ (g_cl (cg_301_2 hd hS hR 0 N hr hp hC))
  exact ⟨rfl, rfl, trivial⟩
theorem cs_301 (hd : 1 ≤ d) (hS : mz_ext S 232) (hR : mz_rok R 232)  (N : mz_N) (hp : cp_301_0 N) (hq : Q (.inl (some (.int (cf_301_0 N)))) (mz_k S R N b t)) : mz_Ed (mz_X0 L xs) d 301 [.ref 100] (mz_k S R N b t) Q :=
  by
  refine g_in mzq_301 (Nat.le_of_ble_eq_true rfl) (Nat.le_of_ble_eq_true rfl) (Nat.le_trans (Nat.le_of_ble_eq_true rfl) hd) ?_
  refine g_weak ?_ (cg_301_0 (d := d - 1) (by omega) hS hR N (C0 := fun z => Q (.inl (some (.int z))) (mz_k S R N b t)) (fun _ h => h) hp hq)
  exact ⟨rfl, trivial⟩
/-! 299 KeptHouse.door (II)I -/
theorem ms_299_0 : mz_sf mk_299 0 = mk_299 := mz_sf_zero _
theorem ms_299_25 : mz_sf mk_299 25 = mt_299_25 := mz_sf_add ms_299_0 (t := 25) rfl rfl
theorem ms_299_42 : mz_sf mk_299 42 = mt_299_42 := mz_sf_add ms_299_25 (t := 17) rfl rfl
set_option maxRecDepth 100000 in
theorem mzq_299 : mz_PG0 299 = some (11, ⟨"KeptHouse", "door", "(II)I"⟩, prog_1_method_42_code, 4, some .int, [], mk_299, []) := rfl
theorem cg_299_0 (hd : 5 ≤ d) (hS : mz_ext S 232) (hR : mz_rok R 232)  (v1 : Int32) (v2 : Int32) (N : mz_N) (b : Bool) {C0 : (Nat × Int32 × mz_N) → Prop} (hr : ∀ (w : Int32) (N2 : mz_N), C0 (0, w, N2) → Q (.inl (some (.int w))) (mz_k S R N2 b t)) (ht : ∀ (c : Nat) (w : Int32) (N2 : mz_N), ¬ c = 0 → C0 (c, w, N2) → Q (.inr (c - 1)) (mz_k S R N2 b (t + 1))) (h1000 : t < 1000) (hp : cp_299_0 v1 v2 N b) (hC : C0 (cf_299_0 v1 v2 N b)) : mz_G (d, mz_X0 L xs, some .int, [], mk_299, 4, Q) 0 mk_299 [(0, .ref 0), (1, .int v1), (2, .int v2)] [] true (mz_k S R N b t) := by
  unfold cf_299_0 at hC
  unfold cp_299_0 at hp
  refine g_aload_n rfl ?_
  obtain ⟨h1, hp⟩ := hp
  refine g_v1nt (Nat.le_of_ble_eq_true rfl) (mz_at hS (Nat.le_of_ble_eq_true rfl) mzcS_0) rfl (fun _ h0 h1 => cs_104 (Nat.le_trans (Nat.le_of_ble_eq_true rfl) hd) (hS.le (Nat.le_of_ble_eq_true rfl)) (hR.le (Nat.le_of_ble_eq_true rfl))  N h1 h1000 h0 h1) hC (fun h13 hC => ?_) (fun h13 hC => ?_)
  · have hp := hp.1 h13
    refine g_iload_n rfl (g_iconst mzi_0 (g_iconst mzi_4 ?_))
    obtain ⟨h2, hp⟩ := hp
    refine g_s3nt (Nat.le_of_ble_eq_true rfl) rfl (fun _ h0 h1 => cs_105 (Nat.le_trans (Nat.le_of_ble_eq_true rfl) hd) (hS.le (Nat.le_of_ble_eq_true rfl)) (hR.le (Nat.le_of_ble_eq_true rfl))  v1 0 4 h2 h1000 h0 h1) hC (fun h12 hC => ?_) (fun h12 hC => ?_)
    · have hp := hp.1 h12
      refine g_iload_n rfl (g_iconst mzi_0 (g_bipush mzb_109 ?_))
      obtain ⟨h3, hp⟩ := hp
      refine g_s3nt (Nat.le_of_ble_eq_true rfl) rfl (fun _ h0 h1 => cs_105 (Nat.le_trans (Nat.le_of_ble_eq_true rfl) hd) (hS.le (Nat.le_of_ble_eq_true rfl)) (hR.le (Nat.le_of_ble_eq_true rfl))  v2 0 109 h3 h1000 h0 h1) hC (fun h11 hC => ?_) (fun h11 hC => ?_)
      · have hp := hp.1 h11
        refine g_iload_n rfl (g_iload_n rfl ?_)
        refine g_s2v (Nat.le_of_ble_eq_true rfl) (fun _ hq => cs_300 (Nat.le_trans (Nat.le_of_ble_eq_true rfl) hd) (hS.le (Nat.le_of_ble_eq_true rfl)) (hR.le (Nat.le_of_ble_eq_true rfl))  v1 v2 trivial hq) ?_
        refine g_s1nt (Nat.le_of_ble_eq_true rfl) rfl (fun _ h0 h1 => cs_142 (Nat.le_trans (Nat.le_of_ble_eq_true rfl) hd) (hS.le (Nat.le_of_ble_eq_true rfl)) (hR.le (Nat.le_of_ble_eq_true rfl))  (cf_300_0 v1 v2) trivial h1000 h0 h1) hC (fun h10 hC => ?_) (fun h10 hC => ?_)
        · have hp := hp.1 h10
          refine g_aload_n rfl (g_getR (mz_at hS (Nat.le_of_ble_eq_true rfl) mzcS_0) mzcf_11_6 (mz_rb hR (Nat.le_of_ble_eq_true rfl) rfl mzcR_0_6) ?_)
          obtain ⟨h6, hp⟩ := hp
          refine g_v1v (Nat.le_of_ble_eq_true rfl) (mz_at hS (Nat.le_of_ble_eq_true rfl) mzcS_100) (fun _ hq => cs_301 (Nat.le_trans (Nat.le_of_ble_eq_true rfl) hd) (hS.le (Nat.le_of_ble_eq_true rfl)) (hR.le (Nat.le_of_ble_eq_true rfl))  N h6 hq) (g_istore_n (Nat.le_of_ble_eq_true rfl) rfl (g_iload_n rfl (g_iconst mzi_m1 ?_)))
          refine g_icne (tg := 42) rfl ms_299_42 hC (fun h7 hC => ?_) (fun h7 hC => ?_)
          · have hp := hp.1 h7
            refine g_sipush mzs_m1003 ?_
            exact g_iret rfl (hr _ _ hC)
          · have hp := hp.2 h7
            refine g_aload_n rfl (g_getR (mz_at hS (Nat.le_of_ble_eq_true rfl) mzcS_0) mzcf_11_6 (mz_rb hR (Nat.le_of_ble_eq_true rfl) rfl mzcR_0_6) (g_iload_n rfl (g_iload_n rfl (g_iload_n rfl ?_))))
            obtain ⟨h8, hp⟩ := hp
            refine g_v4n (Nat.le_of_ble_eq_true rfl) (mz_at hS (Nat.le_of_ble_eq_true rfl) mzcS_100) (fun _ hq => cs_69 (Nat.le_trans (Nat.le_of_ble_eq_true rfl) hd) (hS.le (Nat.le_of_ble_eq_true rfl)) (hR.le (Nat.le_of_ble_eq_true rfl))  (cf_301_0 N) v1 v2 N h8 hq) (g_aload_n rfl (g_bipush mzb_13 (g_iload_n rfl (g_iload_n rfl ?_))))
            have h9 := hp
            refine g_v4v (Nat.le_of_ble_eq_true rfl) (mz_at hS (Nat.le_of_ble_eq_true rfl) mzcS_0) (fun _ hq => cs_171 (Nat.le_trans (Nat.le_of_ble_eq_true rfl) hd) (hS.le (Nat.le_of_ble_eq_true rfl)) (hR.le (Nat.le_of_ble_eq_true rfl))  13 (cf_301_0 N) (cf_301_0 N) (cf_69_0 (cf_301_0 N) v1 v2 N) b h9 hq) ?_
            exact g_iret rfl (hr _ _ hC)
        · have hp := hp.2 h10
          exact ht _ _ _ h10 hC
      · have hp := hp.2 h11
        exact ht _ _ _ h11 hC
    · have hp := hp.2 h12
      exact ht _ _ _ h12 hC
  · have hp := hp.2 h13
    exact ht _ _ _ h13 hC
theorem cs_299 (hd : 6 ≤ d) (hS : mz_ext S 232) (hR : mz_rok R 232)  (v1 : Int32) (v2 : Int32) (N : mz_N) (b : Bool) (hp : cp_299_0 v1 v2 N b) (h1000 : t < 1000) (h0 : (cf_299_0 v1 v2 N b).1 = 0 → Q (.inl (some (.int ((cf_299_0 v1 v2 N b).2.1)))) (mz_k S R ((cf_299_0 v1 v2 N b).2.2) b t)) (h1 : ¬ (cf_299_0 v1 v2 N b).1 = 0 → Q (.inr (((cf_299_0 v1 v2 N b).1) - 1)) (mz_k S R ((cf_299_0 v1 v2 N b).2.2) b (t + 1))) : mz_Ed (mz_X0 L xs) d 299 [.ref 0, .int v1, .int v2] (mz_k S R N b t) Q :=
  by
  refine g_in mzq_299 (Nat.le_of_ble_eq_true rfl) (Nat.le_of_ble_eq_true rfl) (Nat.le_trans (Nat.le_of_ble_eq_true rfl) hd) ?_
  refine g_weak ?_ (cg_299_0 (d := d - 1) (by omega) hS hR v1 v2 N b (C0 := fun z => (z.1 = 0 → Q (.inl (some (.int z.2.1))) (mz_k S R z.2.2 b t)) ∧ (¬ z.1 = 0 → Q (.inr (z.1 - 1)) (mz_k S R z.2.2 b (t + 1)))) (fun _ _ h => h.1 rfl) (fun c _ _ hc h => h.2 hc) h1000 hp ⟨h0, h1⟩)
  exact ⟨rfl, rfl, rfl, trivial⟩
/-! 298 KeptHouseLaw.door (LKeptHouse;II[J)I -/
theorem ms_298_0 : mz_sf mk_298 0 = mk_298 := mz_sf_zero _
theorem ms_298_15 : mz_sf mk_298 15 = mt_298_15 := mz_sf_add ms_298_0 (t := 15) rfl rfl
theorem ms_298_19 : mz_sf mk_298 19 = mt_298_19 := mz_sf_add ms_298_15 (t := 4) rfl rfl
theorem ms_298_21 : mz_sf mk_298 21 = mt_298_21 := mz_sf_add ms_298_19 (t := 2) rfl rfl
set_option maxRecDepth 100000 in
theorem mzq_298 : mz_PG0 298 = some (13, ⟨"KeptHouseLaw", "door", "(LKeptHouse;II[J)I"⟩, method_38_code, 5, some .int, [(0, 10, 13, 13), (0, 10, 17, 15)], mk_298, [(0, 13, 15), (1, 17, 19)]) := rfl
theorem cg_298_21 (hd : 6 ≤ d) (hS : mz_ext S 343) (hR : mz_rok R 343)  (N : mz_N) (b : Bool) (t : Nat) {C0 : (Int32 × mz_N × Nat) → Prop} (hr : ∀ (w : Int32) (N2 : mz_N) (t2 : Nat), C0 (w, N2, t2) → Q (.inl (some (.int w))) (mz_k S R N2 b t2)) (hp : cp_298_21 N b t) (hC : C0 (cf_298_21 N b t)) : mz_G (d, mz_X0 L xs, some .int, [(0, 13, 15), (1, 17, 19)], mk_298, 5, Q) 21 mt_298_21 [] [] false (mz_k S R N b t) := by
  unfold cf_298_21 at hC
  unfold cp_298_21 at hp
  refine g_iconst mzi_0 ?_
  exact g_iret rfl (hr _ _ _ hC)
theorem cg_298_0 (hd : 6 ≤ d) (hS : mz_ext S 343) (hR : mz_rok R 343)  (v1 : Int32) (v2 : Int32) (N : mz_N) (b : Bool) (t : Nat) {C0 : (Int32 × mz_N × Nat) → Prop} (hr : ∀ (w : Int32) (N2 : mz_N) (t2 : Nat), C0 (w, N2, t2) → Q (.inl (some (.int w))) (mz_k S R N2 b t2)) (hp : cp_298_0 v1 v2 N b t) (hC : C0 (cf_298_0 v1 v2 N b t)) : mz_G (d, mz_X0 L xs, some .int, [(0, 13, 15), (1, 17, 19)], mk_298, 5, Q) 0 mk_298 [(0, .ref 0), (1, .int v1), (2, .int v2), (3, .ref 342)] [] true (mz_k S R N b t) := by
  unfold cf_298_0 at hC
  unfold cp_298_0 at hp
  refine g_aload_n rfl (g_iconst mzi_0 (g_aload_n rfl (g_iload_n rfl (g_iload_n rfl ?_))))
  obtain ⟨h1, hp⟩ := hp
  obtain ⟨h1000, hp⟩ := hp
  refine g_v3vh (Nat.le_of_ble_eq_true rfl) (mz_at hS (Nat.le_of_ble_eq_true rfl) mzcS_0) (fun _ h0 h1 => cs_299 (Nat.le_trans (Nat.le_of_ble_eq_true rfl) hd) (hS.le (Nat.le_of_ble_eq_true rfl)) (hR.le (Nat.le_of_ble_eq_true rfl))  v1 v2 N b h1 h1000 h0 h1) hC (fun h2 hC => ?_) (fun h2 hC => ?_)
  · have hp := hp.1 h2
    refine g_i2l (g_last (mz_at hS (Nat.le_of_ble_eq_true rfl) mzcS_342) (mz_ibd (by decide)) (g_goto (tg := 21) rfl ms_298_21 ?_))
    refine g_weak ?_ (g_cl (cg_298_21 hd hS hR (mz_wL ((cf_299_0 v1 v2 N b).2.2) 342 0 (((cf_299_0 v1 v2 N b).2.1).toInt64)) b t hr hp hC))
    exact trivial
  · have hp := hp.2 h2
    refine mz_cs hC (fun h6 hC => ?_) (fun h6 hC => ?_)
    · have hp := hp.1 h6
      refine ⟨(0, 13, 15), (by rw [h6]; rfl), ?_⟩
      show mz_G (d, mz_X0 L xs, some .int, [(0, 13, 15), (1, 17, 19)], mk_298, 5, Q) 15 (mz_sf mk_298 15) [] [] false (mz_k S R ((cf_299_0 v1 v2 N b).2.2) b (t + 1))
      rw [ms_298_15]
      refine g_iconst mzi_1 ?_
      exact g_iret rfl (hr _ _ _ hC)
    · have hp := hp.2 h6
      have h4 := hp
      refine ⟨(1, 17, 19), (by rw [h4]; rfl), ?_⟩
      show mz_G (d, mz_X0 L xs, some .int, [(0, 13, 15), (1, 17, 19)], mk_298, 5, Q) 19 (mz_sf mk_298 19) [] [] false (mz_k S R ((cf_299_0 v1 v2 N b).2.2) b (t + 1))
      rw [ms_298_19]
      refine g_iconst mzi_2 ?_
      exact g_iret rfl (hr _ _ _ hC)
theorem cs_298 (hd : 7 ≤ d) (hS : mz_ext S 343) (hR : mz_rok R 343)  (v1 : Int32) (v2 : Int32) (N : mz_N) (b : Bool) (t : Nat) (hp : cp_298_0 v1 v2 N b t) (hq : Q (.inl (some (.int ((cf_298_0 v1 v2 N b t).1)))) (mz_k S R ((cf_298_0 v1 v2 N b t).2.1) b ((cf_298_0 v1 v2 N b t).2.2))) : mz_Ed (mz_X0 L xs) d 298 [.ref 0, .int v1, .int v2, .ref 342] (mz_k S R N b t) Q :=
  by
  refine g_in mzq_298 (Nat.le_of_ble_eq_true rfl) (Nat.le_of_ble_eq_true rfl) (Nat.le_trans (Nat.le_of_ble_eq_true rfl) hd) ?_
  refine g_weak ?_ (cg_298_0 (d := d - 1) (by omega) hS hR v1 v2 N b t (C0 := fun z => Q (.inl (some (.int z.1))) (mz_k S R z.2.1 b z.2.2)) (fun _ _ _ h => h) hp hq)
  exact ⟨rfl, rfl, rfl, rfl, trivial⟩
/-! 303 KeptHouse.card (IIIIZ)I -/
theorem ms_303_0 : mz_sf mk_303 0 = mk_303 := mz_sf_zero _
theorem ms_303_26 : mz_sf mk_303 26 = mt_303_26 := mz_sf_add ms_303_0 (t := 26) rfl rfl
theorem ms_303_52 : mz_sf mk_303 52 = mt_303_52 := mz_sf_add ms_303_26 (t := 26) rfl rfl
theorem ms_303_53 : mz_sf mk_303 53 = mt_303_53 := mz_sf_add ms_303_52 (t := 1) rfl rfl
set_option maxRecDepth 100000 in
theorem mzq_303 : mz_PG0 303 = some (11, ⟨"KeptHouse", "card", "(IIIIZ)I"⟩, prog_1_method_43_code, 6, some .int, [], mk_303, []) := rfl
theorem cg_303_53 (hd : 5 ≤ d) (hS : mz_ext S 232) (hR : mz_rok R 232)  (s1 : Int32) (s2 : Int32) (s3 : Int32) (s4 : Int32) (s5 : Bool) (v1 : Int32) (N : mz_N) (b : Bool) {C0 : (Nat × Int32 × mz_N) → Prop} (hr : ∀ (w : Int32) (N2 : mz_N), C0 (0, w, N2) → Q (.inl (some (.int w))) (mz_k S R N2 b t)) (ht : ∀ (c : Nat) (w : Int32) (N2 : mz_N), ¬ c = 0 → C0 (c, w, N2) → Q (.inr (c - 1)) (mz_k S R N2 b (t + 1))) (h1000 : t < 1000) (hp : cp_303_53 s1 s2 s3 s4 s5 v1 N b) (hC : C0 (cf_303_53 s1 s2 s3 s4 s5 v1 N b)) : mz_G (d, mz_X0 L xs, some .int, [], mk_303, 6, Q) 53 mt_303_53 [(0, .ref 0), (1, .int v1)] [.int (mz_b01 s5), .int s4, .int s3, .int s2, .int s1, .ref 100] false (mz_k S R N b t) := by
  unfold cf_303_53 at hC
  unfold cp_303_53 at hp
  obtain ⟨h1, hp⟩ := hp
  refine g_v6n (Nat.le_of_ble_eq_true rfl) (mz_at hS (Nat.le_of_ble_eq_true rfl) mzcS_100) (fun _ hq => cs_71 (Nat.le_trans (Nat.le_of_ble_eq_true rfl) hd) (hS.le (Nat.le_of_ble_eq_true rfl)) (hR.le (Nat.le_of_ble_eq_true rfl))  s1 s2 s3 s4 (mz_b01 s5) N h1 hq) (g_aload_n rfl (g_bipush mzb_14 (g_iload_n rfl (g_iconst mzi_0 ?_))))
  have h2 := hp
  refine g_v4v (Nat.le_of_ble_eq_true rfl) (mz_at hS (Nat.le_of_ble_eq_true rfl) mzcS_0) (fun _ hq => cs_171 (Nat.le_trans (Nat.le_of_ble_eq_true rfl) hd) (hS.le (Nat.le_of_ble_eq_true rfl)) (hR.le (Nat.le_of_ble_eq_true rfl))  14 v1 0 (cf_71_0 s1 s2 s3 s4 (mz_b01 s5) N) b h2 hq) ?_
  exact g_iret rfl (hr _ _ hC)
theorem cg_303_0 (hd : 5 ≤ d) (hS : mz_ext S 232) (hR : mz_rok R 232)  (v1 : Int32) (v2 : Int32) (v3 : Int32) (v4 : Int32) (v5 : Bool) (N : mz_N) (b : Bool) {C0 : (Nat × Int32 × mz_N) → Prop} (hr : ∀ (w : Int32) (N2 : mz_N), C0 (0, w, N2) → Q (.inl (some (.int w))) (mz_k S R N2 b t)) (ht : ∀ (c : Nat) (w : Int32) (N2 : mz_N), ¬ c = 0 → C0 (c, w, N2) → Q (.inr (c - 1)) (mz_k S R N2 b (t + 1))) (h1000 : t < 1000) (hp : cp_303_0 v1 v2 v3 v4 v5 N b) (hC : C0 (cf_303_0 v1 v2 v3 v4 v5 N b)) : mz_G (d, mz_X0 L xs, some .int, [], mk_303, 6, Q) 0 mk_303 [(0, .ref 0), (1, .int v1), (2, .int v2), (3, .int v3), (4, .int v4), (5, .int (mz_b01 v5))] [] true (mz_k S R N b t) := by
  unfold cf_303_0 at hC
  unfold cp_303_0 at hp
  refine g_aload_n rfl ?_
  obtain ⟨h1, hp⟩ := hp
  refine g_v1nt (Nat.le_of_ble_eq_true rfl) (mz_at hS (Nat.le_of_ble_eq_true rfl) mzcS_0) rfl (fun _ h0 h1 => cs_104 (Nat.le_trans (Nat.le_of_ble_eq_true rfl) hd) (hS.le (Nat.le_of_ble_eq_true rfl)) (hR.le (Nat.le_of_ble_eq_true rfl))  N h1 h1000 h0 h1) hC (fun h11 hC => ?_) (fun h11 hC => ?_)
  · have hp := hp.1 h11
    refine g_iload_n rfl (g_iconst mzi_0 (g_bipush mzb_39 ?_))
    obtain ⟨h2, hp⟩ := hp
    refine g_s3nt (Nat.le_of_ble_eq_true rfl) rfl (fun _ h0 h1 => cs_105 (Nat.le_trans (Nat.le_of_ble_eq_true rfl) hd) (hS.le (Nat.le_of_ble_eq_true rfl)) (hR.le (Nat.le_of_ble_eq_true rfl))  v1 0 39 h2 h1000 h0 h1) hC (fun h10 hC => ?_) (fun h10 hC => ?_)
    · have hp := hp.1 h10
      refine g_iload_n rfl (g_iconst mzi_0 (g_con3 ?_))
      obtain ⟨h3, hp⟩ := hp
      refine g_s3nt (Nat.le_of_ble_eq_true rfl) rfl (fun _ h0 h1 => cs_105 (Nat.le_trans (Nat.le_of_ble_eq_true rfl) hd) (hS.le (Nat.le_of_ble_eq_true rfl)) (hR.le (Nat.le_of_ble_eq_true rfl))  v2 0 1048575 h3 h1000 h0 h1) hC (fun h9 hC => ?_) (fun h9 hC => ?_)
      · have hp := hp.1 h9
        refine g_iload_n rfl (g_iconst mzi_0 (g_bipush mzb_23 ?_))
        obtain ⟨h4, hp⟩ := hp
        refine g_s3nt (Nat.le_of_ble_eq_true rfl) rfl (fun _ h0 h1 => cs_105 (Nat.le_trans (Nat.le_of_ble_eq_true rfl) hd) (hS.le (Nat.le_of_ble_eq_true rfl)) (hR.le (Nat.le_of_ble_eq_true rfl))  v3 0 23 h4 h1000 h0 h1) hC (fun h8 hC => ?_) (fun h8 hC => ?_)
        · have hp := hp.1 h8
          refine g_iload rfl (g_iconst mzi_0 (g_bipush mzb_23 ?_))
          obtain ⟨h5, hp⟩ := hp
          refine g_s3nt (Nat.le_of_ble_eq_true rfl) rfl (fun _ h0 h1 => cs_105 (Nat.le_trans (Nat.le_of_ble_eq_true rfl) hd) (hS.le (Nat.le_of_ble_eq_true rfl)) (hR.le (Nat.le_of_ble_eq_true rfl))  v4 0 23 h5 h1000 h0 h1) hC (fun h7 hC => ?_) (fun h7 hC => ?_)
          · have hp := hp.1 h7
            refine g_aload_n rfl (g_getR (mz_at hS (Nat.le_of_ble_eq_true rfl) mzcS_0) mzcf_11_6 (mz_rb hR (Nat.le_of_ble_eq_true rfl) rfl mzcR_0_6) (g_iload_n rfl (g_iload_n rfl (g_iload_n rfl (g_iload rfl (g_iload rfl ?_))))))
            refine g_zeq (tg := 52) rfl ms_303_52 hC (fun h6 hC => ?_) (fun h6 hC => ?_)
            · have hp := hp.1 h6
              refine g_iconst mzi_1 (g_goto (tg := 53) rfl ms_303_53 ?_)
              refine g_weak ?_ (g_cl (cg_303_53 hd hS hR v1 v2 v3 v4 true v1 N b hr ht h1000 hp hC))
              exact ⟨rfl, rfl, trivial⟩
            · have hp := hp.2 h6
              refine g_iconst mzi_0 ?_
              refine g_weak ?_ (g_cl (cg_303_53 hd hS hR v1 v2 v3 v4 false v1 N b hr ht h1000 hp hC))
              exact ⟨rfl, rfl, trivial⟩
          · have hp := hp.2 h7
            exact ht _ _ _ h7 hC
        · have hp := hp.2 h8
          exact ht _ _ _ h8 hC
      · have hp := hp.2 h9
        exact ht _ _ _ h9 hC
    · have hp := hp.2 h10
      exact ht _ _ _ h10 hC
  · have hp := hp.2 h11
    exact ht _ _ _ h11 hC
theorem cs_303 (hd : 6 ≤ d) (hS : mz_ext S 232) (hR : mz_rok R 232)  (v1 : Int32) (v2 : Int32) (v3 : Int32) (v4 : Int32) (v5 : Bool) (N : mz_N) (b : Bool) (hp : cp_303_0 v1 v2 v3 v4 v5 N b) (h1000 : t < 1000) (h0 : (cf_303_0 v1 v2 v3 v4 v5 N b).1 = 0 → Q (.inl (some (.int ((cf_303_0 v1 v2 v3 v4 v5 N b).2.1)))) (mz_k S R ((cf_303_0 v1 v2 v3 v4 v5 N b).2.2) b t)) (h1 : ¬ (cf_303_0 v1 v2 v3 v4 v5 N b).1 = 0 → Q (.inr (((cf_303_0 v1 v2 v3 v4 v5 N b).1) - 1)) (mz_k S R ((cf_303_0 v1 v2 v3 v4 v5 N b).2.2) b (t + 1))) : mz_Ed (mz_X0 L xs) d 303 [.ref 0, .int v1, .int v2, .int v3, .int v4, .int (mz_b01 v5)] (mz_k S R N b t) Q :=
  by
  refine g_in mzq_303 (Nat.le_of_ble_eq_true rfl) (Nat.le_of_ble_eq_true rfl) (Nat.le_trans (Nat.le_of_ble_eq_true rfl) hd) ?_
  refine g_weak ?_ (cg_303_0 (d := d - 1) (by omega) hS hR v1 v2 v3 v4 v5 N b (C0 := fun z => (z.1 = 0 → Q (.inl (some (.int z.2.1))) (mz_k S R z.2.2 b t)) ∧ (¬ z.1 = 0 → Q (.inr (z.1 - 1)) (mz_k S R z.2.2 b (t + 1)))) (fun _ _ h => h.1 rfl) (fun c _ _ hc h => h.2 hc) h1000 hp ⟨h0, h1⟩)
  exact ⟨rfl, rfl, rfl, rfl, rfl, rfl, trivial⟩
/-! 302 KeptHouseLaw.card (LKeptHouse;IIIIZ[J)I -/
theorem ms_302_0 : mz_sf mk_302 0 = mk_302 := mz_sf_zero _
theorem ms_302_21 : mz_sf mk_302 21 = mt_302_21 := mz_sf_add ms_302_0 (t := 21) rfl rfl
theorem ms_302_25 : mz_sf mk_302 25 = mt_302_25 := mz_sf_add ms_302_21 (t := 4) rfl rfl
theorem ms_302_27 : mz_sf mk_302 27 = mt_302_27 := mz_sf_add ms_302_25 (t := 2) rfl rfl
set_option maxRecDepth 100000 in
theorem mzq_302 : mz_PG0 302 = some (13, ⟨"KeptHouseLaw", "card", "(LKeptHouse;IIIIZ[J)I"⟩, method_39_code, 8, some .int, [(0, 16, 19, 13), (0, 16, 23, 15)], mk_302, [(0, 19, 21), (1, 23, 25)]) := rfl
theorem cg_302_27 (hd : 6 ≤ d) (hS : mz_ext S 343) (hR : mz_rok R 343)  (N : mz_N) (b : Bool) (t : Nat) {C0 : (Int32 × mz_N × Nat) → Prop} (hr : ∀ (w : Int32) (N2 : mz_N) (t2 : Nat), C0 (w, N2, t2) → Q (.inl (some (.int w))) (mz_k S R N2 b t2)) (hp : cp_302_27 N b t) (hC : C0 (cf_302_27 N b t)) : mz_G (d, mz_X0 L xs, some .int, [(0, 19, 21), (1, 23, 25)], mk_302, 8, Q) 27 mt_302_27 [] [] false (mz_k S R N b t) := by
  unfold cf_302_27 at hC
  unfold cp_302_27 at hp
  refine g_iconst mzi_0 ?_
  exact g_iret rfl (hr _ _ _ hC)
theorem cg_302_0 (hd : 6 ≤ d) (hS : mz_ext S 343) (hR : mz_rok R 343)  (v1 : Int32) (v2 : Int32) (v3 : Int32) (v4 : Int32) (v5 : Bool) (N : mz_N) (b : Bool) (t : Nat) {C0 : (Int32 × mz_N × Nat) → Prop} (hr : ∀ (w : Int32) (N2 : mz_N) (t2 : Nat), C0 (w, N2, t2) → Q (.inl (some (.int w))) (mz_k S R N2 b t2)) (hp : cp_302_0 v1 v2 v3 v4 v5 N b t) (hC : C0 (cf_302_0 v1 v2 v3 v4 v5 N b t)) : mz_G (d, mz_X0 L xs, some .int, [(0, 19, 21), (1, 23, 25)], mk_302, 8, Q) 0 mk_302 [(0, .ref 0), (1, .int v1), (2, .int v2), (3, .int v3), (4, .int v4), (5, .int (mz_b01 v5)), (6, .ref 342)] [] true (mz_k S R N b t) := by
  unfold cf_302_0 at hC
  unfold cp_302_0 at hp
  refine g_aload rfl (g_iconst mzi_0 (g_aload_n rfl (g_iload_n rfl (g_iload_n rfl (g_iload_n rfl (g_iload rfl (g_iload rfl ?_)))))))
  obtain ⟨h1, hp⟩ := hp
  obtain ⟨h1000, hp⟩ := hp
  refine g_v6vh (Nat.le_of_ble_eq_true rfl) (mz_at hS (Nat.le_of_ble_eq_true rfl) mzcS_0) (fun _ h0 h1 => cs_303 (Nat.le_trans (Nat.le_of_ble_eq_true rfl) hd) (hS.le (Nat.le_of_ble_eq_true rfl)) (hR.le (Nat.le_of_ble_eq_true rfl))  v1 v2 v3 v4 v5 N b h1 h1000 h0 h1) hC (fun h2 hC => ?_) (fun h2 hC => ?_)
  · have hp := hp.1 h2
    refine g_i2l (g_last (mz_at hS (Nat.le_of_ble_eq_true rfl) mzcS_342) (mz_ibd (by decide)) (g_goto (tg := 27) rfl ms_302_27 ?_))
    refine g_weak ?_ (g_cl (cg_302_27 hd hS hR (mz_wL ((cf_303_0 v1 v2 v3 v4 v5 N b).2.2) 342 0 (((cf_303_0 v1 v2 v3 v4 v5 N b).2.1).toInt64)) b t hr hp hC))
    exact trivial
  · have hp := hp.2 h2
    refine mz_cs hC (fun h6 hC => ?_) (fun h6 hC => ?_)
    · have hp := hp.1 h6
      refine ⟨(0, 19, 21), (by rw [h6]; rfl), ?_⟩
      show mz_G (d, mz_X0 L xs, some .int, [(0, 19, 21), (1, 23, 25)], mk_302, 8, Q) 21 (mz_sf mk_302 21) [] [] false (mz_k S R ((cf_303_0 v1 v2 v3 v4 v5 N b).2.2) b (t + 1))
      rw [ms_302_21]
      refine g_iconst mzi_1 ?_
      exact g_iret rfl (hr _ _ _ hC)
    · have hp := hp.2 h6
      have h4 := hp
      refine ⟨(1, 23, 25), (by rw [h4]; rfl), ?_⟩
      show mz_G (d, mz_X0 L xs, some .int, [(0, 19, 21), (1, 23, 25)], mk_302, 8, Q) 25 (mz_sf mk_302 25) [] [] false (mz_k S R ((cf_303_0 v1 v2 v3 v4 v5 N b).2.2) b (t + 1))
      rw [ms_302_25]
      refine g_iconst mzi_2 ?_
      exact g_iret rfl (hr _ _ _ hC)
theorem cs_302 (hd : 7 ≤ d) (hS : mz_ext S 343) (hR : mz_rok R 343)  (v1 : Int32) (v2 : Int32) (v3 : Int32) (v4 : Int32) (v5 : Bool) (N : mz_N) (b : Bool) (t : Nat) (hp : cp_302_0 v1 v2 v3 v4 v5 N b t) (hq : Q (.inl (some (.int ((cf_302_0 v1 v2 v3 v4 v5 N b t).1)))) (mz_k S R ((cf_302_0 v1 v2 v3 v4 v5 N b t).2.1) b ((cf_302_0 v1 v2 v3 v4 v5 N b t).2.2))) : mz_Ed (mz_X0 L xs) d 302 [.ref 0, .int v1, .int v2, .int v3, .int v4, .int (mz_b01 v5), .ref 342] (mz_k S R N b t) Q :=
  by
  refine g_in mzq_302 (Nat.le_of_ble_eq_true rfl) (Nat.le_of_ble_eq_true rfl) (Nat.le_trans (Nat.le_of_ble_eq_true rfl) hd) ?_
  refine g_weak ?_ (cg_302_0 (d := d - 1) (by omega) hS hR v1 v2 v3 v4 v5 N b t (C0 := fun z => Q (.inl (some (.int z.1))) (mz_k S R z.2.1 b z.2.2)) (fun _ _ _ h => h) hp hq)
  exact ⟨rfl, rfl, rfl, rfl, rfl, rfl, rfl, trivial⟩
/-! 306 KeptHouse$Access.isCard (I)Z -/
theorem ms_306_0 : mz_sf mk_306 0 = mk_306 := mz_sf_zero _
theorem ms_306_24 : mz_sf mk_306 24 = mt_306_24 := mz_sf_add ms_306_0 (t := 24) rfl rfl
theorem ms_306_25 : mz_sf mk_306 25 = mt_306_25 := mz_sf_add ms_306_24 (t := 1) rfl rfl
set_option maxRecDepth 100000 in
theorem mzq_306 : mz_PG0 306 = some (0, ⟨"KeptHouse$Access", "isCard", "(I)Z"⟩, prog_2_method_8_code, 2, some .boolean, [], mk_306, []) := rfl
theorem cg_306_0 (hd : 0 ≤ d) (hS : mz_ext S 232) (hR : mz_rok R 232)  (v1 : Int32) (N : mz_N) {C0 : (Bool) → Prop} (hr : ∀ (w : Bool), C0 w → Q (.inl (some (.int (mz_b01 w)))) (mz_k S R N b t)) (hp : cp_306_0 v1 N) (hC : C0 (cf_306_0 v1 N)) : mz_G (d, mz_X0 L xs, some .boolean, [], mk_306, 2, Q) 0 mk_306 [(0, .ref 100), (1, .int v1)] [] true (mz_k S R N b t) := by
  unfold cf_306_0 at hC
  unfold cp_306_0 at hp
  refine g_iload_n rfl ?_
  refine g_iflt (tg := 24) rfl ms_306_24 hC (fun h1 hC => ?_) (fun h1 hC => ?_)
  · have hp := hp.1 h1
    refine g_iconst mzi_0 ?_
    exact g_zret (z := false) rfl (hr _ hC)
  · have hp := hp.2 h1
    refine g_iload_n rfl (g_bipush mzb_40 ?_)
    refine g_icge (tg := 24) rfl ms_306_24 hC (fun h2 hC => ?_) (fun h2 hC => ?_)
    · have hp := hp.1 h2
      refine g_aload_n rfl (g_getR (mz_at hS (Nat.le_of_ble_eq_true rfl) mzcS_100) mzcf_0_3 (mz_rb hR (Nat.le_of_ble_eq_true rfl) rfl mzcR_100_3) (g_iload_n rfl ?_))
      have h3 := hp
      refine g_iald hS.1 (mz_at hS (Nat.le_of_ble_eq_true rfl) mzcS_104) h3 (g_iconst mzi_1 ?_)
      refine g_icne (tg := 24) rfl ms_306_24 hC (fun h4 hC => ?_) (fun h4 hC => ?_)
      · refine g_iconst mzi_1 (g_goto (tg := 25) rfl ms_306_25 ?_)
        exact g_zret (z := true) rfl (hr _ hC)
      · refine g_iconst mzi_0 ?_
        exact g_zret (z := false) rfl (hr _ hC)
    · have hp := hp.2 h2
      refine g_iconst mzi_0 ?_
      exact g_zret (z := false) rfl (hr _ hC)
theorem cs_306 (hd : 1 ≤ d) (hS : mz_ext S 232) (hR : mz_rok R 232)  (v1 : Int32) (N : mz_N) (hp : cp_306_0 v1 N) (hq : Q (.inl (some (.int (mz_b01 (cf_306_0 v1 N))))) (mz_k S R N b t)) : mz_Ed (mz_X0 L xs) d 306 [.ref 100, .int v1] (mz_k S R N b t) Q :=
  by
  refine g_in mzq_306 (Nat.le_of_ble_eq_true rfl) (Nat.le_of_ble_eq_true rfl) (Nat.le_trans (Nat.le_of_ble_eq_true rfl) hd) ?_
  refine g_weak ?_ (cg_306_0 (d := d - 1) (by omega) hS hR v1 N (C0 := fun z => Q (.inl (some (.int (mz_b01 z)))) (mz_k S R N b t)) (fun _ h => h) hp hq)
  exact ⟨rfl, rfl, trivial⟩
/-! 307 KeptHouse$Access.isDoor (I)Z -/
theorem ms_307_0 : mz_sf mk_307 0 = mk_307 := mz_sf_zero _
theorem ms_307_24 : mz_sf mk_307 24 = mt_307_24 := mz_sf_add ms_307_0 (t := 24) rfl rfl
theorem ms_307_25 : mz_sf mk_307 25 = mt_307_25 := mz_sf_add ms_307_24 (t := 1) rfl rfl
set_option maxRecDepth 100000 in
theorem mzq_307 : mz_PG0 307 = some (0, ⟨"KeptHouse$Access", "isDoor", "(I)Z"⟩, prog_2_method_7_code, 2, some .boolean, [], mk_307, []) := rfl
theorem cg_307_0 (hd : 0 ≤ d) (hS : mz_ext S 232) (hR : mz_rok R 232)  (v1 : Int32) (N : mz_N) {C0 : (Bool) → Prop} (hr : ∀ (w : Bool), C0 w → Q (.inl (some (.int (mz_b01 w)))) (mz_k S R N b t)) (hp : cp_307_0 v1 N) (hC : C0 (cf_307_0 v1 N)) : mz_G (d, mz_X0 L xs, some .boolean, [], mk_307, 2, Q) 0 mk_307 [(0, .ref 100), (1, .int v1)] [] true (mz_k S R N b t) := by
  unfold cf_307_0 at hC
  unfold cp_307_0 at hp
  refine g_iload_n rfl ?_
  refine g_iflt (tg := 24) rfl ms_307_24 hC (fun h1 hC => ?_) (fun h1 hC => ?_)
  · have hp := hp.1 h1
    refine g_iconst mzi_0 ?_
    exact g_zret (z := false) rfl (hr _ hC)
  · have hp := hp.2 h1
    refine g_iload_n rfl (g_bipush mzb_20 ?_)
    refine g_icge (tg := 24) rfl ms_307_24 hC (fun h2 hC => ?_) (fun h2 hC => ?_)
    · have hp := hp.1 h2
      refine g_aload_n rfl (g_getR (mz_at hS (Nat.le_of_ble_eq_true rfl) mzcS_100) mzcf_0_0 (mz_rb hR (Nat.le_of_ble_eq_true rfl) rfl mzcR_100_0) (g_iload_n rfl ?_))
      have h3 := hp
      refine g_iald hS.1 (mz_at hS (Nat.le_of_ble_eq_true rfl) mzcS_101) h3 (g_iconst mzi_1 ?_)
      refine g_icne (tg := 24) rfl ms_307_24 hC (fun h4 hC => ?_) (fun h4 hC => ?_)
      · refine g_iconst mzi_1 (g_goto (tg := 25) rfl ms_307_25 ?_)
        exact g_zret (z := true) rfl (hr _ hC)
      · refine g_iconst mzi_0 ?_
        exact g_zret (z := false) rfl (hr _ hC)
    · have hp := hp.2 h2
      refine g_iconst mzi_0 ?_
      exact g_zret (z := false) rfl (hr _ hC)
theorem cs_307 (hd : 1 ≤ d) (hS : mz_ext S 232) (hR : mz_rok R 232)  (v1 : Int32) (N : mz_N) (hp : cp_307_0 v1 N) (hq : Q (.inl (some (.int (mz_b01 (cf_307_0 v1 N))))) (mz_k S R N b t)) : mz_Ed (mz_X0 L xs) d 307 [.ref 100, .int v1] (mz_k S R N b t) Q :=
  by
  refine g_in mzq_307 (Nat.le_of_ble_eq_true rfl) (Nat.le_of_ble_eq_true rfl) (Nat.le_trans (Nat.le_of_ble_eq_true rfl) hd) ?_
  refine g_weak ?_ (cg_307_0 (d := d - 1) (by omega) hS hR v1 N (C0 := fun z => Q (.inl (some (.int (mz_b01 z)))) (mz_k S R N b t)) (fun _ h => h) hp hq)
  exact ⟨rfl, rfl, trivial⟩
/-! 309 KeptHouse$Access.near (I)I -/
theorem ms_309_0 : mz_sf mk_309 0 = mk_309 := mz_sf_zero _
theorem ms_309_19 : mz_sf mk_309 19 = mt_309_19 := mz_sf_add ms_309_0 (t := 19) rfl rfl
theorem ms_309_30 : mz_sf mk_309 30 = mt_309_30 := mz_sf_add ms_309_19 (t := 11) rfl rfl
set_option maxRecDepth 100000 in
theorem mzq_309 : mz_PG0 309 = some (0, ⟨"KeptHouse$Access", "near", "(I)I"⟩, prog_2_method_9_code, 3, some .int, [], mk_309, []) := rfl
theorem cg_309_0 (hd : 1 ≤ d) (hS : mz_ext S 232) (hR : mz_rok R 232)  (v1 : Int32) (N : mz_N) {C0 : (Int32) → Prop} (hr : ∀ (w : Int32), C0 w → Q (.inl (some (.int w))) (mz_k S R N b t)) (hp : cp_309_0 v1 N) (hC : C0 (cf_309_0 v1 N)) : mz_G (d, mz_X0 L xs, some .int, [], mk_309, 3, Q) 0 mk_309 [(0, .ref 100), (1, .int v1)] [] true (mz_k S R N b t) := by
  unfold cf_309_0 at hC
  unfold cp_309_0 at hp
  refine g_aload_n rfl (g_getR (mz_at hS (Nat.le_of_ble_eq_true rfl) mzcS_100) mzcf_0_2 (mz_rb hR (Nat.le_of_ble_eq_true rfl) rfl mzcR_100_2) (g_iload_n rfl ?_))
  obtain ⟨h1, hp⟩ := hp
  refine g_iald hS.1 (mz_at hS (Nat.le_of_ble_eq_true rfl) mzcS_103) h1 ?_
  refine g_s1v (Nat.le_of_ble_eq_true rfl) (fun _ hq => cs_84 (Nat.le_trans (Nat.le_of_ble_eq_true rfl) hd) (hS.le (Nat.le_of_ble_eq_true rfl)) (hR.le (Nat.le_of_ble_eq_true rfl))  (mz_gI N 103 v1) trivial hq) (g_istore_n (Nat.le_of_ble_eq_true rfl) rfl (g_iload_n rfl (g_iconst mzi_m1 ?_)))
  refine g_icne (tg := 19) rfl ms_309_19 hC (fun h3 hC => ?_) (fun h3 hC => ?_)
  · have hp := hp.1 h3
    refine g_iconst mzi_m1 (g_goto (tg := 30) rfl ms_309_30 ?_)
    exact g_iret rfl (hr _ hC)
  · have hp := hp.2 h3
    refine g_aload_n rfl (g_getR (mz_at hS (Nat.le_of_ble_eq_true rfl) mzcS_100) mzcf_0_1 (mz_rb hR (Nat.le_of_ble_eq_true rfl) rfl mzcR_100_1) (g_iload_n rfl ?_))
    have h4 := hp
    refine g_iald hS.1 (mz_at hS (Nat.le_of_ble_eq_true rfl) mzcS_102) h4 (g_bipush mzb_48 (g_imul (g_iload_n rfl (g_iadd ?_))))
    exact g_iret rfl (hr _ hC)
theorem cs_309 (hd : 2 ≤ d) (hS : mz_ext S 232) (hR : mz_rok R 232)  (v1 : Int32) (N : mz_N) (hp : cp_309_0 v1 N) (hq : Q (.inl (some (.int (cf_309_0 v1 N)))) (mz_k S R N b t)) : mz_Ed (mz_X0 L xs) d 309 [.ref 100, .int v1] (mz_k S R N b t) Q :=
  by
  refine g_in mzq_309 (Nat.le_of_ble_eq_true rfl) (Nat.le_of_ble_eq_true rfl) (Nat.le_trans (Nat.le_of_ble_eq_true rfl) hd) ?_
  refine g_weak ?_ (cg_309_0 (d := d - 1) (by omega) hS hR v1 N (C0 := fun z => Q (.inl (some (.int z))) (mz_k S R N b t)) (fun _ h => h) hp hq)
  exact ⟨rfl, rfl, trivial⟩
/-! 310 KeptHouse$Access.meets (LKeptHouse$Plan;II)Z -/
theorem ms_310_0 : mz_sf mk_310 0 = mk_310 := mz_sf_zero _
theorem ms_310_10 : mz_sf mk_310 10 = mt_310_10 := mz_sf_add ms_310_0 (t := 10) rfl rfl
theorem ms_310_19 : mz_sf mk_310 19 = mt_310_19 := mz_sf_add ms_310_10 (t := 9) rfl rfl
theorem ms_310_20 : mz_sf mk_310 20 = mt_310_20 := mz_sf_add ms_310_19 (t := 1) rfl rfl
theorem ms_310_21 : mz_sf mk_310 21 = mt_310_21 := mz_sf_add ms_310_20 (t := 1) rfl rfl
theorem ms_310_40 : mz_sf mk_310 40 = mt_310_40 := mz_sf_add ms_310_21 (t := 19) rfl rfl
theorem ms_310_41 : mz_sf mk_310 41 = mt_310_41 := mz_sf_add ms_310_40 (t := 1) rfl rfl
set_option maxRecDepth 100000 in
theorem mzq_310 : mz_PG0 310 = some (0, ⟨"KeptHouse$Access", "meets", "(LKeptHouse$Plan;II)Z"⟩, prog_2_method_11_code, 3, some .boolean, [], mk_310, []) := rfl
theorem cg_310_10 (hd : 0 ≤ d) (hS : mz_ext S 232) (hR : mz_rok R 232)  (v1 : Int32) (v2 : Int32) (N : mz_N) {C0 : (Bool) → Prop} (hr : ∀ (w : Bool), C0 w → Q (.inl (some (.int (mz_b01 w)))) (mz_k S R N b t)) (hp : cp_310_10 v1 v2 N) (hC : C0 (cf_310_10 v1 v2 N)) : mz_G (d, mz_X0 L xs, some .boolean, [], mk_310, 3, Q) 10 mt_310_10 [(1, .int v1), (2, .int v2)] [] false (mz_k S R N b t) := by
  unfold cf_310_10 at hC
  unfold cp_310_10 at hp
  refine g_iload_n rfl (g_iload_n rfl ?_)
  refine g_icne (tg := 19) rfl ms_310_19 hC (fun h1 hC => ?_) (fun h1 hC => ?_)
  · refine g_iconst mzi_1 (g_goto (tg := 20) rfl ms_310_20 ?_)
    exact g_zret (z := true) rfl (hr _ hC)
  · refine g_iconst mzi_0 ?_
    exact g_zret (z := false) rfl (hr _ hC)
theorem cg_310_0 (hd : 0 ≤ d) (hS : mz_ext S 232) (hR : mz_rok R 232)  (v1 : Int32) (v2 : Int32) (N : mz_N) {C0 : (Bool) → Prop} (hr : ∀ (w : Bool), C0 w → Q (.inl (some (.int (mz_b01 w)))) (mz_k S R N b t)) (hp : cp_310_0 v1 v2 N) (hC : C0 (cf_310_0 v1 v2 N)) : mz_G (d, mz_X0 L xs, some .boolean, [], mk_310, 3, Q) 0 mk_310 [(0, .ref 2), (1, .int v1), (2, .int v2)] [] true (mz_k S R N b t) := by
  unfold cf_310_0 at hC
  unfold cp_310_0 at hp
  refine g_iload_n rfl (g_iconst mzi_m1 ?_)
  refine g_iceq (tg := 10) rfl ms_310_10 hC (fun h1 hC => ?_) (fun h1 hC => ?_)
  · have hp := hp.1 h1
    refine g_weak ?_ (g_cl (cg_310_10 hd hS hR v1 v2 N hr hp hC))
    exact ⟨rfl, rfl, trivial⟩
  · have hp := hp.2 h1
    refine g_iload_n rfl (g_iconst mzi_m1 ?_)
    refine g_icne (tg := 21) rfl ms_310_21 hC (fun h2 hC => ?_) (fun h2 hC => ?_)
    · have hp := hp.1 h2
      refine g_weak ?_ (g_cl (cg_310_10 hd hS hR v1 v2 N hr hp hC))
      exact ⟨rfl, rfl, trivial⟩
    · have hp := hp.2 h2
      refine g_aload_n rfl (g_getR (mz_at hS (Nat.le_of_ble_eq_true rfl) mzcS_2) mzcf_5_8 (mz_rb hR (Nat.le_of_ble_eq_true rfl) rfl mzcR_2_8) (g_iload_n rfl ?_))
      obtain ⟨h3, hp⟩ := hp
      refine g_iald hS.1 (mz_at hS (Nat.le_of_ble_eq_true rfl) mzcS_15) h3 (g_aload_n rfl (g_getR (mz_at hS (Nat.le_of_ble_eq_true rfl) mzcS_2) mzcf_5_8 (mz_rb hR (Nat.le_of_ble_eq_true rfl) rfl mzcR_2_8) (g_iload_n rfl ?_)))
      have h4 := hp
      refine g_iald hS.1 (mz_at hS (Nat.le_of_ble_eq_true rfl) mzcS_15) h4 ?_
      refine g_icne (tg := 40) rfl ms_310_40 hC (fun h5 hC => ?_) (fun h5 hC => ?_)
      · refine g_iconst mzi_1 (g_goto (tg := 41) rfl ms_310_41 ?_)
        exact g_zret (z := true) rfl (hr _ hC)
      · refine g_iconst mzi_0 ?_
        exact g_zret (z := false) rfl (hr _ hC)
theorem cs_310 (hd : 1 ≤ d) (hS : mz_ext S 232) (hR : mz_rok R 232)  (v1 : Int32) (v2 : Int32) (N : mz_N) (hp : cp_310_0 v1 v2 N) (hq : Q (.inl (some (.int (mz_b01 (cf_310_0 v1 v2 N))))) (mz_k S R N b t)) : mz_Ed (mz_X0 L xs) d 310 [.ref 2, .int v1, .int v2] (mz_k S R N b t) Q :=
  by
  refine g_in mzq_310 (Nat.le_of_ble_eq_true rfl) (Nat.le_of_ble_eq_true rfl) (Nat.le_trans (Nat.le_of_ble_eq_true rfl) hd) ?_
  refine g_weak ?_ (cg_310_0 (d := d - 1) (by omega) hS hR v1 v2 N (C0 := fun z => Q (.inl (some (.int (mz_b01 z)))) (mz_k S R N b t)) (fun _ h => h) hp hq)
  exact ⟨rfl, rfl, rfl, trivial⟩
/-! 311 KeptHouse$Access.far (I)I -/
theorem ms_311_0 : mz_sf mk_311 0 = mk_311 := mz_sf_zero _
theorem ms_311_19 : mz_sf mk_311 19 = mt_311_19 := mz_sf_add ms_311_0 (t := 19) rfl rfl
theorem ms_311_30 : mz_sf mk_311 30 = mt_311_30 := mz_sf_add ms_311_19 (t := 11) rfl rfl
set_option maxRecDepth 100000 in
theorem mzq_311 : mz_PG0 311 = some (0, ⟨"KeptHouse$Access", "far", "(I)I"⟩, prog_2_method_10_code, 3, some .int, [], mk_311, []) := rfl
theorem cg_311_0 (hd : 1 ≤ d) (hS : mz_ext S 232) (hR : mz_rok R 232)  (v1 : Int32) (N : mz_N) {C0 : (Int32) → Prop} (hr : ∀ (w : Int32), C0 w → Q (.inl (some (.int w))) (mz_k S R N b t)) (hp : cp_311_0 v1 N) (hC : C0 (cf_311_0 v1 N)) : mz_G (d, mz_X0 L xs, some .int, [], mk_311, 3, Q) 0 mk_311 [(0, .ref 100), (1, .int v1)] [] true (mz_k S R N b t) := by
  unfold cf_311_0 at hC
  unfold cp_311_0 at hp
  refine g_aload_n rfl (g_getR (mz_at hS (Nat.le_of_ble_eq_true rfl) mzcS_100) mzcf_0_2 (mz_rb hR (Nat.le_of_ble_eq_true rfl) rfl mzcR_100_2) (g_iload_n rfl ?_))
  obtain ⟨h1, hp⟩ := hp
  refine g_iald hS.1 (mz_at hS (Nat.le_of_ble_eq_true rfl) mzcS_103) h1 ?_
  refine g_s1v (Nat.le_of_ble_eq_true rfl) (fun _ hq => cs_85 (Nat.le_trans (Nat.le_of_ble_eq_true rfl) hd) (hS.le (Nat.le_of_ble_eq_true rfl)) (hR.le (Nat.le_of_ble_eq_true rfl))  (mz_gI N 103 v1) trivial hq) (g_istore_n (Nat.le_of_ble_eq_true rfl) rfl (g_iload_n rfl (g_iconst mzi_m1 ?_)))
  refine g_icne (tg := 19) rfl ms_311_19 hC (fun h3 hC => ?_) (fun h3 hC => ?_)
  · have hp := hp.1 h3
    refine g_iconst mzi_m1 (g_goto (tg := 30) rfl ms_311_30 ?_)
    exact g_iret rfl (hr _ hC)
  · have hp := hp.2 h3
    refine g_aload_n rfl (g_getR (mz_at hS (Nat.le_of_ble_eq_true rfl) mzcS_100) mzcf_0_1 (mz_rb hR (Nat.le_of_ble_eq_true rfl) rfl mzcR_100_1) (g_iload_n rfl ?_))
    have h4 := hp
    refine g_iald hS.1 (mz_at hS (Nat.le_of_ble_eq_true rfl) mzcS_102) h4 (g_bipush mzb_48 (g_imul (g_iload_n rfl (g_iadd ?_))))
    exact g_iret rfl (hr _ hC)
theorem cs_311 (hd : 2 ≤ d) (hS : mz_ext S 232) (hR : mz_rok R 232)  (v1 : Int32) (N : mz_N) (hp : cp_311_0 v1 N) (hq : Q (.inl (some (.int (cf_311_0 v1 N)))) (mz_k S R N b t)) : mz_Ed (mz_X0 L xs) d 311 [.ref 100, .int v1] (mz_k S R N b t) Q :=
  by
  refine g_in mzq_311 (Nat.le_of_ble_eq_true rfl) (Nat.le_of_ble_eq_true rfl) (Nat.le_trans (Nat.le_of_ble_eq_true rfl) hd) ?_
  refine g_weak ?_ (cg_311_0 (d := d - 1) (by omega) hS hR v1 N (C0 := fun z => Q (.inl (some (.int z))) (mz_k S R N b t)) (fun _ h => h) hp hq)
  exact ⟨rfl, rfl, trivial⟩
/-! 312 KeptHouse$Access.isItsHour (II)Z -/
theorem ms_312_0 : mz_sf mk_312 0 = mk_312 := mz_sf_zero _
theorem ms_312_14 : mz_sf mk_312 14 = mt_312_14 := mz_sf_add ms_312_0 (t := 14) rfl rfl
theorem ms_312_15 : mz_sf mk_312 15 = mt_312_15 := mz_sf_add ms_312_14 (t := 1) rfl rfl
theorem ms_312_30 : mz_sf mk_312 30 = mt_312_30 := mz_sf_add ms_312_15 (t := 15) rfl rfl
theorem ms_312_31 : mz_sf mk_312 31 = mt_312_31 := mz_sf_add ms_312_30 (t := 1) rfl rfl
theorem ms_312_52 : mz_sf mk_312 52 = mt_312_52 := mz_sf_add ms_312_31 (t := 21) rfl rfl
theorem ms_312_57 : mz_sf mk_312 57 = mt_312_57 := mz_sf_add ms_312_52 (t := 5) rfl rfl
theorem ms_312_61 : mz_sf mk_312 61 = mt_312_61 := mz_sf_add ms_312_57 (t := 4) rfl rfl
theorem ms_312_65 : mz_sf mk_312 65 = mt_312_65 := mz_sf_add ms_312_61 (t := 4) rfl rfl
theorem ms_312_78 : mz_sf mk_312 78 = mt_312_78 := mz_sf_add ms_312_65 (t := 13) rfl rfl
theorem ms_312_79 : mz_sf mk_312 79 = mt_312_79 := mz_sf_add ms_312_78 (t := 1) rfl rfl
set_option maxRecDepth 100000 in
theorem mzq_312 : mz_PG0 312 = some (0, ⟨"KeptHouse$Access", "isItsHour", "(II)Z"⟩, prog_2_method_13_code, 5, some .boolean, [], mk_312, []) := rfl
theorem cg_312_31 (hd : 0 ≤ d) (hS : mz_ext S 232) (hR : mz_rok R 232)  (s0 : Bool) (v1 : Int32) (v3 : Bool) (N : mz_N) {C0 : (Bool) → Prop} (hr : ∀ (w : Bool), C0 w → Q (.inl (some (.int (mz_b01 w)))) (mz_k S R N b t)) (hp : cp_312_31 s0 v1 v3 N) (hC : C0 (cf_312_31 s0 v1 v3 N)) : mz_G (d, mz_X0 L xs, some .boolean, [], mk_312, 5, Q) 31 mt_312_31 [(0, .ref 100), (1, .int v1), (3, .int (mz_b01 v3))] [.int (mz_b01 s0)] false (mz_k S R N b t) := by
  unfold cf_312_31 at hC
  unfold cp_312_31 at hp
  refine g_istore (Nat.le_of_ble_eq_true rfl) rfl (g_aload_n rfl (g_getR (mz_at hS (Nat.le_of_ble_eq_true rfl) mzcS_100) mzcf_0_4 (mz_rb hR (Nat.le_of_ble_eq_true rfl) rfl mzcR_100_4) (g_iload_n rfl ?_)))
  obtain ⟨h1, hp⟩ := hp
  refine g_iald hS.1 (mz_at hS (Nat.le_of_ble_eq_true rfl) mzcS_105) h1 (g_aload_n rfl (g_getR (mz_at hS (Nat.le_of_ble_eq_true rfl) mzcS_100) mzcf_0_5 (mz_rb hR (Nat.le_of_ble_eq_true rfl) rfl mzcR_100_5) (g_iload_n rfl ?_)))
  have h2 := hp
  refine g_iald hS.1 (mz_at hS (Nat.le_of_ble_eq_true rfl) mzcS_106) h2 ?_
  refine g_icle (tg := 65) rfl ms_312_65 hC (fun h3 hC => ?_) (fun h3 hC => ?_)
  · refine g_iload_n rfl ?_
    refine g_zne (tg := 57) rfl ms_312_57 hC (fun h4 hC => ?_) (fun h4 hC => ?_)
    · refine g_iconst mzi_1 (g_goto (tg := 79) rfl ms_312_79 ?_)
      exact g_zret (z := true) rfl (hr _ hC)
    · refine g_iload rfl ?_
      refine g_zeq (tg := 61) rfl ms_312_61 hC (fun h5 hC => ?_) (fun h5 hC => ?_)
      · refine g_iconst mzi_1 (g_goto (tg := 79) rfl ms_312_79 ?_)
        exact g_zret (z := true) rfl (hr _ hC)
      · refine g_iconst mzi_0 (g_goto (tg := 79) rfl ms_312_79 ?_)
        exact g_zret (z := false) rfl (hr _ hC)
  · refine g_iload_n rfl ?_
    refine g_zeq (tg := 78) rfl ms_312_78 hC (fun h6 hC => ?_) (fun h6 hC => ?_)
    · refine g_iload rfl ?_
      refine g_zeq (tg := 78) rfl ms_312_78 hC (fun h7 hC => ?_) (fun h7 hC => ?_)
      · refine g_iconst mzi_1 (g_goto (tg := 79) rfl ms_312_79 ?_)
        exact g_zret (z := true) rfl (hr _ hC)
      · refine g_iconst mzi_0 ?_
        exact g_zret (z := false) rfl (hr _ hC)
    · refine g_iconst mzi_0 ?_
      exact g_zret (z := false) rfl (hr _ hC)
theorem cg_312_15 (hd : 0 ≤ d) (hS : mz_ext S 232) (hR : mz_rok R 232)  (s0 : Bool) (v1 : Int32) (v2 : Int32) (N : mz_N) {C0 : (Bool) → Prop} (hr : ∀ (w : Bool), C0 w → Q (.inl (some (.int (mz_b01 w)))) (mz_k S R N b t)) (hp : cp_312_15 s0 v1 v2 N) (hC : C0 (cf_312_15 s0 v1 v2 N)) : mz_G (d, mz_X0 L xs, some .boolean, [], mk_312, 5, Q) 15 mt_312_15 [(0, .ref 100), (1, .int v1), (2, .int v2)] [.int (mz_b01 s0)] false (mz_k S R N b t) := by
  unfold cf_312_15 at hC
  unfold cp_312_15 at hp
  refine g_istore_n (Nat.le_of_ble_eq_true rfl) rfl (g_iload_n rfl (g_aload_n rfl (g_getR (mz_at hS (Nat.le_of_ble_eq_true rfl) mzcS_100) mzcf_0_5 (mz_rb hR (Nat.le_of_ble_eq_true rfl) rfl mzcR_100_5) (g_iload_n rfl ?_))))
  obtain ⟨h1, hp⟩ := hp
  refine g_iald hS.1 (mz_at hS (Nat.le_of_ble_eq_true rfl) mzcS_106) h1 ?_
  refine g_icgt (tg := 30) rfl ms_312_30 hC (fun h2 hC => ?_) (fun h2 hC => ?_)
  · have hp := hp.1 h2
    refine g_iconst mzi_0 ?_
    refine g_weak ?_ (g_cl (cg_312_31 hd hS hR false v1 s0 N hr hp hC))
    exact ⟨rfl, rfl, rfl, trivial⟩
  · have hp := hp.2 h2
    refine g_iconst mzi_1 (g_goto (tg := 31) rfl ms_312_31 ?_)
    refine g_weak ?_ (g_cl (cg_312_31 hd hS hR true v1 s0 N hr hp hC))
    exact ⟨rfl, rfl, rfl, trivial⟩
theorem cg_312_0 (hd : 0 ≤ d) (hS : mz_ext S 232) (hR : mz_rok R 232)  (v1 : Int32) (v2 : Int32) (N : mz_N) {C0 : (Bool) → Prop} (hr : ∀ (w : Bool), C0 w → Q (.inl (some (.int (mz_b01 w)))) (mz_k S R N b t)) (hp : cp_312_0 v1 v2 N) (hC : C0 (cf_312_0 v1 v2 N)) : mz_G (d, mz_X0 L xs, some .boolean, [], mk_312, 5, Q) 0 mk_312 [(0, .ref 100), (1, .int v1), (2, .int v2)] [] true (mz_k S R N b t) := by
  unfold cf_312_0 at hC
  unfold cp_312_0 at hp
  refine g_iload_n rfl (g_aload_n rfl (g_getR (mz_at hS (Nat.le_of_ble_eq_true rfl) mzcS_100) mzcf_0_4 (mz_rb hR (Nat.le_of_ble_eq_true rfl) rfl mzcR_100_4) (g_iload_n rfl ?_)))
  obtain ⟨h1, hp⟩ := hp
  refine g_iald hS.1 (mz_at hS (Nat.le_of_ble_eq_true rfl) mzcS_105) h1 ?_
  refine g_iclt (tg := 14) rfl ms_312_14 hC (fun h2 hC => ?_) (fun h2 hC => ?_)
  · have hp := hp.1 h2
    refine g_iconst mzi_0 ?_
    refine g_weak ?_ (g_cl (cg_312_15 hd hS hR false v1 v2 N hr hp hC))
    exact ⟨rfl, rfl, rfl, trivial⟩
  · have hp := hp.2 h2
    refine g_iconst mzi_1 (g_goto (tg := 15) rfl ms_312_15 ?_)
    refine g_weak ?_ (g_cl (cg_312_15 hd hS hR true v1 v2 N hr hp hC))
    exact ⟨rfl, rfl, rfl, trivial⟩
theorem cs_312 (hd : 1 ≤ d) (hS : mz_ext S 232) (hR : mz_rok R 232)  (v1 : Int32) (v2 : Int32) (N : mz_N) (hp : cp_312_0 v1 v2 N) (hq : Q (.inl (some (.int (mz_b01 (cf_312_0 v1 v2 N))))) (mz_k S R N b t)) : mz_Ed (mz_X0 L xs) d 312 [.ref 100, .int v1, .int v2] (mz_k S R N b t) Q :=
  by
  refine g_in mzq_312 (Nat.le_of_ble_eq_true rfl) (Nat.le_of_ble_eq_true rfl) (Nat.le_trans (Nat.le_of_ble_eq_true rfl) hd) ?_
  refine g_weak ?_ (cg_312_0 (d := d - 1) (by omega) hS hR v1 v2 N (C0 := fun z => Q (.inl (some (.int (mz_b01 z)))) (mz_k S R N b t)) (fun _ h => h) hp hq)
  exact ⟨rfl, rfl, rfl, trivial⟩
/-! 308 KeptHouse$Access.judge (LKeptHouse$Plan;IIZI)I -/
theorem ms_308_0 : mz_sf mk_308 0 = mk_308 := mz_sf_zero _
theorem ms_308_36 : mz_sf mk_308 36 = mt_308_36 := mz_sf_add ms_308_0 (t := 36) rfl rfl
theorem ms_308_38 : mz_sf mk_308 38 = mt_308_38 := mz_sf_add ms_308_36 (t := 2) rfl rfl
theorem ms_308_45 : mz_sf mk_308 45 = mt_308_45 := mz_sf_add ms_308_38 (t := 7) rfl rfl
theorem ms_308_57 : mz_sf mk_308 57 = mt_308_57 := mz_sf_add ms_308_45 (t := 12) rfl rfl
theorem ms_308_72 : mz_sf mk_308 72 = mt_308_72 := mz_sf_add ms_308_57 (t := 15) rfl rfl
theorem ms_308_86 : mz_sf mk_308 86 = mt_308_86 := mz_sf_add ms_308_72 (t := 14) rfl rfl
theorem ms_308_87 : mz_sf mk_308 87 = mt_308_87 := mz_sf_add ms_308_86 (t := 1) rfl rfl
set_option maxRecDepth 100000 in
theorem mzq_308 : mz_PG0 308 = some (0, ⟨"KeptHouse$Access", "judge", "(LKeptHouse$Plan;IIZI)I"⟩, prog_2_method_12_code, 6, some .int, [], mk_308, []) := rfl
theorem cg_308_38 (hd : 2 ≤ d) (hS : mz_ext S 232) (hR : mz_rok R 232)  (v2 : Int32) (v3 : Int32) (v4 : Bool) (v5 : Int32) (N : mz_N) {C0 : (Int32) → Prop} (hr : ∀ (w : Int32), C0 w → Q (.inl (some (.int w))) (mz_k S R N b t)) (hp : cp_308_38 v2 v3 v4 v5 N) (hC : C0 (cf_308_38 v2 v3 v4 v5 N)) : mz_G (d, mz_X0 L xs, some .int, [], mk_308, 6, Q) 38 mt_308_38 [(0, .ref 100), (2, .int v2), (3, .int v3), (4, .int (mz_b01 v4)), (5, .int v5)] [] false (mz_k S R N b t) := by
  unfold cf_308_38 at hC
  unfold cp_308_38 at hp
  refine g_iload rfl ?_
  refine g_zeq (tg := 45) rfl ms_308_45 hC (fun h1 hC => ?_) (fun h1 hC => ?_)
  · have hp := hp.1 h1
    refine g_iconst mzi_0 ?_
    exact g_iret rfl (hr _ hC)
  · have hp := hp.2 h1
    refine g_aload_n rfl (g_getR (mz_at hS (Nat.le_of_ble_eq_true rfl) mzcS_100) mzcf_0_6 (mz_rb hR (Nat.le_of_ble_eq_true rfl) rfl mzcR_100_6) (g_iload_n rfl ?_))
    obtain ⟨h2, hp⟩ := hp
    refine g_iald hS.1 (mz_at hS (Nat.le_of_ble_eq_true rfl) mzcS_107) h2 (g_iconst mzi_1 ?_)
    refine g_icne (tg := 57) rfl ms_308_57 hC (fun h3 hC => ?_) (fun h3 hC => ?_)
    · have hp := hp.1 h3
      refine g_iconst mzi_3 ?_
      exact g_iret rfl (hr _ hC)
    · have hp := hp.2 h3
      refine g_aload_n rfl (g_getR (mz_at hS (Nat.le_of_ble_eq_true rfl) mzcS_100) mzcf_0_7 (mz_rb hR (Nat.le_of_ble_eq_true rfl) rfl mzcR_100_7) (g_iload_n rfl ?_))
      obtain ⟨h4, hp⟩ := hp
      refine g_iald hS.1 (mz_at hS (Nat.le_of_ble_eq_true rfl) mzcS_108) h4 (g_iload_n rfl (g_ishr (g_iconst mzi_1 (g_iand ?_))))
      refine g_ifne (tg := 72) rfl ms_308_72 hC (fun h5 hC => ?_) (fun h5 hC => ?_)
      · have hp := hp.1 h5
        refine g_iconst mzi_1 ?_
        exact g_iret rfl (hr _ hC)
      · have hp := hp.2 h5
        refine g_aload_n rfl (g_iload_n rfl (g_iload rfl ?_))
        have h6 := hp
        refine g_v3v (Nat.le_of_ble_eq_true rfl) (mz_at hS (Nat.le_of_ble_eq_true rfl) mzcS_100) (fun _ hq => cs_312 (Nat.le_trans (Nat.le_of_ble_eq_true rfl) hd) (hS.le (Nat.le_of_ble_eq_true rfl)) (hR.le (Nat.le_of_ble_eq_true rfl))  v2 v5 N h6 hq) ?_
        refine g_zeq (tg := 86) rfl ms_308_86 hC (fun h7 hC => ?_) (fun h7 hC => ?_)
        · refine g_iconst mzi_0 (g_goto (tg := 87) rfl ms_308_87 ?_)
          exact g_iret rfl (hr _ hC)
        · refine g_iconst mzi_2 ?_
          exact g_iret rfl (hr _ hC)
theorem cg_308_0 (hd : 2 ≤ d) (hS : mz_ext S 232) (hR : mz_rok R 232)  (v2 : Int32) (v3 : Int32) (v4 : Bool) (v5 : Int32) (N : mz_N) {C0 : (Int32) → Prop} (hr : ∀ (w : Int32), C0 w → Q (.inl (some (.int w))) (mz_k S R N b t)) (hp : cp_308_0 v2 v3 v4 v5 N) (hC : C0 (cf_308_0 v2 v3 v4 v5 N)) : mz_G (d, mz_X0 L xs, some .int, [], mk_308, 6, Q) 0 mk_308 [(0, .ref 100), (1, .ref 2), (2, .int v2), (3, .int v3), (4, .int (mz_b01 v4)), (5, .int v5)] [] true (mz_k S R N b t) := by
  unfold cf_308_0 at hC
  unfold cp_308_0 at hp
  refine g_aload_n rfl (g_aload_n rfl (g_getR (mz_at hS (Nat.le_of_ble_eq_true rfl) mzcS_100) mzcf_0_8 (mz_rb hR (Nat.le_of_ble_eq_true rfl) rfl mzcR_100_8) (g_iload_n rfl ?_)))
  obtain ⟨h1, hp⟩ := hp
  refine g_iald hS.1 (mz_at hS (Nat.le_of_ble_eq_true rfl) mzcS_109) h1 (g_aload_n rfl (g_iload_n rfl ?_))
  obtain ⟨h2, hp⟩ := hp
  refine g_v2v (Nat.le_of_ble_eq_true rfl) (mz_at hS (Nat.le_of_ble_eq_true rfl) mzcS_100) (fun _ hq => cs_309 (Nat.le_trans (Nat.le_of_ble_eq_true rfl) hd) (hS.le (Nat.le_of_ble_eq_true rfl)) (hR.le (Nat.le_of_ble_eq_true rfl))  v3 N h2 hq) ?_
  obtain ⟨h3, hp⟩ := hp
  refine g_s3v (Nat.le_of_ble_eq_true rfl) (fun _ hq => cs_310 (Nat.le_trans (Nat.le_of_ble_eq_true rfl) hd) (hS.le (Nat.le_of_ble_eq_true rfl)) (hR.le (Nat.le_of_ble_eq_true rfl))  (mz_gI N 109 v2) (cf_309_0 v3 N) N h3 hq) ?_
  refine g_zne (tg := 38) rfl ms_308_38 hC (fun h4 hC => ?_) (fun h4 hC => ?_)
  · have hp := hp.1 h4
    refine g_weak ?_ (g_cl (cg_308_38 hd hS hR v2 v3 v4 v5 N hr hp hC))
    exact ⟨rfl, rfl, rfl, rfl, rfl, trivial⟩
  · have hp := hp.2 h4
    refine g_aload_n rfl (g_aload_n rfl (g_getR (mz_at hS (Nat.le_of_ble_eq_true rfl) mzcS_100) mzcf_0_8 (mz_rb hR (Nat.le_of_ble_eq_true rfl) rfl mzcR_100_8) (g_iload_n rfl ?_)))
    obtain ⟨h5, hp⟩ := hp
    refine g_iald hS.1 (mz_at hS (Nat.le_of_ble_eq_true rfl) mzcS_109) h5 (g_aload_n rfl (g_iload_n rfl ?_))
    obtain ⟨h6, hp⟩ := hp
    refine g_v2v (Nat.le_of_ble_eq_true rfl) (mz_at hS (Nat.le_of_ble_eq_true rfl) mzcS_100) (fun _ hq => cs_311 (Nat.le_trans (Nat.le_of_ble_eq_true rfl) hd) (hS.le (Nat.le_of_ble_eq_true rfl)) (hR.le (Nat.le_of_ble_eq_true rfl))  v3 N h6 hq) ?_
    obtain ⟨h7, hp⟩ := hp
    refine g_s3v (Nat.le_of_ble_eq_true rfl) (fun _ hq => cs_310 (Nat.le_trans (Nat.le_of_ble_eq_true rfl) hd) (hS.le (Nat.le_of_ble_eq_true rfl)) (hR.le (Nat.le_of_ble_eq_true rfl))  (mz_gI N 109 v2) (cf_311_0 v3 N) N h7 hq) ?_
    refine g_zne (tg := 38) rfl ms_308_38 hC (fun h8 hC => ?_) (fun h8 hC => ?_)
    · have hp := hp.1 h8
      refine g_weak ?_ (g_cl (cg_308_38 hd hS hR v2 v3 v4 v5 N hr hp hC))
      exact ⟨rfl, rfl, rfl, rfl, rfl, trivial⟩
    · have hp := hp.2 h8
      refine g_iconst mzi_4 ?_
      exact g_iret rfl (hr _ hC)
theorem cs_308 (hd : 3 ≤ d) (hS : mz_ext S 232) (hR : mz_rok R 232)  (v2 : Int32) (v3 : Int32) (v4 : Bool) (v5 : Int32) (N : mz_N) (hp : cp_308_0 v2 v3 v4 v5 N) (hq : Q (.inl (some (.int (cf_308_0 v2 v3 v4 v5 N)))) (mz_k S R N b t)) : mz_Ed (mz_X0 L xs) d 308 [.ref 100, .ref 2, .int v2, .int v3, .int (mz_b01 v4), .int v5] (mz_k S R N b t) Q :=
  by
  refine g_in mzq_308 (Nat.le_of_ble_eq_true rfl) (Nat.le_of_ble_eq_true rfl) (Nat.le_trans (Nat.le_of_ble_eq_true rfl) hd) ?_
  refine g_weak ?_ (cg_308_0 (d := d - 1) (by omega) hS hR v2 v3 v4 v5 N (C0 := fun z => Q (.inl (some (.int z))) (mz_k S R N b t)) (fun _ h => h) hp hq)
  exact ⟨rfl, rfl, rfl, rfl, rfl, rfl, trivial⟩
end Fn14
