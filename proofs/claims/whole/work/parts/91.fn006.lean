/-! THE FUNCTIONS: written by program: each method comes to its function. -/
section Fn6
variable {L : Nat} {xs : Nat → Int32} {d : Nat} {S : mz_S} {R : Nat → Nat → Option Nat} {Q : mz_Q} {N : mz_N} {b : Bool} {t : Nat}
/-! 122 KeptHouse$Keeper.encode (II[II)V -/
theorem ms_122_0 : mz_sf mk_122 0 = mk_122 := mz_sf_zero _
theorem ms_122_95 : mz_sf mk_122 95 = mt_122_95 := mz_sf_add ms_122_0 (t := 95) rfl rfl
theorem ms_122_98 : mz_sf mk_122 98 = mt_122_98 := mz_sf_add ms_122_95 (t := 3) rfl rfl
theorem ms_122_112 : mz_sf mk_122 112 = mt_122_112 := mz_sf_add ms_122_98 (t := 14) rfl rfl
theorem ms_122_134 : mz_sf mk_122 134 = mt_122_134 := mz_sf_add ms_122_112 (t := 22) rfl rfl
theorem ms_122_148 : mz_sf mk_122 148 = mt_122_148 := mz_sf_add ms_122_134 (t := 14) rfl rfl
theorem ms_122_170 : mz_sf mk_122 170 = mt_122_170 := mz_sf_add ms_122_148 (t := 22) rfl rfl
theorem ms_122_184 : mz_sf mk_122 184 = mt_122_184 := mz_sf_add ms_122_170 (t := 14) rfl rfl
theorem ms_122_198 : mz_sf mk_122 198 = mt_122_198 := mz_sf_add ms_122_184 (t := 14) rfl rfl
theorem ms_122_212 : mz_sf mk_122 212 = mt_122_212 := mz_sf_add ms_122_198 (t := 14) rfl rfl
theorem ms_122_225 : mz_sf mk_122 225 = mt_122_225 := mz_sf_add ms_122_212 (t := 13) rfl rfl
theorem ms_122_238 : mz_sf mk_122 238 = mt_122_238 := mz_sf_add ms_122_225 (t := 13) rfl rfl
theorem ms_122_252 : mz_sf mk_122 252 = mt_122_252 := mz_sf_add ms_122_238 (t := 14) rfl rfl
theorem ms_122_266 : mz_sf mk_122 266 = mt_122_266 := mz_sf_add ms_122_252 (t := 14) rfl rfl
theorem ms_122_280 : mz_sf mk_122 280 = mt_122_280 := mz_sf_add ms_122_266 (t := 14) rfl rfl
theorem ms_122_294 : mz_sf mk_122 294 = mt_122_294 := mz_sf_add ms_122_280 (t := 14) rfl rfl
theorem ms_122_305 : mz_sf mk_122 305 = mt_122_305 := mz_sf_add ms_122_294 (t := 11) rfl rfl
set_option maxRecDepth 100000 in
theorem mzq_122 : mz_PG0 122 = some (4, ⟨"KeptHouse$Keeper", "encode", "(II[II)V"⟩, prog_6_method_6_code, 5, none, [], mk_122, []) := rfl
theorem cg_122_0 (hd : 2 ≤ d) (hS : mz_extR S 232) (hR : mz_rok R 232)  (v1 : Int32) (v2 : Int32) (v4 : Int32) (N : mz_N) (b : Bool) {C0 : (mz_N) → Prop} (hr : ∀ (N2 : mz_N), C0 N2 → Q (.inl none) (mz_k S R N2 b t)) (hp : cp_122_0 v1 v2 v4 N b) (hC : C0 (cf_122_0 v1 v2 v4 N b)) : mz_G (d, mz_X0 L xs, none, [], mk_122, 5, Q) 0 mk_122 [(0, .ref 1), (1, .int v1), (2, .int v2), (3, .ref 227), (4, .int v4)] [] true (mz_k S R N b t) := by
  unfold cf_122_0 at hC
  unfold cp_122_0 at hp
  refine g_aload_n rfl (g_iload rfl (g_iload rfl (g_bipush mzb_28 (g_iadd (g_iconst mzi_0 ?_)))))
  obtain ⟨h1, hp⟩ := hp
  refine g_s4n (Nat.le_of_ble_eq_true rfl) (fun _ hq => cs_45 (Nat.le_trans (Nat.le_of_ble_eq_true rfl) hd) (hS.le (Nat.le_of_ble_eq_true rfl)) (hR.le (Nat.le_of_ble_eq_true rfl)) 227 448 (mz_at hS (Nat.le_of_ble_eq_true rfl) mzcS_227) v4 (v4 + 28) 0 N h1 hq) (g_iload_n rfl ?_)
  refine mz_cs hC (fun h2 hC => ?_) (fun h2 hC => ?_)
  · have hp := hp.1 h2
    refine g_brn (tg := 84) (by rw [h2]; rfl) (by decide) rfl ?_
    refine g_aload_n rfl (g_getR (mz_at hS (Nat.le_of_ble_eq_true rfl) mzcS_1) mzcf_4_0 (mz_rb hR (Nat.le_of_ble_eq_true rfl) rfl mzcR_1_0) (g_iload_n rfl (g_aload_n rfl (g_iload rfl ?_))))
    have h30 := hp
    refine g_v4n (Nat.le_of_ble_eq_true rfl) (mz_at hS (Nat.le_of_ble_eq_true rfl) mzcS_2) (fun _ hq => cs_123 (Nat.le_trans (Nat.le_of_ble_eq_true rfl) hd) (hS.le (Nat.le_of_ble_eq_true rfl)) (hR.le (Nat.le_of_ble_eq_true rfl))  v2 v4 (cf_45_0 227 448 v4 (v4 + 28) 0 N) h30 hq) (g_goto (tg := 305) rfl ms_122_305 ?_)
    exact g_vret rfl (hr _ hC)
  · have hp := hp.2 h2
    refine mz_cs hC (fun h3 hC => ?_) (fun h3 hC => ?_)
    · have hp := hp.1 h3
      refine g_br (tg := 98) (by rw [h3]; rfl) ms_122_98 ?_
      refine g_aload_n rfl (g_getR (mz_at hS (Nat.le_of_ble_eq_true rfl) mzcS_1) mzcf_4_0 (mz_rb hR (Nat.le_of_ble_eq_true rfl) rfl mzcR_1_0) (g_iload_n rfl (g_aload_n rfl (g_iload rfl ?_))))
      have h29 := hp
      refine g_v4n (Nat.le_of_ble_eq_true rfl) (mz_at hS (Nat.le_of_ble_eq_true rfl) mzcS_2) (fun _ hq => cs_124 (Nat.le_trans (Nat.le_of_ble_eq_true rfl) hd) (hS.le (Nat.le_of_ble_eq_true rfl)) (hR.le (Nat.le_of_ble_eq_true rfl))  v2 v4 (cf_45_0 227 448 v4 (v4 + 28) 0 N) h29 hq) (g_goto (tg := 305) rfl ms_122_305 ?_)
      exact g_vret rfl (hr _ hC)
    · have hp := hp.2 h3
      refine mz_cs hC (fun h4 hC => ?_) (fun h4 hC => ?_)
      · have hp := hp.1 h4
        refine g_br (tg := 112) (by rw [h4]; rfl) ms_122_112 ?_
        refine g_aload_n rfl (g_getR (mz_at hS (Nat.le_of_ble_eq_true rfl) mzcS_1) mzcf_4_0 (mz_rb hR (Nat.le_of_ble_eq_true rfl) rfl mzcR_1_0) (g_getR (mz_at hS (Nat.le_of_ble_eq_true rfl) mzcS_2) mzcf_5_18 (mz_rb hR (Nat.le_of_ble_eq_true rfl) rfl mzcR_2_18) (g_iload_n rfl (g_bipush mzb_24 (g_imul (g_aload_n rfl (g_iload rfl ?_)))))))
        refine g_bipush mzb_24 ?_
        have h28 := hp
        refine g_cpI (Nat.le_of_ble_eq_true rfl) (mz_at hS (Nat.le_of_ble_eq_true rfl) mzcS_40) (mz_at hS (Nat.le_of_ble_eq_true rfl) mzcS_227) h28 (g_goto (tg := 305) rfl ms_122_305 ?_)
        exact g_vret rfl (hr _ hC)
      · have hp := hp.2 h4
        refine mz_cs hC (fun h5 hC => ?_) (fun h5 hC => ?_)
        · have hp := hp.1 h5
          refine g_br (tg := 134) (by rw [h5]; rfl) ms_122_134 ?_
          refine g_aload_n rfl (g_getR (mz_at hS (Nat.le_of_ble_eq_true rfl) mzcS_1) mzcf_4_3 (mz_rb hR (Nat.le_of_ble_eq_true rfl) rfl mzcR_1_3) (g_iload_n rfl (g_aload_n rfl (g_iload rfl ?_))))
          have h27 := hp
          refine g_v4n (Nat.le_of_ble_eq_true rfl) (mz_at hS (Nat.le_of_ble_eq_true rfl) mzcS_65) (fun _ hq => cs_125 (Nat.le_trans (Nat.le_of_ble_eq_true rfl) hd) (hS.le (Nat.le_of_ble_eq_true rfl)) (hR.le (Nat.le_of_ble_eq_true rfl))  v2 v4 (cf_45_0 227 448 v4 (v4 + 28) 0 N) h27 hq) (g_goto (tg := 305) rfl ms_122_305 ?_)
          exact g_vret rfl (hr _ hC)
        · have hp := hp.2 h5
          refine mz_cs hC (fun h6 hC => ?_) (fun h6 hC => ?_)
          · have hp := hp.1 h6
            refine g_br (tg := 148) (by rw [h6]; rfl) ms_122_148 ?_
            refine g_aload_n rfl (g_getR (mz_at hS (Nat.le_of_ble_eq_true rfl) mzcS_1) mzcf_4_3 (mz_rb hR (Nat.le_of_ble_eq_true rfl) rfl mzcR_1_3) (g_getR (mz_at hS (Nat.le_of_ble_eq_true rfl) mzcS_65) mzcf_3_1 (mz_rb hR (Nat.le_of_ble_eq_true rfl) rfl mzcR_65_1) (g_iload_n rfl (g_bipush mzb_24 (g_imul (g_aload_n rfl (g_iload rfl ?_)))))))
            refine g_bipush mzb_24 ?_
            have h26 := hp
            refine g_cpI (Nat.le_of_ble_eq_true rfl) (mz_at hS (Nat.le_of_ble_eq_true rfl) mzcS_67) (mz_at hS (Nat.le_of_ble_eq_true rfl) mzcS_227) h26 (g_goto (tg := 305) rfl ms_122_305 ?_)
            exact g_vret rfl (hr _ hC)
          · have hp := hp.2 h6
            refine mz_cs hC (fun h7 hC => ?_) (fun h7 hC => ?_)
            · have hp := hp.1 h7
              refine g_br (tg := 170) (by rw [h7]; rfl) ms_122_170 ?_
              refine g_aload_n rfl (g_getR (mz_at hS (Nat.le_of_ble_eq_true rfl) mzcS_1) mzcf_4_1 (mz_rb hR (Nat.le_of_ble_eq_true rfl) rfl mzcR_1_1) (g_iload_n rfl (g_aload_n rfl (g_iload rfl ?_))))
              have h25 := hp
              refine g_v4n (Nat.le_of_ble_eq_true rfl) (mz_at hS (Nat.le_of_ble_eq_true rfl) mzcS_41) (fun _ hq => cs_126 (Nat.le_trans (Nat.le_of_ble_eq_true rfl) hd) (hS.le (Nat.le_of_ble_eq_true rfl)) (hR.le (Nat.le_of_ble_eq_true rfl))  v2 v4 (cf_45_0 227 448 v4 (v4 + 28) 0 N) b h25 hq) (g_goto (tg := 305) rfl ms_122_305 ?_)
              exact g_vret rfl (hr _ hC)
            · have hp := hp.2 h7
              refine mz_cs hC (fun h8 hC => ?_) (fun h8 hC => ?_)
              · have hp := hp.1 h8
                refine g_br (tg := 184) (by rw [h8]; rfl) ms_122_184 ?_
                refine g_aload_n rfl (g_getR (mz_at hS (Nat.le_of_ble_eq_true rfl) mzcS_1) mzcf_4_2 (mz_rb hR (Nat.le_of_ble_eq_true rfl) rfl mzcR_1_2) (g_iload_n rfl (g_aload_n rfl (g_iload rfl ?_))))
                have h24 := hp
                refine g_v4n (Nat.le_of_ble_eq_true rfl) (mz_at hS (Nat.le_of_ble_eq_true rfl) mzcS_56) (fun _ hq => cs_127 (Nat.le_trans (Nat.le_of_ble_eq_true rfl) hd) (hS.le (Nat.le_of_ble_eq_true rfl)) (hR.le (Nat.le_of_ble_eq_true rfl))  v2 v4 (cf_45_0 227 448 v4 (v4 + 28) 0 N) h24 hq) (g_goto (tg := 305) rfl ms_122_305 ?_)
                exact g_vret rfl (hr _ hC)
              · have hp := hp.2 h8
                refine mz_cs hC (fun h9 hC => ?_) (fun h9 hC => ?_)
                · have hp := hp.1 h9
                  refine g_br (tg := 198) (by rw [h9]; rfl) ms_122_198 ?_
                  refine g_aload_n rfl (g_getR (mz_at hS (Nat.le_of_ble_eq_true rfl) mzcS_1) mzcf_4_7 (mz_rb hR (Nat.le_of_ble_eq_true rfl) rfl mzcR_1_7) (g_iload_n rfl (g_aload_n rfl (g_iload rfl ?_))))
                  have h23 := hp
                  refine g_v4n (Nat.le_of_ble_eq_true rfl) (mz_at hS (Nat.le_of_ble_eq_true rfl) mzcS_208) (fun _ hq => cs_128 (Nat.le_trans (Nat.le_of_ble_eq_true rfl) hd) (hS.le (Nat.le_of_ble_eq_true rfl)) (hR.le (Nat.le_of_ble_eq_true rfl))  v2 v4 (cf_45_0 227 448 v4 (v4 + 28) 0 N) h23 hq) (g_goto (tg := 305) rfl ms_122_305 ?_)
                  exact g_vret rfl (hr _ hC)
                · have hp := hp.2 h9
                  refine mz_cs hC (fun h10 hC => ?_) (fun h10 hC => ?_)
                  · have hp := hp.1 h10
                    refine g_br (tg := 212) (by rw [h10]; rfl) ms_122_212 ?_
                    refine g_aload_n rfl (g_getR (mz_at hS (Nat.le_of_ble_eq_true rfl) mzcS_1) mzcf_4_7 (mz_rb hR (Nat.le_of_ble_eq_true rfl) rfl mzcR_1_7) (g_aload_n rfl (g_iload rfl ?_)))
                    have h22 := hp
                    refine g_v3n (Nat.le_of_ble_eq_true rfl) (mz_at hS (Nat.le_of_ble_eq_true rfl) mzcS_208) (fun _ hq => cs_129 (Nat.le_trans (Nat.le_of_ble_eq_true rfl) hd) (hS.le (Nat.le_of_ble_eq_true rfl)) (hR.le (Nat.le_of_ble_eq_true rfl))  v4 (cf_45_0 227 448 v4 (v4 + 28) 0 N) h22 hq) (g_goto (tg := 305) rfl ms_122_305 ?_)
                    exact g_vret rfl (hr _ hC)
                  · have hp := hp.2 h10
                    refine mz_cs hC (fun h11 hC => ?_) (fun h11 hC => ?_)
                    · have hp := hp.1 h11
                      refine g_br (tg := 225) (by rw [h11]; rfl) ms_122_225 ?_
                      refine g_aload_n rfl (g_getR (mz_at hS (Nat.le_of_ble_eq_true rfl) mzcS_1) mzcf_4_7 (mz_rb hR (Nat.le_of_ble_eq_true rfl) rfl mzcR_1_7) (g_aload_n rfl (g_iload rfl ?_)))
                      have h21 := hp
                      refine g_v3n (Nat.le_of_ble_eq_true rfl) (mz_at hS (Nat.le_of_ble_eq_true rfl) mzcS_208) (fun _ hq => cs_130 (Nat.le_trans (Nat.le_of_ble_eq_true rfl) hd) (hS.le (Nat.le_of_ble_eq_true rfl)) (hR.le (Nat.le_of_ble_eq_true rfl))  v4 (cf_45_0 227 448 v4 (v4 + 28) 0 N) h21 hq) (g_goto (tg := 305) rfl ms_122_305 ?_)
                      exact g_vret rfl (hr _ hC)
                    · have hp := hp.2 h11
                      refine mz_cs hC (fun h12 hC => ?_) (fun h12 hC => ?_)
                      · have hp := hp.1 h12
                        refine g_br (tg := 238) (by rw [h12]; rfl) ms_122_238 ?_
                        refine g_aload_n rfl (g_getR (mz_at hS (Nat.le_of_ble_eq_true rfl) mzcS_1) mzcf_4_6 (mz_rb hR (Nat.le_of_ble_eq_true rfl) rfl mzcR_1_6) (g_iload_n rfl (g_aload_n rfl (g_iload rfl ?_))))
                        have h20 := hp
                        refine g_v4n (Nat.le_of_ble_eq_true rfl) (mz_at hS (Nat.le_of_ble_eq_true rfl) mzcS_115) (fun _ hq => cs_131 (Nat.le_trans (Nat.le_of_ble_eq_true rfl) hd) (hS.le (Nat.le_of_ble_eq_true rfl)) (hR.le (Nat.le_of_ble_eq_true rfl))  v2 v4 (cf_45_0 227 448 v4 (v4 + 28) 0 N) h20 hq) (g_goto (tg := 305) rfl ms_122_305 ?_)
                        exact g_vret rfl (hr _ hC)
                      · have hp := hp.2 h12
                        refine mz_cs hC (fun h13 hC => ?_) (fun h13 hC => ?_)
                        · have hp := hp.1 h13
                          refine g_br (tg := 252) (by rw [h13]; rfl) ms_122_252 ?_
                          refine g_aload_n rfl (g_getR (mz_at hS (Nat.le_of_ble_eq_true rfl) mzcS_1) mzcf_4_6 (mz_rb hR (Nat.le_of_ble_eq_true rfl) rfl mzcR_1_6) (g_iload_n rfl (g_aload_n rfl (g_iload rfl ?_))))
                          have h19 := hp
                          refine g_v4n (Nat.le_of_ble_eq_true rfl) (mz_at hS (Nat.le_of_ble_eq_true rfl) mzcS_115) (fun _ hq => cs_132 (Nat.le_trans (Nat.le_of_ble_eq_true rfl) hd) (hS.le (Nat.le_of_ble_eq_true rfl)) (hR.le (Nat.le_of_ble_eq_true rfl))  v2 v4 (cf_45_0 227 448 v4 (v4 + 28) 0 N) h19 hq) (g_goto (tg := 305) rfl ms_122_305 ?_)
                          exact g_vret rfl (hr _ hC)
                        · have hp := hp.2 h13
                          refine mz_cs hC (fun h14 hC => ?_) (fun h14 hC => ?_)
                          · have hp := hp.1 h14
                            refine g_br (tg := 266) (by rw [h14]; rfl) ms_122_266 ?_
                            refine g_aload_n rfl (g_getR (mz_at hS (Nat.le_of_ble_eq_true rfl) mzcS_1) mzcf_4_5 (mz_rb hR (Nat.le_of_ble_eq_true rfl) rfl mzcR_1_5) (g_iload_n rfl (g_aload_n rfl (g_iload rfl ?_))))
                            have h18 := hp
                            refine g_v4n (Nat.le_of_ble_eq_true rfl) (mz_at hS (Nat.le_of_ble_eq_true rfl) mzcS_100) (fun _ hq => cs_133 (Nat.le_trans (Nat.le_of_ble_eq_true rfl) hd) (hS.le (Nat.le_of_ble_eq_true rfl)) (hR.le (Nat.le_of_ble_eq_true rfl))  v2 v4 (cf_45_0 227 448 v4 (v4 + 28) 0 N) h18 hq) (g_goto (tg := 305) rfl ms_122_305 ?_)
                            exact g_vret rfl (hr _ hC)
                          · have hp := hp.2 h14
                            refine mz_cs hC (fun h15 hC => ?_) (fun h15 hC => ?_)
                            · have hp := hp.1 h15
                              refine g_br (tg := 280) (by rw [h15]; rfl) ms_122_280 ?_
                              refine g_aload_n rfl (g_getR (mz_at hS (Nat.le_of_ble_eq_true rfl) mzcS_1) mzcf_4_5 (mz_rb hR (Nat.le_of_ble_eq_true rfl) rfl mzcR_1_5) (g_iload_n rfl (g_aload_n rfl (g_iload rfl ?_))))
                              have h17 := hp
                              refine g_v4n (Nat.le_of_ble_eq_true rfl) (mz_at hS (Nat.le_of_ble_eq_true rfl) mzcS_100) (fun _ hq => cs_134 (Nat.le_trans (Nat.le_of_ble_eq_true rfl) hd) (hS.le (Nat.le_of_ble_eq_true rfl)) (hR.le (Nat.le_of_ble_eq_true rfl))  v2 v4 (cf_45_0 227 448 v4 (v4 + 28) 0 N) h17 hq) (g_goto (tg := 305) rfl ms_122_305 ?_)
                              exact g_vret rfl (hr _ hC)
                            · have hp := hp.2 h15
                              refine g_br (tg := 294) ((mz_tsw_d (l := [1, 2, 3, 4, 5, 6, 7, 8, 9, 10, 11, 12, 13, 14]) (mz_rng 1 13) ⟨h2, h3, h4, h5, h6, h7, h8, h9, h10, h11, h12, h13, h14, h15, trivial⟩).trans (mz_tg_t rfl)) ms_122_294 ?_
                              refine g_aload_n rfl (g_getR (mz_at hS (Nat.le_of_ble_eq_true rfl) mzcS_1) mzcf_4_4 (mz_rb hR (Nat.le_of_ble_eq_true rfl) rfl mzcR_1_4) (g_iload_n rfl (g_aload_n rfl (g_iload rfl ?_))))
                              have h16 := hp
                              refine g_v4n (Nat.le_of_ble_eq_true rfl) (mz_at hS (Nat.le_of_ble_eq_true rfl) mzcS_81) (fun _ hq => cs_135 (Nat.le_trans (Nat.le_of_ble_eq_true rfl) hd) (hS.le (Nat.le_of_ble_eq_true rfl)) (hR.le (Nat.le_of_ble_eq_true rfl))  v2 v4 (cf_45_0 227 448 v4 (v4 + 28) 0 N) h16 hq) ?_
                              exact g_vret rfl (hr _ hC)
theorem cs_122 (hd : 3 ≤ d) (hS : mz_extR S 232) (hR : mz_rok R 232)  (v1 : Int32) (v2 : Int32) (v4 : Int32) (N : mz_N) (b : Bool) (hp : cp_122_0 v1 v2 v4 N b) (hq : Q (.inl none) (mz_k S R (cf_122_0 v1 v2 v4 N b) b t)) : mz_Ed (mz_X0 L xs) d 122 [.ref 1, .int v1, .int v2, .ref 227, .int v4] (mz_k S R N b t) Q :=
  by
  refine g_in mzq_122 (Nat.le_of_ble_eq_true rfl) (Nat.le_of_ble_eq_true rfl) (Nat.le_trans (Nat.le_of_ble_eq_true rfl) hd) ?_
  refine g_weak ?_ (cg_122_0 (d := d - 1) (by omega) hS hR v1 v2 v4 N b (C0 := fun z => Q (.inl none) (mz_k S R z b t)) (fun _ h => h) hp hq)
  exact ⟨rfl, rfl, rfl, rfl, rfl, trivial⟩
/-! 136 KeptHouse$Store.hasRoom ()Z -/
theorem ms_136_0 : mz_sf mk_136 0 = mk_136 := mz_sf_zero _
theorem ms_136_19 : mz_sf mk_136 19 = mt_136_19 := mz_sf_add ms_136_0 (t := 19) rfl rfl
theorem ms_136_20 : mz_sf mk_136 20 = mt_136_20 := mz_sf_add ms_136_19 (t := 1) rfl rfl
set_option maxRecDepth 100000 in
theorem mzq_136 : mz_PG0 136 = some (8, ⟨"KeptHouse$Store", "hasRoom", "()Z"⟩, prog_10_method_15_code, 1, some .boolean, [], mk_136, []) := rfl
theorem cg_136_0 (hd : 0 ≤ d) (hS : mz_extR S 232) (hR : mz_rok R 232)  (N : mz_N) {C0 : (Bool) → Prop} (hr : ∀ (w : Bool), C0 w → Q (.inl (some (.int (mz_b01 w)))) (mz_k S R N b t)) (hp : cp_136_0 N) (hC : C0 (cf_136_0 N)) : mz_G (d, mz_X0 L xs, some .boolean, [], mk_136, 1, Q) 0 mk_136 [(0, .ref 219)] [] true (mz_k S R N b t) := by
  unfold cf_136_0 at hC
  unfold cp_136_0 at hp
  refine g_aload_n rfl (g_getI (mz_at hS (Nat.le_of_ble_eq_true rfl) mzcS_219) mzcf_8_6 (g_aload_n rfl (g_getI (mz_at hS (Nat.le_of_ble_eq_true rfl) mzcS_219) mzcf_8_11 (g_iadd (g_sipush mzs_200 ?_)))))
  refine g_icgt (tg := 19) rfl ms_136_19 hC (fun h1 hC => ?_) (fun h1 hC => ?_)
  · refine g_iconst mzi_0 ?_
    exact g_zret (z := false) rfl (hr _ hC)
  · refine g_iconst mzi_1 (g_goto (tg := 20) rfl ms_136_20 ?_)
    exact g_zret (z := true) rfl (hr _ hC)
theorem cs_136 (hd : 1 ≤ d) (hS : mz_extR S 232) (hR : mz_rok R 232)  (N : mz_N) (hp : cp_136_0 N) (hq : Q (.inl (some (.int (mz_b01 (cf_136_0 N))))) (mz_k S R N b t)) : mz_Ed (mz_X0 L xs) d 136 [.ref 219] (mz_k S R N b t) Q :=
  by
  refine g_in mzq_136 (Nat.le_of_ble_eq_true rfl) (Nat.le_of_ble_eq_true rfl) (Nat.le_trans (Nat.le_of_ble_eq_true rfl) hd) ?_
  refine g_weak ?_ (cg_136_0 (d := d - 1) (by omega) hS hR N (C0 := fun z => Q (.inl (some (.int (mz_b01 z)))) (mz_k S R N b t)) (fun _ h => h) hp hq)
  exact ⟨rfl, trivial⟩
/-! 138 KeptHouse$Store.countKeys ([I)I -/
theorem ms_138_0 : mz_sf mk_138 0 = mk_138 := mz_sf_zero _
theorem ms_138_4 : mz_sf mk_138 4 = mt_138_4 := mz_sf_add ms_138_0 (t := 4) rfl rfl
theorem ms_138_23 : mz_sf mk_138 23 = mt_138_23 := mz_sf_add ms_138_4 (t := 19) rfl rfl
set_option maxRecDepth 100000 in
theorem mzq_138 : mz_PG0 138 = some (8, ⟨"KeptHouse$Store", "countKeys", "([I)I"⟩, prog_10_method_10_code, 3, some .int, [], mk_138, []) := rfl
theorem cb_138_4 (hd : 0 ≤ d) (hS : mz_extR S 232) (hR : mz_rok R 232) (a0 : Nat) (hs0 : S[a0]? = some (0, 135, [])) (N : mz_N) (s : Int32 × Int32) {C0 : (Int32) → Prop} (hr : ∀ (w : Int32), C0 w → Q (.inl (some (.int w))) (mz_k S R N b t)) {C1 : ((Int32 × Int32) ⊕ (Int32)) → Prop} (hc1 : ∀ s2, C1 (.inl s2) → mz_G (d, mz_X0 L xs, some .int, [], mk_138, 3, Q) 4 mt_138_4 [(0, .ref a0), (1, .int s2.1), (2, .int s2.2)] [] false (mz_k S R N b t)) (hx1 : ∀ z, C1 (.inr z) → C0 z) (hp : cd_138_4 a0 N s) (hC : C1 (cq_138_4 a0 N s)) : mz_G (d, mz_X0 L xs, some .int, [], mk_138, 3, Q) 4 mt_138_4 [(0, .ref a0), (1, .int s.1), (2, .int s.2)] [] false (mz_k S R N b t) := by
  unfold cq_138_4 at hC
  unfold cd_138_4 at hp
  refine g_iload_n rfl (g_sipush mzs_135 ?_)
  refine g_icge (tg := 23) rfl ms_138_23 hC (fun h1 hC => ?_) (fun h1 hC => ?_)
  · have hp := hp.1 h1
    refine g_iload_n rfl (g_aload_n rfl (g_iload_n rfl ?_))
    have h2 := hp
    refine g_iald hS.1 hs0 h2 (g_iadd (g_istore_n (Nat.le_of_ble_eq_true rfl) rfl (g_iinc rfl mzi_1 (Nat.le_of_ble_eq_true rfl) rfl (g_goto (tg := 4) rfl ms_138_4 ?_))))
    refine g_weak ?_ (g_cl (hc1 ((s.1 + (mz_gI N a0 s.2)), (s.2 + 1)) hC))
    exact ⟨rfl, rfl, rfl, trivial⟩
  · have hp := hp.2 h1
    refine g_iload_n rfl ?_
    exact g_iret rfl (hr _ (hx1 _ hC))
theorem cg_138_4 (hd : 0 ≤ d) (hS : mz_extR S 232) (hR : mz_rok R 232) (a0 : Nat) (hs0 : S[a0]? = some (0, 135, [])) (v1 : Int32) (v2 : Int32) (N : mz_N) {C0 : (Int32) → Prop} (hr : ∀ (w : Int32), C0 w → Q (.inl (some (.int w))) (mz_k S R N b t)) (hp : cp_138_4 a0 v1 v2 N) (hC : C0 (cf_138_4 a0 v1 v2 N)) : mz_G (d, mz_X0 L xs, some .int, [], mk_138, 3, Q) 4 mt_138_4 [(0, .ref a0), (1, .int v1), (2, .int v2)] [] false (mz_k S R N b t) := by
  obtain ⟨n, hn⟩ := hp
  exact g_loop (G := fun s => mz_G (d, mz_X0 L xs, some .int, [], mk_138, 3, Q) 4 mt_138_4 [(0, .ref a0), (1, .int s.1), (2, .int s.2)] [] false (mz_k S R N b t)) (C := C0) (fun C2 hc hx s hP hC => cb_138_4 hd hS hR a0 hs0 N s hr hc hx hP hC) n (v1, v2) hn hC
theorem cg_138_0 (hd : 0 ≤ d) (hS : mz_extR S 232) (hR : mz_rok R 232) (a0 : Nat) (hs0 : S[a0]? = some (0, 135, [])) (N : mz_N) {C0 : (Int32) → Prop} (hr : ∀ (w : Int32), C0 w → Q (.inl (some (.int w))) (mz_k S R N b t)) (hp : cp_138_0 a0 N) (hC : C0 (cf_138_0 a0 N)) : mz_G (d, mz_X0 L xs, some .int, [], mk_138, 3, Q) 0 mk_138 [(0, .ref a0)] [] true (mz_k S R N b t) := by
  unfold cf_138_0 at hC
  unfold cp_138_0 at hp
  refine g_iconst mzi_0 (g_istore_n (Nat.le_of_ble_eq_true rfl) rfl (g_iconst mzi_0 (g_istore_n (Nat.le_of_ble_eq_true rfl) rfl ?_)))
  refine g_weak ?_ (g_cl (cg_138_4 hd hS hR a0 hs0 0 0 N hr hp hC))
  exact ⟨rfl, rfl, rfl, trivial⟩
theorem cs_138 (hd : 1 ≤ d) (hS : mz_extR S 232) (hR : mz_rok R 232) (a0 : Nat) (hs0 : S[a0]? = some (0, 135, [])) (N : mz_N) (hp : cp_138_0 a0 N) (hq : Q (.inl (some (.int (cf_138_0 a0 N)))) (mz_k S R N b t)) : mz_Ed (mz_X0 L xs) d 138 [.ref a0] (mz_k S R N b t) Q :=
  by
  refine g_in mzq_138 (Nat.le_of_ble_eq_true rfl) (Nat.le_of_ble_eq_true rfl) (Nat.le_trans (Nat.le_of_ble_eq_true rfl) hd) ?_
  refine g_weak ?_ (cg_138_0 (d := d - 1) (by omega) hS hR a0 hs0 N (C0 := fun z => Q (.inl (some (.int z))) (mz_k S R N b t)) (fun _ h => h) hp hq)
  exact ⟨rfl, trivial⟩
/-! 137 KeptHouse$Store.snapshot ([I[I)Z -/
theorem ms_137_0 : mz_sf mk_137 0 = mk_137 := mz_sf_zero _
theorem ms_137_33 : mz_sf mk_137 33 = mt_137_33 := mz_sf_add ms_137_0 (t := 33) rfl rfl
theorem ms_137_45 : mz_sf mk_137 45 = mt_137_45 := mz_sf_add ms_137_33 (t := 12) rfl rfl
theorem ms_137_86 : mz_sf mk_137 86 = mt_137_86 := mz_sf_add ms_137_45 (t := 41) rfl rfl
theorem ms_137_87 : mz_sf mk_137 87 = mt_137_87 := mz_sf_add ms_137_86 (t := 1) rfl rfl
theorem ms_137_111 : mz_sf mk_137 111 = mt_137_111 := mz_sf_add ms_137_87 (t := 24) rfl rfl
theorem ms_137_123 : mz_sf mk_137 123 = mt_137_123 := mz_sf_add ms_137_111 (t := 12) rfl rfl
theorem ms_137_129 : mz_sf mk_137 129 = mt_137_129 := mz_sf_add ms_137_123 (t := 6) rfl rfl
theorem ms_137_152 : mz_sf mk_137 152 = mt_137_152 := mz_sf_add ms_137_129 (t := 23) rfl rfl
theorem ms_137_163 : mz_sf mk_137 163 = mt_137_163 := mz_sf_add ms_137_152 (t := 11) rfl rfl
set_option maxRecDepth 100000 in
theorem mzq_137 : mz_PG0 137 = some (8, ⟨"KeptHouse$Store", "snapshot", "([I[I)Z"⟩, prog_10_method_14_code, 8, some .boolean, [], mk_137, []) := rfl
theorem cg_137_123 (hd : 2 ≤ d) (hS : mz_extR S 232) (hR : mz_rok R 232) (a1 : Nat) (a2 : Nat) (hs1 : S[a1]? = some (0, 3780, [])) (hs2 : S[a2]? = some (0, 135, [])) (v3 : Int32) (v4 : Int32) (v5 : Int32) (v6 : Int32) (v7 : Int32) (N : mz_N) {C0 : (Bool × mz_N) → Prop} (hr : ∀ (w : Bool) (N2 : mz_N), C0 (w, N2) → Q (.inl (some (.int (mz_b01 w)))) (mz_k S R N2 b t)) {C1 : ((Int32 × Int32 × mz_N) ⊕ (Bool × mz_N)) → Prop} (hc1 : ∀ s2, C1 (.inl s2) → mz_G (d, mz_X0 L xs, some .boolean, [], mk_137, 8, Q) 45 mt_137_45 [(0, .ref 219), (1, .ref a1), (2, .ref a2), (3, .int v3), (4, .int v4), (5, .int v5), (6, .int s2.1), (7, .int s2.2.1)] [] false (mz_k S R s2.2.2 b t)) (hx1 : ∀ z, C1 (.inr z) → C0 z) (hp : cp_137_123 a1 a2 v3 v4 v5 v6 v7 N) (hC : C1 (cf_137_123 a1 a2 v3 v4 v5 v6 v7 N)) : mz_G (d, mz_X0 L xs, some .boolean, [], mk_137, 8, Q) 123 mt_137_123 [(0, .ref 219), (1, .ref a1), (2, .ref a2), (3, .int v3), (4, .int v4), (5, .int v5), (6, .int v6), (7, .int v7)] [] false (mz_k S R N b t) := by
  unfold cf_137_123 at hC
  unfold cp_137_123 at hp
  refine g_iinc rfl mzi_1 (Nat.le_of_ble_eq_true rfl) rfl (g_goto (tg := 45) rfl ms_137_45 ?_)
  refine g_weak ?_ (g_cl (hc1 (v6, (v7 + 1), N) hC))
  exact ⟨rfl, rfl, rfl, rfl, rfl, rfl, rfl, rfl, trivial⟩
theorem cg_137_163 (hd : 2 ≤ d) (hS : mz_extR S 232) (hR : mz_rok R 232) (a1 : Nat) (a2 : Nat) (hs1 : S[a1]? = some (0, 3780, [])) (hs2 : S[a2]? = some (0, 135, [])) (v3 : Int32) (v4 : Int32) (v5 : Int32) (N : mz_N) {C0 : (Bool × mz_N) → Prop} (hr : ∀ (w : Bool) (N2 : mz_N), C0 (w, N2) → Q (.inl (some (.int (mz_b01 w)))) (mz_k S R N2 b t)) (hp : cp_137_163 a1 a2 v3 v4 v5 N) (hC : C0 (cf_137_163 a1 a2 v3 v4 v5 N)) : mz_G (d, mz_X0 L xs, some .boolean, [], mk_137, 8, Q) 163 mt_137_163 [(0, .ref 219), (3, .int v3), (4, .int v4), (5, .int v5)] [] false (mz_k S R N b t) := by
  unfold cf_137_163 at hC
  unfold cp_137_163 at hp
  refine g_aload_n rfl (g_iload_n rfl (g_putI (mz_at hS (Nat.le_of_ble_eq_true rfl) mzcS_219) mzcf_8_4 (g_aload_n rfl (g_iload rfl (g_putI (mz_at hS (Nat.le_of_ble_eq_true rfl) mzcS_219) mzcf_8_5 (g_aload_n rfl (g_iload rfl ?_)))))))
  refine g_iconst mzi_1 (g_iadd (g_putI (mz_at hS (Nat.le_of_ble_eq_true rfl) mzcS_219) mzcf_8_6 (g_iconst mzi_1 ?_)))
  exact g_zret (z := true) rfl (hr _ _ hC)
theorem cg_137_87 (hd : 2 ≤ d) (hS : mz_extR S 232) (hR : mz_rok R 232) (a1 : Nat) (a2 : Nat) (hs1 : S[a1]? = some (0, 3780, [])) (hs2 : S[a2]? = some (0, 135, [])) (s1 : Int32) (s2 : Int32) (s3 : Bool) (v3 : Int32) (v4 : Int32) (v5 : Int32) (v6 : Int32) (v7 : Int32) (N : mz_N) {C0 : (Bool × mz_N) → Prop} (hr : ∀ (w : Bool) (N2 : mz_N), C0 (w, N2) → Q (.inl (some (.int (mz_b01 w)))) (mz_k S R N2 b t)) {C1 : ((Int32 × Int32 × mz_N) ⊕ (Bool × mz_N)) → Prop} (hc1 : ∀ s2, C1 (.inl s2) → mz_G (d, mz_X0 L xs, some .boolean, [], mk_137, 8, Q) 45 mt_137_45 [(0, .ref 219), (1, .ref a1), (2, .ref a2), (3, .int v3), (4, .int v4), (5, .int v5), (6, .int s2.1), (7, .int s2.2.1)] [] false (mz_k S R s2.2.2 b t)) (hx1 : ∀ z, C1 (.inr z) → C0 z) (hp : cp_137_87 a1 a2 s1 s2 s3 v3 v4 v5 v6 v7 N) (hC : C1 (cf_137_87 a1 a2 s1 s2 s3 v3 v4 v5 v6 v7 N)) : mz_G (d, mz_X0 L xs, some .boolean, [], mk_137, 8, Q) 87 mt_137_87 [(0, .ref 219), (1, .ref a1), (2, .ref a2), (3, .int v3), (4, .int v4), (5, .int v5), (6, .int v6), (7, .int v7)] [.int (mz_b01 s3), .int s2, .int s1, .ref 219] false (mz_k S R N b t) := by
  unfold cf_137_87 at hC
  unfold cp_137_87 at hp
  refine g_iload rfl (g_iload rfl ?_)
  obtain ⟨h1, hp⟩ := hp
  refine g_v6n (Nat.le_of_ble_eq_true rfl) (mz_at hS (Nat.le_of_ble_eq_true rfl) mzcS_219) (fun _ hq => cs_12 (Nat.le_trans (Nat.le_of_ble_eq_true rfl) hd) (hS.le (Nat.le_of_ble_eq_true rfl)) (mz_rs_of hR (Nat.le_of_ble_eq_true rfl))  s1 s2 s3 v6 v4 N h1 hq) (g_aload_n rfl (g_iload rfl (g_bipush mzb_28 (g_imul (g_aload_n rfl (g_getR (mz_at hS (Nat.le_of_ble_eq_true rfl) mzcS_219) mzcf_8_3 (mz_rb hR (Nat.le_of_ble_eq_true rfl) rfl mzcR_219_3) (g_bipush mzb_12 ?_)))))))
  refine g_bipush mzb_28 ?_
  obtain ⟨h2, hp⟩ := hp
  refine g_cpI (Nat.le_of_ble_eq_true rfl) hs1 (mz_at hS (Nat.le_of_ble_eq_true rfl) mzcS_225) h2 (g_aload_n rfl (g_iload_n rfl (g_iload rfl ?_)))
  obtain ⟨h3, hp⟩ := hp
  refine g_v3v (Nat.le_of_ble_eq_true rfl) (mz_at hS (Nat.le_of_ble_eq_true rfl) mzcS_219) (fun _ hq => cs_15 (Nat.le_trans (Nat.le_of_ble_eq_true rfl) hd) (hS.le (Nat.le_of_ble_eq_true rfl)) (mz_rs_of hR (Nat.le_of_ble_eq_true rfl))  v3 v6 (mz_yI (cf_12_0 s1 s2 s3 v6 v4 N) a1 (v7 * 28) 225 12 28) h3 hq) ?_
  refine g_zne (tg := 123) rfl ms_137_123 hC (fun h4 hC => ?_) (fun h4 hC => ?_)
  · have hp := hp.1 h4
    refine g_weak ?_ (g_cl (cg_137_123 hd hS hR a1 a2 hs1 hs2 v3 v4 v5 v6 v7 ((cf_15_0 v3 v6 (mz_yI (cf_12_0 s1 s2 s3 v6 v4 N) a1 (v7 * 28) 225 12 28)).2) hr hc1 hx1 hp hC))
    exact ⟨rfl, rfl, rfl, rfl, rfl, rfl, rfl, rfl, trivial⟩
  · have hp := hp.2 h4
    refine g_iconst mzi_0 ?_
    exact g_zret (z := false) rfl (hr _ _ (hx1 _ hC))
theorem cb_137_45 (hd : 2 ≤ d) (hS : mz_extR S 232) (hR : mz_rok R 232) (a1 : Nat) (a2 : Nat) (hs1 : S[a1]? = some (0, 3780, [])) (hs2 : S[a2]? = some (0, 135, [])) (v3 : Int32) (v4 : Int32) (v5 : Int32) (s : Int32 × Int32 × mz_N) {C0 : (Bool × mz_N) → Prop} (hr : ∀ (w : Bool) (N2 : mz_N), C0 (w, N2) → Q (.inl (some (.int (mz_b01 w)))) (mz_k S R N2 b t)) {C1 : ((Int32 × Int32 × mz_N) ⊕ (Bool × mz_N)) → Prop} (hc1 : ∀ s2, C1 (.inl s2) → mz_G (d, mz_X0 L xs, some .boolean, [], mk_137, 8, Q) 45 mt_137_45 [(0, .ref 219), (1, .ref a1), (2, .ref a2), (3, .int v3), (4, .int v4), (5, .int v5), (6, .int s2.1), (7, .int s2.2.1)] [] false (mz_k S R s2.2.2 b t)) (hx1 : ∀ z, C1 (.inr z) → C0 z) (hp : cd_137_45 a1 a2 v3 v4 v5 s) (hC : C1 (cq_137_45 a1 a2 v3 v4 v5 s)) : mz_G (d, mz_X0 L xs, some .boolean, [], mk_137, 8, Q) 45 mt_137_45 [(0, .ref 219), (1, .ref a1), (2, .ref a2), (3, .int v3), (4, .int v4), (5, .int v5), (6, .int s.1), (7, .int s.2.1)] [] false (mz_k S R s.2.2 b t) := by
  unfold cq_137_45 at hC
  unfold cd_137_45 at hp
  refine g_iload rfl (g_sipush mzs_135 ?_)
  refine g_icge (tg := 129) rfl ms_137_129 hC (fun h1 hC => ?_) (fun h1 hC => ?_)
  · have hp := hp.1 h1
    refine g_aload_n rfl (g_iload rfl ?_)
    obtain ⟨h2, hp⟩ := hp
    refine g_iald hS.1 hs2 h2 (g_iconst mzi_1 ?_)
    refine g_icne (tg := 123) rfl ms_137_123 hC (fun h3 hC => ?_) (fun h3 hC => ?_)
    · have hp := hp.1 h3
      refine g_iinc rfl mzi_1 (Nat.le_of_ble_eq_true rfl) rfl (g_aload_n rfl (g_iload rfl ?_))
      obtain ⟨h4, hp⟩ := hp
      refine g_s1v (Nat.le_of_ble_eq_true rfl) (fun _ hq => cs_55 (Nat.le_trans (Nat.le_of_ble_eq_true rfl) hd) (hS.le (Nat.le_of_ble_eq_true rfl)) (hR.le (Nat.le_of_ble_eq_true rfl))  s.2.1 h4 hq) (g_iload rfl ?_)
      obtain ⟨h5, hp⟩ := hp
      refine g_s1v (Nat.le_of_ble_eq_true rfl) (fun _ hq => cs_56 (Nat.le_trans (Nat.le_of_ble_eq_true rfl) hd) (hS.le (Nat.le_of_ble_eq_true rfl)) (hR.le (Nat.le_of_ble_eq_true rfl))  s.2.1 h5 hq) (g_iload rfl (g_iload rfl ?_))
      refine g_icne (tg := 86) rfl ms_137_86 hC (fun h6 hC => ?_) (fun h6 hC => ?_)
      · have hp := hp.1 h6
        refine g_iconst mzi_1 (g_goto (tg := 87) rfl ms_137_87 ?_)
        refine g_weak ?_ (g_cl (cg_137_87 hd hS hR a1 a2 hs1 hs2 (cf_55_0 s.2.1) (cf_56_0 s.2.1) true v3 v4 v5 (s.1 + 1) s.2.1 s.2.2 hr hc1 hx1 hp hC))
        exact ⟨rfl, rfl, rfl, rfl, rfl, rfl, rfl, rfl, trivial⟩
      · have hp := hp.2 h6
        refine g_iconst mzi_0 ?_
        refine g_weak ?_ (g_cl (cg_137_87 hd hS hR a1 a2 hs1 hs2 (cf_55_0 s.2.1) (cf_56_0 s.2.1) false v3 v4 v5 (s.1 + 1) s.2.1 s.2.2 hr hc1 hx1 hp hC))
        exact ⟨rfl, rfl, rfl, rfl, rfl, rfl, rfl, rfl, trivial⟩
    · have hp := hp.2 h3
      refine g_weak ?_ (g_cl (cg_137_123 hd hS hR a1 a2 hs1 hs2 v3 v4 v5 s.1 s.2.1 s.2.2 hr hc1 hx1 hp hC))
      exact ⟨rfl, rfl, rfl, rfl, rfl, rfl, rfl, rfl, trivial⟩
  · have hp := hp.2 h1
    refine g_aload_n rfl (g_iconst mzi_0 (g_iconst mzi_0 (g_iconst mzi_1 (g_iconst mzi_0 (g_iload rfl ?_)))))
    obtain ⟨h7, hp⟩ := hp
    refine g_v6n (Nat.le_of_ble_eq_true rfl) (mz_at hS (Nat.le_of_ble_eq_true rfl) mzcS_219) (fun _ hq => cs_12 (Nat.le_trans (Nat.le_of_ble_eq_true rfl) hd) (hS.le (Nat.le_of_ble_eq_true rfl)) (mz_rs_of hR (Nat.le_of_ble_eq_true rfl))  0 0 true 0 v4 s.2.2 h7 hq) (g_aload_n rfl (g_getR (mz_at hS (Nat.le_of_ble_eq_true rfl) mzcS_219) mzcf_8_3 (mz_rb hR (Nat.le_of_ble_eq_true rfl) rfl mzcR_219_3) (g_bipush mzb_12 (g_iconst mzi_4 (g_iload rfl (g_i2l ?_))))))
    obtain ⟨h8, hp⟩ := hp
    refine g_s4n (Nat.le_of_ble_eq_true rfl) (fun _ hq => cs_14 (Nat.le_trans (Nat.le_of_ble_eq_true rfl) hd) (hS.le (Nat.le_of_ble_eq_true rfl)) (mz_rs_of hR (Nat.le_of_ble_eq_true rfl)) 225 48 (mz_at hS (Nat.le_of_ble_eq_true rfl) mzcS_225) 12 4 v5.toInt64 (cf_12_0 0 0 true 0 v4 s.2.2) h8 hq) (g_aload_n rfl (g_iload_n rfl (g_iconst mzi_0 ?_)))
    obtain ⟨h9, hp⟩ := hp
    refine g_v3v (Nat.le_of_ble_eq_true rfl) (mz_at hS (Nat.le_of_ble_eq_true rfl) mzcS_219) (fun _ hq => cs_15 (Nat.le_trans (Nat.le_of_ble_eq_true rfl) hd) (hS.le (Nat.le_of_ble_eq_true rfl)) (mz_rs_of hR (Nat.le_of_ble_eq_true rfl))  v3 0 (cf_14_0 225 48 12 4 v5.toInt64 (cf_12_0 0 0 true 0 v4 s.2.2)) h9 hq) ?_
    refine g_zne (tg := 163) rfl ms_137_163 hC (fun h10 hC => ?_) (fun h10 hC => ?_)
    · have hp := hp.1 h10
      refine g_weak ?_ (g_cl (cg_137_163 hd hS hR a1 a2 hs1 hs2 v3 v4 v5 ((cf_15_0 v3 0 (cf_14_0 225 48 12 4 v5.toInt64 (cf_12_0 0 0 true 0 v4 s.2.2))).2) hr hp (hx1 _ hC)))
      exact ⟨rfl, rfl, rfl, rfl, trivial⟩
    · have hp := hp.2 h10
      refine g_iconst mzi_0 ?_
      exact g_zret (z := false) rfl (hr _ _ (hx1 _ hC))
theorem cg_137_45 (hd : 2 ≤ d) (hS : mz_extR S 232) (hR : mz_rok R 232) (a1 : Nat) (a2 : Nat) (hs1 : S[a1]? = some (0, 3780, [])) (hs2 : S[a2]? = some (0, 135, [])) (v3 : Int32) (v4 : Int32) (v5 : Int32) (v6 : Int32) (v7 : Int32) (N : mz_N) {C0 : (Bool × mz_N) → Prop} (hr : ∀ (w : Bool) (N2 : mz_N), C0 (w, N2) → Q (.inl (some (.int (mz_b01 w)))) (mz_k S R N2 b t)) (hp : cp_137_45 a1 a2 v3 v4 v5 v6 v7 N) (hC : C0 (cf_137_45 a1 a2 v3 v4 v5 v6 v7 N)) : mz_G (d, mz_X0 L xs, some .boolean, [], mk_137, 8, Q) 45 mt_137_45 [(0, .ref 219), (1, .ref a1), (2, .ref a2), (3, .int v3), (4, .int v4), (5, .int v5), (6, .int v6), (7, .int v7)] [] false (mz_k S R N b t) := by
  obtain ⟨n, hn⟩ := hp
  exact g_loop (G := fun s => mz_G (d, mz_X0 L xs, some .boolean, [], mk_137, 8, Q) 45 mt_137_45 [(0, .ref 219), (1, .ref a1), (2, .ref a2), (3, .int v3), (4, .int v4), (5, .int v5), (6, .int s.1), (7, .int s.2.1)] [] false (mz_k S R s.2.2 b t)) (C := C0) (fun C2 hc hx s hP hC => cb_137_45 hd hS hR a1 a2 hs1 hs2 v3 v4 v5 s hr hc hx hP hC) n (v6, v7, N) hn hC
theorem cg_137_0 (hd : 2 ≤ d) (hS : mz_extR S 232) (hR : mz_rok R 232) (a1 : Nat) (a2 : Nat) (hs1 : S[a1]? = some (0, 3780, [])) (hs2 : S[a2]? = some (0, 135, [])) (N : mz_N) {C0 : (Bool × mz_N) → Prop} (hr : ∀ (w : Bool) (N2 : mz_N), C0 (w, N2) → Q (.inl (some (.int (mz_b01 w)))) (mz_k S R N2 b t)) (hp : cp_137_0 a1 a2 N) (hC : C0 (cf_137_0 a1 a2 N)) : mz_G (d, mz_X0 L xs, some .boolean, [], mk_137, 8, Q) 0 mk_137 [(0, .ref 219), (1, .ref a1), (2, .ref a2)] [] true (mz_k S R N b t) := by
  unfold cf_137_0 at hC
  unfold cp_137_0 at hp
  refine g_iconst mzi_1 (g_aload_n rfl (g_getI (mz_at hS (Nat.le_of_ble_eq_true rfl) mzcS_219) mzcf_8_4 (g_isub (g_istore_n (Nat.le_of_ble_eq_true rfl) rfl (g_iconst mzi_1 (g_aload_n rfl (g_getI (mz_at hS (Nat.le_of_ble_eq_true rfl) mzcS_219) mzcf_8_5 ?_)))))))
  refine g_aload_n rfl (g_iload_n rfl (g_iconst mzi_0 ?_))
  obtain ⟨h1, hp⟩ := hp
  refine g_v3v (Nat.le_of_ble_eq_true rfl) (mz_at hS (Nat.le_of_ble_eq_true rfl) mzcS_219) (fun _ hq => cs_96 (Nat.le_trans (Nat.le_of_ble_eq_true rfl) hd) (hS.le (Nat.le_of_ble_eq_true rfl)) (hR.le (Nat.le_of_ble_eq_true rfl))  (1 - (N.1 219 4)) 0 N h1 hq) (g_aload_n rfl (g_iload_n rfl (g_iconst mzi_1 ?_)))
  obtain ⟨h2, hp⟩ := hp
  refine g_v3v (Nat.le_of_ble_eq_true rfl) (mz_at hS (Nat.le_of_ble_eq_true rfl) mzcS_219) (fun _ hq => cs_96 (Nat.le_trans (Nat.le_of_ble_eq_true rfl) hd) (hS.le (Nat.le_of_ble_eq_true rfl)) (hR.le (Nat.le_of_ble_eq_true rfl))  (1 - (N.1 219 4)) 1 N h2 hq) (g_imax (Nat.le_of_ble_eq_true rfl) (g_imax (Nat.le_of_ble_eq_true rfl) (g_iadd (g_istore (Nat.le_of_ble_eq_true rfl) rfl (g_aload_n rfl ?_)))))
  obtain ⟨h3, hp⟩ := hp
  refine g_s1v (Nat.le_of_ble_eq_true rfl) (fun _ hq => cs_138 (Nat.le_trans (Nat.le_of_ble_eq_true rfl) hd) (hS.le (Nat.le_of_ble_eq_true rfl)) (hR.le (Nat.le_of_ble_eq_true rfl)) a2 hs2 N h3 hq) (g_istore (Nat.le_of_ble_eq_true rfl) rfl (g_iconst mzi_0 (g_istore (Nat.le_of_ble_eq_true rfl) rfl (g_iconst mzi_0 (g_istore (Nat.le_of_ble_eq_true rfl) rfl ?_)))))
  refine g_weak ?_ (g_cl (cg_137_45 hd hS hR a1 a2 hs1 hs2 (1 - (N.1 219 4)) (1 + (mz_imax (N.1 219 5) (mz_imax (cf_96_0 (1 - (N.1 219 4)) 0 N) (cf_96_0 (1 - (N.1 219 4)) 1 N)))) (cf_138_0 a2 N) 0 0 N hr hp hC))
  exact ⟨rfl, rfl, rfl, rfl, rfl, rfl, rfl, rfl, trivial⟩
theorem cs_137 (hd : 3 ≤ d) (hS : mz_extR S 232) (hR : mz_rok R 232) (a1 : Nat) (a2 : Nat) (hs1 : S[a1]? = some (0, 3780, [])) (hs2 : S[a2]? = some (0, 135, [])) (N : mz_N) (hp : cp_137_0 a1 a2 N) (hq : Q (.inl (some (.int (mz_b01 ((cf_137_0 a1 a2 N).1))))) (mz_k S R ((cf_137_0 a1 a2 N).2) b t)) : mz_Ed (mz_X0 L xs) d 137 [.ref 219, .ref a1, .ref a2] (mz_k S R N b t) Q :=
  by
  refine g_in mzq_137 (Nat.le_of_ble_eq_true rfl) (Nat.le_of_ble_eq_true rfl) (Nat.le_trans (Nat.le_of_ble_eq_true rfl) hd) ?_
  refine g_weak ?_ (cg_137_0 (d := d - 1) (by omega) hS hR a1 a2 hs1 hs2 N (C0 := fun z => Q (.inl (some (.int (mz_b01 z.1)))) (mz_k S R z.2 b t)) (fun _ _ h => h) hp hq)
  exact ⟨rfl, rfl, rfl, trivial⟩
/-! 139 KeptHouse$Store.append ()Z -/
theorem ms_139_0 : mz_sf mk_139 0 = mk_139 := mz_sf_zero _
theorem ms_139_2 : mz_sf mk_139 2 = mt_139_2 := mz_sf_add ms_139_0 (t := 2) rfl rfl
theorem ms_139_43 : mz_sf mk_139 43 = mt_139_43 := mz_sf_add ms_139_2 (t := 41) rfl rfl
theorem ms_139_44 : mz_sf mk_139 44 = mt_139_44 := mz_sf_add ms_139_43 (t := 1) rfl rfl
theorem ms_139_74 : mz_sf mk_139 74 = mt_139_74 := mz_sf_add ms_139_44 (t := 30) rfl rfl
theorem ms_139_91 : mz_sf mk_139 91 = mt_139_91 := mz_sf_add ms_139_74 (t := 17) rfl rfl
theorem ms_139_107 : mz_sf mk_139 107 = mt_139_107 := mz_sf_add ms_139_91 (t := 16) rfl rfl
theorem ms_139_109 : mz_sf mk_139 109 = mt_139_109 := mz_sf_add ms_139_107 (t := 2) rfl rfl
theorem ms_139_143 : mz_sf mk_139 143 = mt_139_143 := mz_sf_add ms_139_109 (t := 34) rfl rfl
theorem ms_139_161 : mz_sf mk_139 161 = mt_139_161 := mz_sf_add ms_139_143 (t := 18) rfl rfl
set_option maxRecDepth 100000 in
theorem mzq_139 : mz_PG0 139 = some (8, ⟨"KeptHouse$Store", "append", "()Z"⟩, prog_10_method_16_code, 2, some .boolean, [], mk_139, []) := rfl
theorem cg_139_74 (hd : 2 ≤ d) (hS : mz_extR S 232) (hR : mz_rok R 232)  (v1 : Int32) (N : mz_N) {C0 : (Bool × mz_N) → Prop} (hr : ∀ (w : Bool) (N2 : mz_N), C0 (w, N2) → Q (.inl (some (.int (mz_b01 w)))) (mz_k S R N2 b t)) {C1 : ((Int32 × mz_N) ⊕ (Bool × mz_N)) → Prop} (hc1 : ∀ s2, C1 (.inl s2) → mz_G (d, mz_X0 L xs, some .boolean, [], mk_139, 2, Q) 2 mt_139_2 [(0, .ref 219), (1, .int s2.1)] [] false (mz_k S R s2.2 b t)) (hx1 : ∀ z, C1 (.inr z) → C0 z) (hp : cp_139_74 v1 N) (hC : C1 (cf_139_74 v1 N)) : mz_G (d, mz_X0 L xs, some .boolean, [], mk_139, 2, Q) 74 mt_139_74 [(0, .ref 219), (1, .int v1)] [] false (mz_k S R N b t) := by
  unfold cf_139_74 at hC
  unfold cp_139_74 at hp
  refine g_aload_n rfl (g_aload_n rfl (g_getI (mz_at hS (Nat.le_of_ble_eq_true rfl) mzcS_219) mzcf_8_4 (g_aload_n rfl (g_getI (mz_at hS (Nat.le_of_ble_eq_true rfl) mzcS_219) mzcf_8_6 ?_))))
  have h1 := hp
  refine g_v3v (Nat.le_of_ble_eq_true rfl) (mz_at hS (Nat.le_of_ble_eq_true rfl) mzcS_219) (fun _ hq => cs_15 (Nat.le_trans (Nat.le_of_ble_eq_true rfl) hd) (hS.le (Nat.le_of_ble_eq_true rfl)) (mz_rs_of hR (Nat.le_of_ble_eq_true rfl))  (N.1 219 4) (N.1 219 6) N h1 hq) ?_
  refine g_zne (tg := 91) rfl ms_139_91 hC (fun h2 hC => ?_) (fun h2 hC => ?_)
  · refine g_aload_n rfl (g_dup rfl (g_getI (mz_at hS (Nat.le_of_ble_eq_true rfl) mzcS_219) mzcf_8_6 (g_iconst mzi_1 (g_iadd (g_putI (mz_at hS (Nat.le_of_ble_eq_true rfl) mzcS_219) mzcf_8_6 (g_iinc rfl mzi_1 (Nat.le_of_ble_eq_true rfl) rfl (g_goto (tg := 2) rfl ms_139_2 ?_)))))))
    refine g_weak ?_ (g_cl (hc1 ((v1 + 1), mz_pI ((cf_15_0 (N.1 219 4) (N.1 219 6) N).2) 219 6 ((((cf_15_0 (N.1 219 4) (N.1 219 6) N).2).1 219 6) + 1)) hC))
    exact ⟨rfl, rfl, trivial⟩
  · refine g_iconst mzi_0 ?_
    exact g_zret (z := false) rfl (hr _ _ (hx1 _ hC))
theorem cg_139_44 (hd : 2 ≤ d) (hS : mz_extR S 232) (hR : mz_rok R 232)  (s1 : Int32) (s2 : Int32) (s3 : Bool) (v1 : Int32) (N : mz_N) {C0 : (Bool × mz_N) → Prop} (hr : ∀ (w : Bool) (N2 : mz_N), C0 (w, N2) → Q (.inl (some (.int (mz_b01 w)))) (mz_k S R N2 b t)) {C1 : ((Int32 × mz_N) ⊕ (Bool × mz_N)) → Prop} (hc1 : ∀ s2, C1 (.inl s2) → mz_G (d, mz_X0 L xs, some .boolean, [], mk_139, 2, Q) 2 mt_139_2 [(0, .ref 219), (1, .int s2.1)] [] false (mz_k S R s2.2 b t)) (hx1 : ∀ z, C1 (.inr z) → C0 z) (hp : cp_139_44 s1 s2 s3 v1 N) (hC : C1 (cf_139_44 s1 s2 s3 v1 N)) : mz_G (d, mz_X0 L xs, some .boolean, [], mk_139, 2, Q) 44 mt_139_44 [(0, .ref 219), (1, .int v1)] [.int (mz_b01 s3), .int s2, .int s1, .ref 219] false (mz_k S R N b t) := by
  unfold cf_139_44 at hC
  unfold cp_139_44 at hp
  refine g_aload_n rfl (g_getI (mz_at hS (Nat.le_of_ble_eq_true rfl) mzcS_219) mzcf_8_6 (g_aload_n rfl (g_getI (mz_at hS (Nat.le_of_ble_eq_true rfl) mzcS_219) mzcf_8_5 ?_)))
  obtain ⟨h1, hp⟩ := hp
  refine g_v6n (Nat.le_of_ble_eq_true rfl) (mz_at hS (Nat.le_of_ble_eq_true rfl) mzcS_219) (fun _ hq => cs_12 (Nat.le_trans (Nat.le_of_ble_eq_true rfl) hd) (hS.le (Nat.le_of_ble_eq_true rfl)) (mz_rs_of hR (Nat.le_of_ble_eq_true rfl))  s1 s2 s3 (N.1 219 6) (N.1 219 5) N h1 hq) (g_aload_n rfl (g_getR (mz_at hS (Nat.le_of_ble_eq_true rfl) mzcS_219) mzcf_8_10 (mz_rb hR (Nat.le_of_ble_eq_true rfl) rfl mzcR_219_10) (g_iload_n rfl (g_bipush mzb_28 (g_imul (g_aload_n rfl (g_getR (mz_at hS (Nat.le_of_ble_eq_true rfl) mzcS_219) mzcf_8_3 (mz_rb hR (Nat.le_of_ble_eq_true rfl) rfl mzcR_219_3) ?_)))))))
  refine g_bipush mzb_12 (g_bipush mzb_28 ?_)
  obtain ⟨h2, hp⟩ := hp
  refine g_cpI (Nat.le_of_ble_eq_true rfl) (mz_at hS (Nat.le_of_ble_eq_true rfl) mzcS_227) (mz_at hS (Nat.le_of_ble_eq_true rfl) mzcS_225) h2 ?_
  refine g_weak ?_ (g_cl (cg_139_74 hd hS hR v1 (mz_yI (cf_12_0 s1 s2 s3 (N.1 219 6) (N.1 219 5) N) 227 (v1 * 28) 225 12 28) hr hc1 hx1 hp hC))
  exact ⟨rfl, rfl, trivial⟩
theorem cb_139_109 (hd : 2 ≤ d) (hS : mz_extR S 232) (hR : mz_rok R 232)   (s : Int32 × mz_N) {C0 : (Bool × mz_N) → Prop} (hr : ∀ (w : Bool) (N2 : mz_N), C0 (w, N2) → Q (.inl (some (.int (mz_b01 w)))) (mz_k S R N2 b t)) {C1 : ((Int32 × mz_N) ⊕ (Bool × mz_N)) → Prop} (hc1 : ∀ s2, C1 (.inl s2) → mz_G (d, mz_X0 L xs, some .boolean, [], mk_139, 2, Q) 109 mt_139_109 [(0, .ref 219), (1, .int s2.1)] [] false (mz_k S R s2.2 b t)) (hx1 : ∀ z, C1 (.inr z) → C0 z) (hp : cd_139_109  s) (hC : C1 (cq_139_109  s)) : mz_G (d, mz_X0 L xs, some .boolean, [], mk_139, 2, Q) 109 mt_139_109 [(0, .ref 219), (1, .int s.1)] [] false (mz_k S R s.2 b t) := by
  unfold cq_139_109 at hC
  unfold cd_139_109 at hp
  refine g_iload_n rfl (g_aload_n rfl (g_getI (mz_at hS (Nat.le_of_ble_eq_true rfl) mzcS_219) mzcf_8_11 ?_))
  refine g_icge (tg := 161) rfl ms_139_161 hC (fun h1 hC => ?_) (fun h1 hC => ?_)
  · have hp := hp.1 h1
    refine g_aload_n rfl (g_getR (mz_at hS (Nat.le_of_ble_eq_true rfl) mzcS_219) mzcf_8_10 (mz_rb hR (Nat.le_of_ble_eq_true rfl) rfl mzcR_219_10) (g_iload_n rfl (g_bipush mzb_28 (g_imul (g_aload_n rfl (g_getR (mz_at hS (Nat.le_of_ble_eq_true rfl) mzcS_219) mzcf_8_1 (mz_rb hR (Nat.le_of_ble_eq_true rfl) rfl mzcR_219_1) (g_aload_n rfl ?_)))))))
    refine g_getR (mz_at hS (Nat.le_of_ble_eq_true rfl) mzcS_219) mzcf_8_9 (mz_rb hR (Nat.le_of_ble_eq_true rfl) rfl mzcR_219_9) (g_iload_n rfl ?_)
    obtain ⟨h2, hp⟩ := hp
    refine g_iald hS.1 (mz_at hS (Nat.le_of_ble_eq_true rfl) mzcS_226) h2 (g_bipush mzb_28 (g_imul (g_bipush mzb_28 ?_)))
    obtain ⟨h3, hp⟩ := hp
    refine g_cpI (Nat.le_of_ble_eq_true rfl) (mz_at hS (Nat.le_of_ble_eq_true rfl) mzcS_227) (mz_at hS (Nat.le_of_ble_eq_true rfl) mzcS_223) h3 (g_aload_n rfl (g_getR (mz_at hS (Nat.le_of_ble_eq_true rfl) mzcS_219) mzcf_8_2 (mz_rb hR (Nat.le_of_ble_eq_true rfl) rfl mzcR_219_2) (g_aload_n rfl (g_getR (mz_at hS (Nat.le_of_ble_eq_true rfl) mzcS_219) mzcf_8_9 (mz_rb hR (Nat.le_of_ble_eq_true rfl) rfl mzcR_219_9) (g_iload_n rfl ?_)))))
    obtain ⟨h4, hp⟩ := hp
    refine g_iald hS.1 (mz_at hS (Nat.le_of_ble_eq_true rfl) mzcS_226) h4 (g_iconst mzi_1 ?_)
    have h5 := hp
    refine g_iast (mz_at hS (Nat.le_of_ble_eq_true rfl) mzcS_224) h5 (g_iinc rfl mzi_1 (Nat.le_of_ble_eq_true rfl) rfl (g_goto (tg := 109) rfl ms_139_109 ?_))
    refine g_weak ?_ (g_cl (hc1 ((s.1 + 1), mz_wI (mz_yI s.2 227 (s.1 * 28) 223 ((mz_gI s.2 226 s.1) * 28) 28) 224 (mz_gI (mz_yI s.2 227 (s.1 * 28) 223 ((mz_gI s.2 226 s.1) * 28) 28) 226 s.1) 1) hC))
    exact ⟨rfl, rfl, trivial⟩
  · have hp := hp.2 h1
    refine g_iconst mzi_1 ?_
    exact g_zret (z := true) rfl (hr _ _ (hx1 _ hC))
theorem cg_139_109 (hd : 2 ≤ d) (hS : mz_extR S 232) (hR : mz_rok R 232)  (v1 : Int32) (N : mz_N) {C0 : (Bool × mz_N) → Prop} (hr : ∀ (w : Bool) (N2 : mz_N), C0 (w, N2) → Q (.inl (some (.int (mz_b01 w)))) (mz_k S R N2 b t)) (hp : cp_139_109 v1 N) (hC : C0 (cf_139_109 v1 N)) : mz_G (d, mz_X0 L xs, some .boolean, [], mk_139, 2, Q) 109 mt_139_109 [(0, .ref 219), (1, .int v1)] [] false (mz_k S R N b t) := by
  obtain ⟨n, hn⟩ := hp
  exact g_loop (G := fun s => mz_G (d, mz_X0 L xs, some .boolean, [], mk_139, 2, Q) 109 mt_139_109 [(0, .ref 219), (1, .int s.1)] [] false (mz_k S R s.2 b t)) (C := C0) (fun C2 hc hx s hP hC => cb_139_109 hd hS hR  s hr hc hx hP hC) n (v1, N) hn hC
theorem cb_139_2 (hd : 2 ≤ d) (hS : mz_extR S 232) (hR : mz_rok R 232)   (s : Int32 × mz_N) {C0 : (Bool × mz_N) → Prop} (hr : ∀ (w : Bool) (N2 : mz_N), C0 (w, N2) → Q (.inl (some (.int (mz_b01 w)))) (mz_k S R N2 b t)) {C1 : ((Int32 × mz_N) ⊕ (Bool × mz_N)) → Prop} (hc1 : ∀ s2, C1 (.inl s2) → mz_G (d, mz_X0 L xs, some .boolean, [], mk_139, 2, Q) 2 mt_139_2 [(0, .ref 219), (1, .int s2.1)] [] false (mz_k S R s2.2 b t)) (hx1 : ∀ z, C1 (.inr z) → C0 z) (hp : cd_139_2  s) (hC : C1 (cq_139_2  s)) : mz_G (d, mz_X0 L xs, some .boolean, [], mk_139, 2, Q) 2 mt_139_2 [(0, .ref 219), (1, .int s.1)] [] false (mz_k S R s.2 b t) := by
  unfold cq_139_2 at hC
  unfold cd_139_2 at hp
  refine g_iload_n rfl (g_aload_n rfl (g_getI (mz_at hS (Nat.le_of_ble_eq_true rfl) mzcS_219) mzcf_8_11 ?_))
  refine g_icge (tg := 107) rfl ms_139_107 hC (fun h1 hC => ?_) (fun h1 hC => ?_)
  · have hp := hp.1 h1
    refine g_aload_n rfl (g_aload_n rfl (g_getR (mz_at hS (Nat.le_of_ble_eq_true rfl) mzcS_219) mzcf_8_9 (mz_rb hR (Nat.le_of_ble_eq_true rfl) rfl mzcR_219_9) (g_iload_n rfl ?_)))
    obtain ⟨h2, hp⟩ := hp
    refine g_iald hS.1 (mz_at hS (Nat.le_of_ble_eq_true rfl) mzcS_226) h2 ?_
    obtain ⟨h3, hp⟩ := hp
    refine g_s1v (Nat.le_of_ble_eq_true rfl) (fun _ hq => cs_55 (Nat.le_trans (Nat.le_of_ble_eq_true rfl) hd) (hS.le (Nat.le_of_ble_eq_true rfl)) (hR.le (Nat.le_of_ble_eq_true rfl))  (mz_gI s.2 226 s.1) h3 hq) (g_aload_n rfl (g_getR (mz_at hS (Nat.le_of_ble_eq_true rfl) mzcS_219) mzcf_8_9 (mz_rb hR (Nat.le_of_ble_eq_true rfl) rfl mzcR_219_9) (g_iload_n rfl ?_)))
    obtain ⟨h4, hp⟩ := hp
    refine g_iald hS.1 (mz_at hS (Nat.le_of_ble_eq_true rfl) mzcS_226) h4 ?_
    obtain ⟨h5, hp⟩ := hp
    refine g_s1v (Nat.le_of_ble_eq_true rfl) (fun _ hq => cs_56 (Nat.le_trans (Nat.le_of_ble_eq_true rfl) hd) (hS.le (Nat.le_of_ble_eq_true rfl)) (hR.le (Nat.le_of_ble_eq_true rfl))  (mz_gI s.2 226 s.1) h5 hq) (g_iload_n rfl (g_aload_n rfl (g_getI (mz_at hS (Nat.le_of_ble_eq_true rfl) mzcS_219) mzcf_8_11 (g_iconst mzi_1 (g_isub ?_)))))
    refine g_icne (tg := 43) rfl ms_139_43 hC (fun h6 hC => ?_) (fun h6 hC => ?_)
    · have hp := hp.1 h6
      refine g_iconst mzi_1 (g_goto (tg := 44) rfl ms_139_44 ?_)
      refine g_weak ?_ (g_cl (cg_139_44 hd hS hR (cf_55_0 (mz_gI s.2 226 s.1)) (cf_56_0 (mz_gI s.2 226 s.1)) true s.1 s.2 hr hc1 hx1 hp hC))
      exact ⟨rfl, rfl, trivial⟩
    · have hp := hp.2 h6
      refine g_iconst mzi_0 ?_
      refine g_weak ?_ (g_cl (cg_139_44 hd hS hR (cf_55_0 (mz_gI s.2 226 s.1)) (cf_56_0 (mz_gI s.2 226 s.1)) false s.1 s.2 hr hc1 hx1 hp hC))
      exact ⟨rfl, rfl, trivial⟩
  · have hp := hp.2 h1
    refine g_iconst mzi_0 (g_istore_n (Nat.le_of_ble_eq_true rfl) rfl ?_)
    refine g_weak ?_ (g_cl (cg_139_109 hd hS hR 0 s.2 hr hp (hx1 _ hC)))
    exact ⟨rfl, rfl, trivial⟩
theorem cg_139_2 (hd : 2 ≤ d) (hS : mz_extR S 232) (hR : mz_rok R 232)  (v1 : Int32) (N : mz_N) {C0 : (Bool × mz_N) → Prop} (hr : ∀ (w : Bool) (N2 : mz_N), C0 (w, N2) → Q (.inl (some (.int (mz_b01 w)))) (mz_k S R N2 b t)) (hp : cp_139_2 v1 N) (hC : C0 (cf_139_2 v1 N)) : mz_G (d, mz_X0 L xs, some .boolean, [], mk_139, 2, Q) 2 mt_139_2 [(0, .ref 219), (1, .int v1)] [] false (mz_k S R N b t) := by
  obtain ⟨n, hn⟩ := hp
  exact g_loop (G := fun s => mz_G (d, mz_X0 L xs, some .boolean, [], mk_139, 2, Q) 2 mt_139_2 [(0, .ref 219), (1, .int s.1)] [] false (mz_k S R s.2 b t)) (C := C0) (fun C2 hc hx s hP hC => cb_139_2 hd hS hR  s hr hc hx hP hC) n (v1, N) hn hC
theorem cg_139_0 (hd : 2 ≤ d) (hS : mz_extR S 232) (hR : mz_rok R 232)  (N : mz_N) {C0 : (Bool × mz_N) → Prop} (hr : ∀ (w : Bool) (N2 : mz_N), C0 (w, N2) → Q (.inl (some (.int (mz_b01 w)))) (mz_k S R N2 b t)) (hp : cp_139_0 N) (hC : C0 (cf_139_0 N)) : mz_G (d, mz_X0 L xs, some .boolean, [], mk_139, 2, Q) 0 mk_139 [(0, .ref 219)] [] true (mz_k S R N b t) := by
  unfold cf_139_0 at hC
  unfold cp_139_0 at hp
  refine g_iconst mzi_0 (g_istore_n (Nat.le_of_ble_eq_true rfl) rfl ?_)
  refine g_weak ?_ (g_cl (cg_139_2 hd hS hR 0 N hr hp hC))
  exact ⟨rfl, rfl, trivial⟩
theorem cs_139 (hd : 3 ≤ d) (hS : mz_extR S 232) (hR : mz_rok R 232)  (N : mz_N) (hp : cp_139_0 N) (hq : Q (.inl (some (.int (mz_b01 ((cf_139_0 N).1))))) (mz_k S R ((cf_139_0 N).2) b t)) : mz_Ed (mz_X0 L xs) d 139 [.ref 219] (mz_k S R N b t) Q :=
  by
  refine g_in mzq_139 (Nat.le_of_ble_eq_true rfl) (Nat.le_of_ble_eq_true rfl) (Nat.le_trans (Nat.le_of_ble_eq_true rfl) hd) ?_
  refine g_weak ?_ (cg_139_0 (d := d - 1) (by omega) hS hR N (C0 := fun z => Q (.inl (some (.int (mz_b01 z.1)))) (mz_k S R z.2 b t)) (fun _ _ h => h) hp hq)
  exact ⟨rfl, trivial⟩
/-! 121 KeptHouse$Keeper.writeGroup ()Z -/
theorem ms_121_0 : mz_sf mk_121 0 = mk_121 := mz_sf_zero _
theorem ms_121_2 : mz_sf mk_121 2 = mt_121_2 := mz_sf_add ms_121_0 (t := 2) rfl rfl
theorem ms_121_46 : mz_sf mk_121 46 = mt_121_46 := mz_sf_add ms_121_2 (t := 44) rfl rfl
theorem ms_121_52 : mz_sf mk_121 52 = mt_121_52 := mz_sf_add ms_121_46 (t := 6) rfl rfl
theorem ms_121_86 : mz_sf mk_121 86 = mt_121_86 := mz_sf_add ms_121_52 (t := 34) rfl rfl
theorem ms_121_88 : mz_sf mk_121 88 = mt_121_88 := mz_sf_add ms_121_86 (t := 2) rfl rfl
set_option maxRecDepth 100000 in
theorem mzq_121 : mz_PG0 121 = some (4, ⟨"KeptHouse$Keeper", "writeGroup", "()Z"⟩, prog_6_method_5_code, 3, some .boolean, [], mk_121, []) := rfl
theorem cg_121_88 (hd : 3 ≤ d) (hS : mz_extR S 232) (hR : mz_rok R 232)  (N : mz_N) (b : Bool) {C0 : (Bool × mz_N) → Prop} (hr : ∀ (w : Bool) (N2 : mz_N), C0 (w, N2) → Q (.inl (some (.int (mz_b01 w)))) (mz_k S R N2 b t)) (hp : cp_121_88 N b) (hC : C0 (cf_121_88 N b)) : mz_G (d, mz_X0 L xs, some .boolean, [], mk_121, 3, Q) 88 mt_121_88 [(0, .ref 1)] [] false (mz_k S R N b t) := by
  unfold cf_121_88 at hC
  unfold cp_121_88 at hp
  refine g_aload_n rfl (g_getR (mz_at hS (Nat.le_of_ble_eq_true rfl) mzcS_1) mzcf_4_8 (mz_rb hR (Nat.le_of_ble_eq_true rfl) rfl mzcR_1_8) ?_)
  have h1 := hp
  refine g_v1v (Nat.le_of_ble_eq_true rfl) (mz_at hS (Nat.le_of_ble_eq_true rfl) mzcS_219) (fun _ hq => cs_139 (Nat.le_trans (Nat.le_of_ble_eq_true rfl) hd) (hS.le (Nat.le_of_ble_eq_true rfl)) (hR.le (Nat.le_of_ble_eq_true rfl))  N h1 hq) ?_
  exact g_zret (z := ((cf_139_0 N).1)) rfl (hr _ _ hC)
theorem cg_121_46 (hd : 3 ≤ d) (hS : mz_extR S 232) (hR : mz_rok R 232)  (v1 : Int32) (N : mz_N) (b : Bool) {C0 : (Bool × mz_N) → Prop} (hr : ∀ (w : Bool) (N2 : mz_N), C0 (w, N2) → Q (.inl (some (.int (mz_b01 w)))) (mz_k S R N2 b t)) {C1 : ((Int32 × mz_N) ⊕ (Bool × mz_N)) → Prop} (hc1 : ∀ s2, C1 (.inl s2) → mz_G (d, mz_X0 L xs, some .boolean, [], mk_121, 3, Q) 2 mt_121_2 [(0, .ref 1), (1, .int s2.1)] [] false (mz_k S R s2.2 b t)) (hx1 : ∀ z, C1 (.inr z) → C0 z) (hp : cp_121_46 v1 N b) (hC : C1 (cf_121_46 v1 N b)) : mz_G (d, mz_X0 L xs, some .boolean, [], mk_121, 3, Q) 46 mt_121_46 [(0, .ref 1), (1, .int v1)] [] false (mz_k S R N b t) := by
  unfold cf_121_46 at hC
  unfold cp_121_46 at hp
  refine g_iinc rfl mzi_1 (Nat.le_of_ble_eq_true rfl) rfl (g_goto (tg := 2) rfl ms_121_2 ?_)
  refine g_weak ?_ (g_cl (hc1 ((v1 + 1), N) hC))
  exact ⟨rfl, rfl, trivial⟩
theorem cb_121_2 (hd : 3 ≤ d) (hS : mz_extR S 232) (hR : mz_rok R 232)  (b : Bool) (s : Int32 × mz_N) {C0 : (Bool × mz_N) → Prop} (hr : ∀ (w : Bool) (N2 : mz_N), C0 (w, N2) → Q (.inl (some (.int (mz_b01 w)))) (mz_k S R N2 b t)) {C1 : ((Int32 × mz_N) ⊕ (Bool × mz_N)) → Prop} (hc1 : ∀ s2, C1 (.inl s2) → mz_G (d, mz_X0 L xs, some .boolean, [], mk_121, 3, Q) 2 mt_121_2 [(0, .ref 1), (1, .int s2.1)] [] false (mz_k S R s2.2 b t)) (hx1 : ∀ z, C1 (.inr z) → C0 z) (hp : cd_121_2 b s) (hC : C1 (cq_121_2 b s)) : mz_G (d, mz_X0 L xs, some .boolean, [], mk_121, 3, Q) 2 mt_121_2 [(0, .ref 1), (1, .int s.1)] [] false (mz_k S R s.2 b t) := by
  unfold cq_121_2 at hC
  unfold cd_121_2 at hp
  refine g_iload_n rfl (g_aload_n rfl (g_getR (mz_at hS (Nat.le_of_ble_eq_true rfl) mzcS_1) mzcf_4_8 (mz_rb hR (Nat.le_of_ble_eq_true rfl) rfl mzcR_1_8) (g_getI (mz_at hS (Nat.le_of_ble_eq_true rfl) mzcS_219) mzcf_8_11 ?_)))
  refine g_icge (tg := 52) rfl ms_121_52 hC (fun h1 hC => ?_) (fun h1 hC => ?_)
  · have hp := hp.1 h1
    refine g_aload_n rfl (g_getR (mz_at hS (Nat.le_of_ble_eq_true rfl) mzcS_1) mzcf_4_8 (mz_rb hR (Nat.le_of_ble_eq_true rfl) rfl mzcR_1_8) (g_getR (mz_at hS (Nat.le_of_ble_eq_true rfl) mzcS_219) mzcf_8_9 (mz_rb hR (Nat.le_of_ble_eq_true rfl) rfl mzcR_219_9) (g_iload_n rfl ?_)))
    obtain ⟨h2, hp⟩ := hp
    refine g_iald hS.1 (mz_at hS (Nat.le_of_ble_eq_true rfl) mzcS_226) h2 (g_istore_n (Nat.le_of_ble_eq_true rfl) rfl (g_aload_n rfl (g_iload_n rfl ?_)))
    obtain ⟨h3, hp⟩ := hp
    refine g_s1v (Nat.le_of_ble_eq_true rfl) (fun _ hq => cs_55 (Nat.le_trans (Nat.le_of_ble_eq_true rfl) hd) (hS.le (Nat.le_of_ble_eq_true rfl)) (hR.le (Nat.le_of_ble_eq_true rfl))  (mz_gI s.2 226 s.1) h3 hq) (g_iload_n rfl ?_)
    obtain ⟨h4, hp⟩ := hp
    refine g_s1v (Nat.le_of_ble_eq_true rfl) (fun _ hq => cs_56 (Nat.le_trans (Nat.le_of_ble_eq_true rfl) hd) (hS.le (Nat.le_of_ble_eq_true rfl)) (hR.le (Nat.le_of_ble_eq_true rfl))  (mz_gI s.2 226 s.1) h4 hq) (g_aload_n rfl (g_getR (mz_at hS (Nat.le_of_ble_eq_true rfl) mzcS_1) mzcf_4_8 (mz_rb hR (Nat.le_of_ble_eq_true rfl) rfl mzcR_1_8) (g_getR (mz_at hS (Nat.le_of_ble_eq_true rfl) mzcS_219) mzcf_8_10 (mz_rb hR (Nat.le_of_ble_eq_true rfl) rfl mzcR_219_10) (g_iload_n rfl (g_bipush mzb_28 (g_imul ?_))))))
    obtain ⟨h5, hp⟩ := hp
    refine g_v5n (Nat.le_of_ble_eq_true rfl) (mz_at hS (Nat.le_of_ble_eq_true rfl) mzcS_1) (fun _ hq => cs_122 (Nat.le_trans (Nat.le_of_ble_eq_true rfl) hd) (hS.le (Nat.le_of_ble_eq_true rfl)) (hR.le (Nat.le_of_ble_eq_true rfl))  (cf_55_0 (mz_gI s.2 226 s.1)) (cf_56_0 (mz_gI s.2 226 s.1)) (s.1 * 28) s.2 b h5 hq) ?_
    refine g_weak ?_ (g_cl (cg_121_46 hd hS hR s.1 (cf_122_0 (cf_55_0 (mz_gI s.2 226 s.1)) (cf_56_0 (mz_gI s.2 226 s.1)) (s.1 * 28) s.2 b) b hr hc1 hx1 hp hC))
    exact ⟨rfl, rfl, trivial⟩
  · have hp := hp.2 h1
    refine g_aload_n rfl (g_getR (mz_at hS (Nat.le_of_ble_eq_true rfl) mzcS_1) mzcf_4_8 (mz_rb hR (Nat.le_of_ble_eq_true rfl) rfl mzcR_1_8) ?_)
    refine g_v1v (Nat.le_of_ble_eq_true rfl) (mz_at hS (Nat.le_of_ble_eq_true rfl) mzcS_219) (fun _ hq => cs_136 (Nat.le_trans (Nat.le_of_ble_eq_true rfl) hd) (hS.le (Nat.le_of_ble_eq_true rfl)) (hR.le (Nat.le_of_ble_eq_true rfl))  s.2 trivial hq) ?_
    refine g_zne (tg := 88) rfl ms_121_88 hC (fun h7 hC => ?_) (fun h7 hC => ?_)
    · have hp := hp.1 h7
      refine g_weak ?_ (g_cl (cg_121_88 hd hS hR s.2 b hr hp (hx1 _ hC)))
      exact ⟨rfl, trivial⟩
    · have hp := hp.2 h7
      refine g_aload_n rfl (g_getR (mz_at hS (Nat.le_of_ble_eq_true rfl) mzcS_1) mzcf_4_8 (mz_rb hR (Nat.le_of_ble_eq_true rfl) rfl mzcR_1_8) (g_aload_n rfl (g_getR (mz_at hS (Nat.le_of_ble_eq_true rfl) mzcS_1) mzcf_4_8 (mz_rb hR (Nat.le_of_ble_eq_true rfl) rfl mzcR_1_8) (g_getR (mz_at hS (Nat.le_of_ble_eq_true rfl) mzcS_219) mzcf_8_1 (mz_rb hR (Nat.le_of_ble_eq_true rfl) rfl mzcR_219_1) (g_aload_n rfl (g_getR (mz_at hS (Nat.le_of_ble_eq_true rfl) mzcS_1) mzcf_4_8 (mz_rb hR (Nat.le_of_ble_eq_true rfl) rfl mzcR_1_8) (g_getR (mz_at hS (Nat.le_of_ble_eq_true rfl) mzcS_219) mzcf_8_2 (mz_rb hR (Nat.le_of_ble_eq_true rfl) rfl mzcR_219_2) ?_)))))))
      obtain ⟨h8, hp⟩ := hp
      refine g_v3v (Nat.le_of_ble_eq_true rfl) (mz_at hS (Nat.le_of_ble_eq_true rfl) mzcS_219) (fun _ hq => cs_137 (Nat.le_trans (Nat.le_of_ble_eq_true rfl) hd) (hS.le (Nat.le_of_ble_eq_true rfl)) (hR.le (Nat.le_of_ble_eq_true rfl)) 223 224 (mz_at hS (Nat.le_of_ble_eq_true rfl) mzcS_223) (mz_at hS (Nat.le_of_ble_eq_true rfl) mzcS_224) s.2 h8 hq) ?_
      refine g_zne (tg := 88) rfl ms_121_88 hC (fun h9 hC => ?_) (fun h9 hC => ?_)
      · have hp := hp.1 h9
        refine g_weak ?_ (g_cl (cg_121_88 hd hS hR ((cf_137_0 223 224 s.2).2) b hr hp (hx1 _ hC)))
        exact ⟨rfl, trivial⟩
      · have hp := hp.2 h9
        refine g_iconst mzi_0 ?_
        exact g_zret (z := false) rfl (hr _ _ (hx1 _ hC))
theorem cg_121_2 (hd : 3 ≤ d) (hS : mz_extR S 232) (hR : mz_rok R 232)  (v1 : Int32) (N : mz_N) (b : Bool) {C0 : (Bool × mz_N) → Prop} (hr : ∀ (w : Bool) (N2 : mz_N), C0 (w, N2) → Q (.inl (some (.int (mz_b01 w)))) (mz_k S R N2 b t)) (hp : cp_121_2 v1 N b) (hC : C0 (cf_121_2 v1 N b)) : mz_G (d, mz_X0 L xs, some .boolean, [], mk_121, 3, Q) 2 mt_121_2 [(0, .ref 1), (1, .int v1)] [] false (mz_k S R N b t) := by
  obtain ⟨n, hn⟩ := hp
  exact g_loop (G := fun s => mz_G (d, mz_X0 L xs, some .boolean, [], mk_121, 3, Q) 2 mt_121_2 [(0, .ref 1), (1, .int s.1)] [] false (mz_k S R s.2 b t)) (C := C0) (fun C2 hc hx s hP hC => cb_121_2 hd hS hR b s hr hc hx hP hC) n (v1, N) hn hC
theorem cg_121_0 (hd : 3 ≤ d) (hS : mz_extR S 232) (hR : mz_rok R 232)  (N : mz_N) (b : Bool) {C0 : (Bool × mz_N) → Prop} (hr : ∀ (w : Bool) (N2 : mz_N), C0 (w, N2) → Q (.inl (some (.int (mz_b01 w)))) (mz_k S R N2 b t)) (hp : cp_121_0 N b) (hC : C0 (cf_121_0 N b)) : mz_G (d, mz_X0 L xs, some .boolean, [], mk_121, 3, Q) 0 mk_121 [(0, .ref 1)] [] true (mz_k S R N b t) := by
  unfold cf_121_0 at hC
  unfold cp_121_0 at hp
  refine g_iconst mzi_0 (g_istore_n (Nat.le_of_ble_eq_true rfl) rfl ?_)
  refine g_weak ?_ (g_cl (cg_121_2 hd hS hR 0 N b hr hp hC))
  exact ⟨rfl, rfl, trivial⟩
theorem cs_121 (hd : 4 ≤ d) (hS : mz_extR S 232) (hR : mz_rok R 232)  (N : mz_N) (b : Bool) (hp : cp_121_0 N b) (hq : Q (.inl (some (.int (mz_b01 ((cf_121_0 N b).1))))) (mz_k S R ((cf_121_0 N b).2) b t)) : mz_Ed (mz_X0 L xs) d 121 [.ref 1] (mz_k S R N b t) Q :=
  by
  refine g_in mzq_121 (Nat.le_of_ble_eq_true rfl) (Nat.le_of_ble_eq_true rfl) (Nat.le_trans (Nat.le_of_ble_eq_true rfl) hd) ?_
  refine g_weak ?_ (cg_121_0 (d := d - 1) (by omega) hS hR N b (C0 := fun z => Q (.inl (some (.int (mz_b01 z.1)))) (mz_k S R z.2 b t)) (fun _ _ h => h) hp hq)
  exact ⟨rfl, trivial⟩
/-! 111 KeptHouse.merge (I)I -/
theorem ms_111_0 : mz_sf mk_111 0 = mk_111 := mz_sf_zero _
theorem ms_111_23 : mz_sf mk_111 23 = mt_111_23 := mz_sf_add ms_111_0 (t := 23) rfl rfl
theorem ms_111_26 : mz_sf mk_111 26 = mt_111_26 := mz_sf_add ms_111_23 (t := 3) rfl rfl
theorem ms_111_43 : mz_sf mk_111 43 = mt_111_43 := mz_sf_add ms_111_26 (t := 17) rfl rfl
theorem ms_111_52 : mz_sf mk_111 52 = mt_111_52 := mz_sf_add ms_111_43 (t := 9) rfl rfl
theorem ms_111_77 : mz_sf mk_111 77 = mt_111_77 := mz_sf_add ms_111_52 (t := 25) rfl rfl
theorem ms_111_83 : mz_sf mk_111 83 = mt_111_83 := mz_sf_add ms_111_77 (t := 6) rfl rfl
theorem ms_111_111 : mz_sf mk_111 111 = mt_111_111 := mz_sf_add ms_111_83 (t := 28) rfl rfl
theorem ms_111_114 : mz_sf mk_111 114 = mt_111_114 := mz_sf_add ms_111_111 (t := 3) rfl rfl
set_option maxRecDepth 100000 in
theorem mzq_111 : mz_PG0 111 = some (11, ⟨"KeptHouse", "merge", "(I)I"⟩, prog_1_method_9_code, 4, some .int, [], mk_111, []) := rfl
theorem cg_111_77 (hd : 5 ≤ d) (hS : mz_extR S 232) (hR : mz_rok R 232)  (v1 : Int32) (v3 : Int32) (N : mz_N) (b : Bool) {C0 : (Nat × Int32 × mz_N) → Prop} (hr : ∀ (w : Int32) (N2 : mz_N), C0 (0, w, N2) → Q (.inl (some (.int w))) (mz_k S R N2 b t)) (ht : ∀ (c : Nat) (w : Int32) (N2 : mz_N), ¬ c = 0 → C0 (c, w, N2) → Q (.inr (c - 1)) (mz_k S R N2 b (t + 1))) (h1000 : t < 1000) {C1 : ((Int32 × mz_N) ⊕ (Nat × Int32 × mz_N)) → Prop} (hc1 : ∀ s2, C1 (.inl s2) → mz_G (d, mz_X0 L xs, some .int, [], mk_111, 4, Q) 52 mt_111_52 [(0, .ref 0), (1, .int v1), (3, .int s2.1)] [] false (mz_k S R s2.2 b t)) (hx1 : ∀ z, C1 (.inr z) → C0 z) (hp : cp_111_77 v1 v3 N b) (hC : C1 (cf_111_77 v1 v3 N b)) : mz_G (d, mz_X0 L xs, some .int, [], mk_111, 4, Q) 77 mt_111_77 [(0, .ref 0), (1, .int v1), (3, .int v3)] [] false (mz_k S R N b t) := by
  unfold cf_111_77 at hC
  unfold cp_111_77 at hp
  refine g_iinc rfl mzi_1 (Nat.le_of_ble_eq_true rfl) rfl (g_goto (tg := 52) rfl ms_111_52 ?_)
  refine g_weak ?_ (g_cl (hc1 ((v3 + 1), N) hC))
  exact ⟨rfl, rfl, rfl, trivial⟩
theorem cb_111_52 (hd : 5 ≤ d) (hS : mz_extR S 232) (hR : mz_rok R 232)  (v1 : Int32) (b : Bool) (s : Int32 × mz_N) {C0 : (Nat × Int32 × mz_N) → Prop} (hr : ∀ (w : Int32) (N2 : mz_N), C0 (0, w, N2) → Q (.inl (some (.int w))) (mz_k S R N2 b t)) (ht : ∀ (c : Nat) (w : Int32) (N2 : mz_N), ¬ c = 0 → C0 (c, w, N2) → Q (.inr (c - 1)) (mz_k S R N2 b (t + 1))) (h1000 : t < 1000) {C1 : ((Int32 × mz_N) ⊕ (Nat × Int32 × mz_N)) → Prop} (hc1 : ∀ s2, C1 (.inl s2) → mz_G (d, mz_X0 L xs, some .int, [], mk_111, 4, Q) 52 mt_111_52 [(0, .ref 0), (1, .int v1), (3, .int s2.1)] [] false (mz_k S R s2.2 b t)) (hx1 : ∀ z, C1 (.inr z) → C0 z) (hp : cd_111_52 v1 b s) (hC : C1 (cq_111_52 v1 b s)) : mz_G (d, mz_X0 L xs, some .int, [], mk_111, 4, Q) 52 mt_111_52 [(0, .ref 0), (1, .int v1), (3, .int s.1)] [] false (mz_k S R s.2 b t) := by
  unfold cq_111_52 at hC
  unfold cd_111_52 at hp
  refine g_iload_n rfl (g_iconst mzi_5 ?_)
  refine g_icge (tg := 83) rfl ms_111_83 hC (fun h1 hC => ?_) (fun h1 hC => ?_)
  · have hp := hp.1 h1
    refine g_aload_n rfl (g_getR (mz_at hS (Nat.le_of_ble_eq_true rfl) mzcS_0) mzcf_11_1 (mz_rb hR (Nat.le_of_ble_eq_true rfl) rfl mzcR_0_1) (g_iload_n rfl ?_))
    obtain ⟨h2, hp⟩ := hp
    refine g_v2v (Nat.le_of_ble_eq_true rfl) (mz_at hS (Nat.le_of_ble_eq_true rfl) mzcS_2) (fun _ hq => cs_118 (Nat.le_trans (Nat.le_of_ble_eq_true rfl) hd) (hS.le (Nat.le_of_ble_eq_true rfl)) (hR.le (Nat.le_of_ble_eq_true rfl))  s.1 s.2 h2 hq) ?_
    refine g_zeq (tg := 77) rfl ms_111_77 hC (fun h3 hC => ?_) (fun h3 hC => ?_)
    · have hp := hp.1 h3
      refine g_aload_n rfl (g_getR (mz_at hS (Nat.le_of_ble_eq_true rfl) mzcS_0) mzcf_11_0 (mz_rb hR (Nat.le_of_ble_eq_true rfl) rfl mzcR_0_0) (g_iconst mzi_1 (g_iload_n rfl ?_)))
      obtain ⟨h4, hp⟩ := hp
      refine g_v3n (Nat.le_of_ble_eq_true rfl) (mz_at hS (Nat.le_of_ble_eq_true rfl) mzcS_1) (fun _ hq => cs_119 (Nat.le_trans (Nat.le_of_ble_eq_true rfl) hd) (hS.le (Nat.le_of_ble_eq_true rfl)) (hR.le (Nat.le_of_ble_eq_true rfl))  1 s.1 s.2 h4 hq) ?_
      refine g_weak ?_ (g_cl (cg_111_77 hd hS hR v1 s.1 (cf_119_0 1 s.1 s.2) b hr ht h1000 hc1 hx1 hp hC))
      exact ⟨rfl, rfl, rfl, trivial⟩
    · have hp := hp.2 h3
      refine g_weak ?_ (g_cl (cg_111_77 hd hS hR v1 s.1 s.2 b hr ht h1000 hc1 hx1 hp hC))
      exact ⟨rfl, rfl, rfl, trivial⟩
  · have hp := hp.2 h1
    refine g_aload_n rfl (g_getR (mz_at hS (Nat.le_of_ble_eq_true rfl) mzcS_0) mzcf_11_1 (mz_rb hR (Nat.le_of_ble_eq_true rfl) rfl mzcR_0_1) (g_iload_n rfl ?_))
    obtain ⟨h5, hp⟩ := hp
    refine g_v2n (Nat.le_of_ble_eq_true rfl) (mz_at hS (Nat.le_of_ble_eq_true rfl) mzcS_2) (fun _ hq => cs_120 (Nat.le_trans (Nat.le_of_ble_eq_true rfl) hd) (hS.le (Nat.le_of_ble_eq_true rfl)) (hR.le (Nat.le_of_ble_eq_true rfl))  v1 s.2 h5 hq) (g_aload_n rfl (g_getR (mz_at hS (Nat.le_of_ble_eq_true rfl) mzcS_0) mzcf_11_0 (mz_rb hR (Nat.le_of_ble_eq_true rfl) rfl mzcR_0_0) ?_))
    have h6 := hp
    refine g_v1v (Nat.le_of_ble_eq_true rfl) (mz_at hS (Nat.le_of_ble_eq_true rfl) mzcS_1) (fun _ hq => cs_121 (Nat.le_trans (Nat.le_of_ble_eq_true rfl) hd) (hS.le (Nat.le_of_ble_eq_true rfl)) (hR.le (Nat.le_of_ble_eq_true rfl))  (cf_120_0 v1 s.2) b h6 hq) ?_
    refine g_zeq (tg := 111) rfl ms_111_111 hC (fun h7 hC => ?_) (fun h7 hC => ?_)
    · refine g_aload_n rfl (g_getR (mz_at hS (Nat.le_of_ble_eq_true rfl) mzcS_0) mzcf_11_1 (mz_rb hR (Nat.le_of_ble_eq_true rfl) rfl mzcR_0_1) (g_getI (mz_at hS (Nat.le_of_ble_eq_true rfl) mzcS_2) mzcf_5_3 (g_goto (tg := 114) rfl ms_111_114 ?_)))
      exact g_iret rfl (hr _ _ (hx1 _ hC))
    · refine g_sipush mzs_m1001 ?_
      exact g_iret rfl (hr _ _ (hx1 _ hC))
theorem cg_111_52 (hd : 5 ≤ d) (hS : mz_extR S 232) (hR : mz_rok R 232)  (v1 : Int32) (v3 : Int32) (N : mz_N) (b : Bool) {C0 : (Nat × Int32 × mz_N) → Prop} (hr : ∀ (w : Int32) (N2 : mz_N), C0 (0, w, N2) → Q (.inl (some (.int w))) (mz_k S R N2 b t)) (ht : ∀ (c : Nat) (w : Int32) (N2 : mz_N), ¬ c = 0 → C0 (c, w, N2) → Q (.inr (c - 1)) (mz_k S R N2 b (t + 1))) (h1000 : t < 1000) (hp : cp_111_52 v1 v3 N b) (hC : C0 (cf_111_52 v1 v3 N b)) : mz_G (d, mz_X0 L xs, some .int, [], mk_111, 4, Q) 52 mt_111_52 [(0, .ref 0), (1, .int v1), (3, .int v3)] [] false (mz_k S R N b t) := by
  obtain ⟨n, hn⟩ := hp
  exact g_loop (G := fun s => mz_G (d, mz_X0 L xs, some .int, [], mk_111, 4, Q) 52 mt_111_52 [(0, .ref 0), (1, .int v1), (3, .int s.1)] [] false (mz_k S R s.2 b t)) (C := C0) (fun C2 hc hx s hP hC => cb_111_52 hd hS hR v1 b s hr ht h1000 hc hx hP hC) n (v3, N) hn hC
theorem cg_111_0 (hd : 5 ≤ d) (hS : mz_extR S 232) (hR : mz_rok R 232)  (v1 : Int32) (N : mz_N) (b : Bool) {C0 : (Nat × Int32 × mz_N) → Prop} (hr : ∀ (w : Int32) (N2 : mz_N), C0 (0, w, N2) → Q (.inl (some (.int w))) (mz_k S R N2 b t)) (ht : ∀ (c : Nat) (w : Int32) (N2 : mz_N), ¬ c = 0 → C0 (c, w, N2) → Q (.inr (c - 1)) (mz_k S R N2 b (t + 1))) (h1000 : t < 1000) (hp : cp_111_0 v1 N b) (hC : C0 (cf_111_0 v1 N b)) : mz_G (d, mz_X0 L xs, some .int, [], mk_111, 4, Q) 0 mk_111 [(0, .ref 0), (1, .int v1)] [] true (mz_k S R N b t) := by
  unfold cf_111_0 at hC
  unfold cp_111_0 at hp
  refine g_aload_n rfl ?_
  obtain ⟨h1, hp⟩ := hp
  refine g_v1nt (Nat.le_of_ble_eq_true rfl) (mz_at hS (Nat.le_of_ble_eq_true rfl) mzcS_0) rfl (fun _ hz0 hz1 => cs_104 (Nat.le_trans (Nat.le_of_ble_eq_true rfl) hd) (hS.le (Nat.le_of_ble_eq_true rfl)) (hR.le (Nat.le_of_ble_eq_true rfl))  N h1 h1000 hz0 hz1) hC (fun h9 hC => ?_) (fun h9 hC => ?_)
  · have hp := hp.1 h9
    refine g_iload_n rfl (g_iconst mzi_0 (g_iconst mzi_2 ?_))
    obtain ⟨h2, hp⟩ := hp
    refine g_s3nt (Nat.le_of_ble_eq_true rfl) rfl (fun _ hz0 hz1 => cs_105 (Nat.le_trans (Nat.le_of_ble_eq_true rfl) hd) (hS.le (Nat.le_of_ble_eq_true rfl)) (hR.le (Nat.le_of_ble_eq_true rfl))  v1 0 2 h2 h1000 hz0 hz1) hC (fun h8 hC => ?_) (fun h8 hC => ?_)
    · have hp := hp.1 h8
      refine g_aload_n rfl (g_getR (mz_at hS (Nat.le_of_ble_eq_true rfl) mzcS_0) mzcf_11_1 (mz_rb hR (Nat.le_of_ble_eq_true rfl) rfl mzcR_0_1) (g_iload_n rfl ?_))
      obtain ⟨h3, hp⟩ := hp
      refine g_v2v (Nat.le_of_ble_eq_true rfl) (mz_at hS (Nat.le_of_ble_eq_true rfl) mzcS_2) (fun _ hq => cs_112 (Nat.le_trans (Nat.le_of_ble_eq_true rfl) hd) (hS.le (Nat.le_of_ble_eq_true rfl)) (hR.le (Nat.le_of_ble_eq_true rfl))  v1 N h3 hq) (g_istore_n (Nat.le_of_ble_eq_true rfl) rfl (g_iload_n rfl ?_))
      refine g_ifle (tg := 26) rfl ms_111_26 hC (fun h4 hC => ?_) (fun h4 hC => ?_)
      · have hp := hp.1 h4
        refine g_iload_n rfl (g_ineg ?_)
        exact g_iret rfl (hr _ _ hC)
      · have hp := hp.2 h4
        refine g_aload_n rfl (g_getR (mz_at hS (Nat.le_of_ble_eq_true rfl) mzcS_0) mzcf_11_1 (mz_rb hR (Nat.le_of_ble_eq_true rfl) rfl mzcR_0_1) (g_iload_n rfl ?_))
        obtain ⟨h5, hp⟩ := hp
        refine g_v2v (Nat.le_of_ble_eq_true rfl) (mz_at hS (Nat.le_of_ble_eq_true rfl) mzcS_2) (fun _ hq => cs_115 (Nat.le_trans (Nat.le_of_ble_eq_true rfl) hd) (hS.le (Nat.le_of_ble_eq_true rfl)) (hR.le (Nat.le_of_ble_eq_true rfl))  v1 N h5 hq) (g_bipush mzb_40 ?_)
        refine g_icle (tg := 43) rfl ms_111_43 hC (fun h6 hC => ?_) (fun h6 hC => ?_)
        · have hp := hp.1 h6
          refine g_sipush mzs_m1002 ?_
          exact g_iret rfl (hr _ _ hC)
        · have hp := hp.2 h6
          refine g_aload_n rfl (g_getR (mz_at hS (Nat.le_of_ble_eq_true rfl) mzcS_0) mzcf_11_0 (mz_rb hR (Nat.le_of_ble_eq_true rfl) rfl mzcR_0_0) ?_)
          refine g_v1n (Nat.le_of_ble_eq_true rfl) (mz_at hS (Nat.le_of_ble_eq_true rfl) mzcS_1) (fun _ hq => cs_117 (Nat.le_trans (Nat.le_of_ble_eq_true rfl) hd) (hS.le (Nat.le_of_ble_eq_true rfl)) (hR.le (Nat.le_of_ble_eq_true rfl))  ((cf_115_0 v1 N).2) trivial hq) (g_iconst mzi_0 (g_istore_n (Nat.le_of_ble_eq_true rfl) rfl ?_))
          refine g_weak ?_ (g_cl (cg_111_52 hd hS hR v1 0 (cf_117_0 ((cf_115_0 v1 N).2)) b hr ht h1000 hp hC))
          exact ⟨rfl, rfl, rfl, trivial⟩
    · have hp := hp.2 h8
      exact ht _ _ _ h8 hC
  · have hp := hp.2 h9
    exact ht _ _ _ h9 hC
theorem cs_111 (hd : 6 ≤ d) (hS : mz_extR S 232) (hR : mz_rok R 232)  (v1 : Int32) (N : mz_N) (b : Bool) (hp : cp_111_0 v1 N b) (h1000 : t < 1000) (h0 : (cf_111_0 v1 N b).1 = 0 → Q (.inl (some (.int ((cf_111_0 v1 N b).2.1)))) (mz_k S R ((cf_111_0 v1 N b).2.2) b t)) (h1 : ¬ (cf_111_0 v1 N b).1 = 0 → Q (.inr (((cf_111_0 v1 N b).1) - 1)) (mz_k S R ((cf_111_0 v1 N b).2.2) b (t + 1))) : mz_Ed (mz_X0 L xs) d 111 [.ref 0, .int v1] (mz_k S R N b t) Q :=
  by
  refine g_in mzq_111 (Nat.le_of_ble_eq_true rfl) (Nat.le_of_ble_eq_true rfl) (Nat.le_trans (Nat.le_of_ble_eq_true rfl) hd) ?_
  refine g_weak ?_ (cg_111_0 (d := d - 1) (by omega) hS hR v1 N b (C0 := fun z => (z.1 = 0 → Q (.inl (some (.int z.2.1))) (mz_k S R z.2.2 b t)) ∧ (¬ z.1 = 0 → Q (.inr (z.1 - 1)) (mz_k S R z.2.2 b (t + 1)))) (fun _ _ h => h.1 rfl) (fun c _ _ hc h => h.2 hc) h1000 hp ⟨h0, h1⟩)
  exact ⟨rfl, rfl, trivial⟩
/-! 110 KeptHouseLaw.merge (LKeptHouse;I[J)I -/
theorem ms_110_0 : mz_sf mk_110 0 = mk_110 := mz_sf_zero _
theorem ms_110_13 : mz_sf mk_110 13 = mt_110_13 := mz_sf_add ms_110_0 (t := 13) rfl rfl
theorem ms_110_16 : mz_sf mk_110 16 = mt_110_16 := mz_sf_add ms_110_13 (t := 3) rfl rfl
theorem ms_110_18 : mz_sf mk_110 18 = mt_110_18 := mz_sf_add ms_110_16 (t := 2) rfl rfl
set_option maxRecDepth 100000 in
theorem mzq_110 : mz_PG0 110 = some (13, ⟨"KeptHouseLaw", "merge", "(LKeptHouse;I[J)I"⟩, method_5_code, 4, some .int, [(0, 9, 12, 13), (0, 9, 15, 15)], mk_110, [(0, 12, 13), (1, 15, 16)]) := rfl
theorem cg_110_0 (hd : 6 ≤ d) (hS : mz_extR S 343) (hR : mz_rok R 343)  (v1 : Int32) (N : mz_N) (b : Bool) (t : Nat) {C0 : (Int32 × mz_N × Nat) → Prop} (hr : ∀ (w : Int32) (N2 : mz_N) (t2 : Nat), C0 (w, N2, t2) → Q (.inl (some (.int w))) (mz_k S R N2 b t2)) (hp : cp_110_0 v1 N b t) (hC : C0 (cf_110_0 v1 N b t)) : mz_G (d, mz_X0 L xs, some .int, [(0, 12, 13), (1, 15, 16)], mk_110, 4, Q) 0 mk_110 [(0, .ref 0), (1, .int v1), (2, .ref 342)] [] true (mz_k S R N b t) := by
  unfold cf_110_0 at hC
  unfold cp_110_0 at hp
  refine g_aload_n rfl (g_iconst mzi_0 (g_aload_n rfl (g_iload_n rfl ?_)))
  obtain ⟨h1, hp⟩ := hp
  obtain ⟨h1000, hp⟩ := hp
  refine g_v2vh (Nat.le_of_ble_eq_true rfl) (mz_at hS (Nat.le_of_ble_eq_true rfl) mzcS_0) (fun _ hz0 hz1 => cs_111 (Nat.le_trans (Nat.le_of_ble_eq_true rfl) hd) (hS.le (Nat.le_of_ble_eq_true rfl)) (hR.le (Nat.le_of_ble_eq_true rfl))  v1 N b h1 h1000 hz0 hz1) hC (fun h2 hC => ?_) (fun h2 hC => ?_)
  · have hp := hp.1 h2
    refine g_i2l (g_last (mz_at hS (Nat.le_of_ble_eq_true rfl) mzcS_342) (mz_ibd (by decide)) (g_goto (tg := 18) rfl ms_110_18 (g_iconst mzi_0 ?_)))
    exact g_iret rfl (hr _ _ _ hC)
  · have hp := hp.2 h2
    refine mz_cs hC (fun h6 hC => ?_) (fun h6 hC => ?_)
    · have hp := hp.1 h6
      refine ⟨(0, 12, 13), (by rw [h6]; rfl), ?_⟩
      show mz_G (d, mz_X0 L xs, some .int, [(0, 12, 13), (1, 15, 16)], mk_110, 4, Q) 13 (mz_sf mk_110 13) [] [] false (mz_k S R ((cf_111_0 v1 N b).2.2) b (t + 1))
      rw [ms_110_13]
      refine g_iconst mzi_1 ?_
      exact g_iret rfl (hr _ _ _ hC)
    · have hp := hp.2 h6
      have h4 := hp
      refine ⟨(1, 15, 16), (by rw [h4]; rfl), ?_⟩
      show mz_G (d, mz_X0 L xs, some .int, [(0, 12, 13), (1, 15, 16)], mk_110, 4, Q) 16 (mz_sf mk_110 16) [] [] false (mz_k S R ((cf_111_0 v1 N b).2.2) b (t + 1))
      rw [ms_110_16]
      refine g_iconst mzi_2 ?_
      exact g_iret rfl (hr _ _ _ hC)
theorem cs_110 (hd : 7 ≤ d) (hS : mz_extR S 343) (hR : mz_rok R 343)  (v1 : Int32) (N : mz_N) (b : Bool) (t : Nat) (hp : cp_110_0 v1 N b t) (hq : Q (.inl (some (.int ((cf_110_0 v1 N b t).1)))) (mz_k S R ((cf_110_0 v1 N b t).2.1) b ((cf_110_0 v1 N b t).2.2))) : mz_Ed (mz_X0 L xs) d 110 [.ref 0, .int v1, .ref 342] (mz_k S R N b t) Q :=
  by
  refine g_in mzq_110 (Nat.le_of_ble_eq_true rfl) (Nat.le_of_ble_eq_true rfl) (Nat.le_trans (Nat.le_of_ble_eq_true rfl) hd) ?_
  refine g_weak ?_ (cg_110_0 (d := d - 1) (by omega) hS hR v1 N b t (C0 := fun z => Q (.inl (some (.int z.1))) (mz_k S R z.2.1 b z.2.2)) (fun _ _ _ h => h) hp hq)
  exact ⟨rfl, rfl, rfl, trivial⟩
/-! 142 KeptHouse.mustHold (Z)V -/
theorem ms_142_0 : mz_sf mk_142 0 = mk_142 := mz_sf_zero _
theorem ms_142_14 : mz_sf mk_142 14 = mt_142_14 := mz_sf_add ms_142_0 (t := 14) rfl rfl
set_option maxRecDepth 100000 in
theorem mzq_142 : mz_PG0 142 = some (11, ⟨"KeptHouse", "mustHold", "(Z)V"⟩, prog_1_method_4_code, 1, none, [], mk_142, []) := rfl
theorem cg_142_0 (hd : 0 ≤ d) (hS : mz_extR S 232) (hR : mz_rok R 232)  (v0 : Bool) {C0 : (Nat) → Prop} (hr : C0 0 → Q (.inl none) (mz_k S R N b t)) (ht : ∀ (c : Nat) , ¬ c = 0 → C0 c → Q (.inr (c - 1)) (mz_k S R N b (t + 1))) (h1000 : t < 1000) (hp : cp_142_0 v0) (hC : C0 (cf_142_0 v0)) : mz_G (d, mz_X0 L xs, none, [], mk_142, 1, Q) 0 mk_142 [(0, .int (mz_b01 v0))] [] true (mz_k S R N b t) := by
  unfold cf_142_0 at hC
  unfold cp_142_0 at hp
  refine g_iload_n rfl ?_
  refine g_zne (tg := 14) rfl ms_142_14 hC (fun h1 hC => ?_) (fun h1 hC => ?_)
  · exact g_vret rfl (hr hC)
  · exact g_thr h1000 (ht 1  (by decide) hC)
theorem cs_142 (hd : 1 ≤ d) (hS : mz_extR S 232) (hR : mz_rok R 232)  (v0 : Bool) (hp : cp_142_0 v0) (h1000 : t < 1000) (h0 : (cf_142_0 v0) = 0 → Q (.inl none) (mz_k S R N b t)) (h1 : ¬ (cf_142_0 v0) = 0 → Q (.inr ((cf_142_0 v0) - 1)) (mz_k S R N b (t + 1))) : mz_Ed (mz_X0 L xs) d 142 [.int (mz_b01 v0)] (mz_k S R N b t) Q :=
  by
  refine g_in mzq_142 (Nat.le_of_ble_eq_true rfl) (Nat.le_of_ble_eq_true rfl) (Nat.le_trans (Nat.le_of_ble_eq_true rfl) hd) ?_
  refine g_weak ?_ (cg_142_0 (d := d - 1) (by omega) hS hR v0 (C0 := fun z => (z = 0 → Q (.inl none) (mz_k S R N b t)) ∧ (¬ z = 0 → Q (.inr (z - 1)) (mz_k S R N b (t + 1)))) (fun h => h.1 rfl) (fun c hc h => h.2 hc) h1000 hp ⟨h0, h1⟩)
  exact ⟨rfl, trivial⟩
/-! 143 KeptHouse$Plan.findConflict (II)I -/
theorem ms_143_0 : mz_sf mk_143 0 = mk_143 := mz_sf_zero _
theorem ms_143_5 : mz_sf mk_143 5 = mt_143_5 := mz_sf_add ms_143_0 (t := 5) rfl rfl
theorem ms_143_31 : mz_sf mk_143 31 = mt_143_31 := mz_sf_add ms_143_5 (t := 26) rfl rfl
theorem ms_143_34 : mz_sf mk_143 34 = mt_143_34 := mz_sf_add ms_143_31 (t := 3) rfl rfl
theorem ms_143_40 : mz_sf mk_143 40 = mt_143_40 := mz_sf_add ms_143_34 (t := 6) rfl rfl
set_option maxRecDepth 100000 in
theorem mzq_143 : mz_PG0 143 = some (5, ⟨"KeptHouse$Plan", "findConflict", "(II)I"⟩, prog_7_method_17_code, 5, some .int, [], mk_143, []) := rfl
theorem cg_143_34 (hd : 2 ≤ d) (hS : mz_extR S 232) (hR : mz_rok R 232)  (v1 : Int32) (v2 : Int32) (v3 : Int32) (v4 : Int32) (N : mz_N) {C0 : (Int32) → Prop} (hr : ∀ (w : Int32), C0 w → Q (.inl (some (.int w))) (mz_k S R N b t)) {C1 : ((Int32 × Int32) ⊕ (Int32)) → Prop} (hc1 : ∀ s2, C1 (.inl s2) → mz_G (d, mz_X0 L xs, some .int, [], mk_143, 5, Q) 5 mt_143_5 [(0, .ref 2), (1, .int v1), (2, .int v2), (3, .int s2.1), (4, .int s2.2)] [] false (mz_k S R N b t)) (hx1 : ∀ z, C1 (.inr z) → C0 z) (hp : cp_143_34 v1 v2 v3 v4 N) (hC : C1 (cf_143_34 v1 v2 v3 v4 N)) : mz_G (d, mz_X0 L xs, some .int, [], mk_143, 5, Q) 34 mt_143_34 [(0, .ref 2), (1, .int v1), (2, .int v2), (3, .int v3), (4, .int v4)] [] false (mz_k S R N b t) := by
  unfold cf_143_34 at hC
  unfold cp_143_34 at hp
  refine g_iinc rfl mzi_1 (Nat.le_of_ble_eq_true rfl) rfl (g_goto (tg := 5) rfl ms_143_5 ?_)
  refine g_weak ?_ (g_cl (hc1 (v3, (v4 + 1)) hC))
  exact ⟨rfl, rfl, rfl, rfl, rfl, trivial⟩
theorem cb_143_5 (hd : 2 ≤ d) (hS : mz_extR S 232) (hR : mz_rok R 232)  (v1 : Int32) (v2 : Int32) (N : mz_N) (s : Int32 × Int32) {C0 : (Int32) → Prop} (hr : ∀ (w : Int32), C0 w → Q (.inl (some (.int w))) (mz_k S R N b t)) {C1 : ((Int32 × Int32) ⊕ (Int32)) → Prop} (hc1 : ∀ s2, C1 (.inl s2) → mz_G (d, mz_X0 L xs, some .int, [], mk_143, 5, Q) 5 mt_143_5 [(0, .ref 2), (1, .int v1), (2, .int v2), (3, .int s2.1), (4, .int s2.2)] [] false (mz_k S R N b t)) (hx1 : ∀ z, C1 (.inr z) → C0 z) (hp : cd_143_5 v1 v2 N s) (hC : C1 (cq_143_5 v1 v2 N s)) : mz_G (d, mz_X0 L xs, some .int, [], mk_143, 5, Q) 5 mt_143_5 [(0, .ref 2), (1, .int v1), (2, .int v2), (3, .int s.1), (4, .int s.2)] [] false (mz_k S R N b t) := by
  unfold cq_143_5 at hC
  unfold cd_143_5 at hp
  refine g_iload rfl (g_sipush mzs_550 ?_)
  refine g_icge (tg := 40) rfl ms_143_40 hC (fun h1 hC => ?_) (fun h1 hC => ?_)
  · have hp := hp.1 h1
    refine g_aload_n rfl (g_iload_n rfl (g_iload rfl ?_))
    obtain ⟨h2, hp⟩ := hp
    refine g_v3v (Nat.le_of_ble_eq_true rfl) (mz_at hS (Nat.le_of_ble_eq_true rfl) mzcS_2) (fun _ hq => cs_113 (Nat.le_trans (Nat.le_of_ble_eq_true rfl) hd) (hS.le (Nat.le_of_ble_eq_true rfl)) (hR.le (Nat.le_of_ble_eq_true rfl))  v1 s.2 N h2 hq) ?_
    refine g_zeq (tg := 34) rfl ms_143_34 hC (fun h3 hC => ?_) (fun h3 hC => ?_)
    · have hp := hp.1 h3
      refine g_iload_n rfl (g_iload_n rfl ?_)
      refine g_icne (tg := 31) rfl ms_143_31 hC (fun h4 hC => ?_) (fun h4 hC => ?_)
      · have hp := hp.1 h4
        refine g_iload rfl ?_
        exact g_iret rfl (hr _ (hx1 _ hC))
      · have hp := hp.2 h4
        refine g_iinc rfl mzi_1 (Nat.le_of_ble_eq_true rfl) rfl ?_
        refine g_weak ?_ (g_cl (cg_143_34 hd hS hR v1 v2 (s.1 + 1) s.2 N hr hc1 hx1 hp hC))
        exact ⟨rfl, rfl, rfl, rfl, rfl, trivial⟩
    · have hp := hp.2 h3
      refine g_weak ?_ (g_cl (cg_143_34 hd hS hR v1 v2 s.1 s.2 N hr hc1 hx1 hp hC))
      exact ⟨rfl, rfl, rfl, rfl, rfl, trivial⟩
  · have hp := hp.2 h1
    refine g_iconst mzi_m1 ?_
    exact g_iret rfl (hr _ (hx1 _ hC))
theorem cg_143_5 (hd : 2 ≤ d) (hS : mz_extR S 232) (hR : mz_rok R 232)  (v1 : Int32) (v2 : Int32) (v3 : Int32) (v4 : Int32) (N : mz_N) {C0 : (Int32) → Prop} (hr : ∀ (w : Int32), C0 w → Q (.inl (some (.int w))) (mz_k S R N b t)) (hp : cp_143_5 v1 v2 v3 v4 N) (hC : C0 (cf_143_5 v1 v2 v3 v4 N)) : mz_G (d, mz_X0 L xs, some .int, [], mk_143, 5, Q) 5 mt_143_5 [(0, .ref 2), (1, .int v1), (2, .int v2), (3, .int v3), (4, .int v4)] [] false (mz_k S R N b t) := by
  obtain ⟨n, hn⟩ := hp
  exact g_loop (G := fun s => mz_G (d, mz_X0 L xs, some .int, [], mk_143, 5, Q) 5 mt_143_5 [(0, .ref 2), (1, .int v1), (2, .int v2), (3, .int s.1), (4, .int s.2)] [] false (mz_k S R N b t)) (C := C0) (fun C2 hc hx s hP hC => cb_143_5 hd hS hR v1 v2 N s hr hc hx hP hC) n (v3, v4) hn hC
theorem cg_143_0 (hd : 2 ≤ d) (hS : mz_extR S 232) (hR : mz_rok R 232)  (v1 : Int32) (v2 : Int32) (N : mz_N) {C0 : (Int32) → Prop} (hr : ∀ (w : Int32), C0 w → Q (.inl (some (.int w))) (mz_k S R N b t)) (hp : cp_143_0 v1 v2 N) (hC : C0 (cf_143_0 v1 v2 N)) : mz_G (d, mz_X0 L xs, some .int, [], mk_143, 5, Q) 0 mk_143 [(0, .ref 2), (1, .int v1), (2, .int v2)] [] true (mz_k S R N b t) := by
  unfold cf_143_0 at hC
  unfold cp_143_0 at hp
  refine g_iconst mzi_0 (g_istore_n (Nat.le_of_ble_eq_true rfl) rfl (g_iconst mzi_0 (g_istore (Nat.le_of_ble_eq_true rfl) rfl ?_)))
  refine g_weak ?_ (g_cl (cg_143_5 hd hS hR v1 v2 0 0 N hr hp hC))
  exact ⟨rfl, rfl, rfl, rfl, rfl, trivial⟩
theorem cs_143 (hd : 3 ≤ d) (hS : mz_extR S 232) (hR : mz_rok R 232)  (v1 : Int32) (v2 : Int32) (N : mz_N) (hp : cp_143_0 v1 v2 N) (hq : Q (.inl (some (.int (cf_143_0 v1 v2 N)))) (mz_k S R N b t)) : mz_Ed (mz_X0 L xs) d 143 [.ref 2, .int v1, .int v2] (mz_k S R N b t) Q :=
  by
  refine g_in mzq_143 (Nat.le_of_ble_eq_true rfl) (Nat.le_of_ble_eq_true rfl) (Nat.le_trans (Nat.le_of_ble_eq_true rfl) hd) ?_
  refine g_weak ?_ (cg_143_0 (d := d - 1) (by omega) hS hR v1 v2 N (C0 := fun z => Q (.inl (some (.int z))) (mz_k S R N b t)) (fun _ h => h) hp hq)
  exact ⟨rfl, rfl, rfl, trivial⟩
/-! 141 KeptHouse.conflict (II)I -/
theorem ms_141_0 : mz_sf mk_141 0 = mk_141 := mz_sf_zero _
theorem ms_141_18 : mz_sf mk_141 18 = mt_141_18 := mz_sf_add ms_141_0 (t := 18) rfl rfl
theorem ms_141_19 : mz_sf mk_141 19 = mt_141_19 := mz_sf_add ms_141_18 (t := 1) rfl rfl
theorem ms_141_41 : mz_sf mk_141 41 = mt_141_41 := mz_sf_add ms_141_19 (t := 22) rfl rfl
theorem ms_141_54 : mz_sf mk_141 54 = mt_141_54 := mz_sf_add ms_141_41 (t := 13) rfl rfl
set_option maxRecDepth 100000 in
theorem mzq_141 : mz_PG0 141 = some (11, ⟨"KeptHouse", "conflict", "(II)I"⟩, prog_1_method_10_code, 4, some .int, [], mk_141, []) := rfl
theorem cg_141_19 (hd : 3 ≤ d) (hS : mz_extR S 232) (hR : mz_rok R 232)  (s0 : Bool) (v1 : Int32) (v2 : Int32) (N : mz_N) {C0 : (Nat × Int32) → Prop} (hr : ∀ (w : Int32), C0 (0, w) → Q (.inl (some (.int w))) (mz_k S R N b t)) (ht : ∀ (c : Nat) (w : Int32), ¬ c = 0 → C0 (c, w) → Q (.inr (c - 1)) (mz_k S R N b (t + 1))) (h1000 : t < 1000) (hp : cp_141_19 s0 v1 v2 N) (hC : C0 (cf_141_19 s0 v1 v2 N)) : mz_G (d, mz_X0 L xs, some .int, [], mk_141, 4, Q) 19 mt_141_19 [(0, .ref 0), (1, .int v1), (2, .int v2)] [.int (mz_b01 s0)] false (mz_k S R N b t) := by
  unfold cf_141_19 at hC
  unfold cp_141_19 at hp
  refine g_s1nt (Nat.le_of_ble_eq_true rfl) rfl (fun _ hz0 hz1 => cs_142 (Nat.le_trans (Nat.le_of_ble_eq_true rfl) hd) (hS.le (Nat.le_of_ble_eq_true rfl)) (hR.le (Nat.le_of_ble_eq_true rfl))  s0 trivial h1000 hz0 hz1) hC (fun h4 hC => ?_) (fun h4 hC => ?_)
  · have hp := hp.1 h4
    refine g_aload_n rfl (g_getR (mz_at hS (Nat.le_of_ble_eq_true rfl) mzcS_0) mzcf_11_1 (mz_rb hR (Nat.le_of_ble_eq_true rfl) rfl mzcR_0_1) (g_iload_n rfl (g_iload_n rfl ?_)))
    have h2 := hp
    refine g_v3v (Nat.le_of_ble_eq_true rfl) (mz_at hS (Nat.le_of_ble_eq_true rfl) mzcS_2) (fun _ hq => cs_143 (Nat.le_trans (Nat.le_of_ble_eq_true rfl) hd) (hS.le (Nat.le_of_ble_eq_true rfl)) (hR.le (Nat.le_of_ble_eq_true rfl))  v1 v2 N h2 hq) (g_istore_n (Nat.le_of_ble_eq_true rfl) rfl (g_iload_n rfl (g_iconst mzi_m1 ?_)))
    refine g_icne (tg := 41) rfl ms_141_41 hC (fun h3 hC => ?_) (fun h3 hC => ?_)
    · refine g_iconst mzi_m1 (g_goto (tg := 54) rfl ms_141_54 ?_)
      exact g_iret rfl (hr _ hC)
    · refine g_sipush mzs_128 (g_iload_n rfl (g_bipush mzb_110 (g_idiv (by decide) (g_imul (g_iload_n rfl (g_bipush mzb_110 (g_irem (by decide) ?_)))))))
      refine g_iadd ?_
      exact g_iret rfl (hr _ hC)
  · have hp := hp.2 h4
    exact ht _ _ h4 hC
theorem cg_141_0 (hd : 3 ≤ d) (hS : mz_extR S 232) (hR : mz_rok R 232)  (v1 : Int32) (v2 : Int32) (N : mz_N) {C0 : (Nat × Int32) → Prop} (hr : ∀ (w : Int32), C0 (0, w) → Q (.inl (some (.int w))) (mz_k S R N b t)) (ht : ∀ (c : Nat) (w : Int32), ¬ c = 0 → C0 (c, w) → Q (.inr (c - 1)) (mz_k S R N b (t + 1))) (h1000 : t < 1000) (hp : cp_141_0 v1 v2 N) (hC : C0 (cf_141_0 v1 v2 N)) : mz_G (d, mz_X0 L xs, some .int, [], mk_141, 4, Q) 0 mk_141 [(0, .ref 0), (1, .int v1), (2, .int v2)] [] true (mz_k S R N b t) := by
  unfold cf_141_0 at hC
  unfold cp_141_0 at hp
  refine g_aload_n rfl ?_
  obtain ⟨h1, hp⟩ := hp
  refine g_v1nt (Nat.le_of_ble_eq_true rfl) (mz_at hS (Nat.le_of_ble_eq_true rfl) mzcS_0) rfl (fun _ hz0 hz1 => cs_104 (Nat.le_trans (Nat.le_of_ble_eq_true rfl) hd) (hS.le (Nat.le_of_ble_eq_true rfl)) (hR.le (Nat.le_of_ble_eq_true rfl))  N h1 h1000 hz0 hz1) hC (fun h5 hC => ?_) (fun h5 hC => ?_)
  · have hp := hp.1 h5
    refine g_iload_n rfl (g_iconst mzi_0 (g_iconst mzi_2 ?_))
    obtain ⟨h2, hp⟩ := hp
    refine g_s3nt (Nat.le_of_ble_eq_true rfl) rfl (fun _ hz0 hz1 => cs_105 (Nat.le_trans (Nat.le_of_ble_eq_true rfl) hd) (hS.le (Nat.le_of_ble_eq_true rfl)) (hR.le (Nat.le_of_ble_eq_true rfl))  v1 0 2 h2 h1000 hz0 hz1) hC (fun h4 hC => ?_) (fun h4 hC => ?_)
    · have hp := hp.1 h4
      refine g_iload_n rfl ?_
      refine g_iflt (tg := 18) rfl ms_141_18 hC (fun h3 hC => ?_) (fun h3 hC => ?_)
      · have hp := hp.1 h3
        refine g_iconst mzi_0 ?_
        refine g_weak ?_ (g_cl (cg_141_19 hd hS hR false v1 v2 N hr ht h1000 hp hC))
        exact ⟨rfl, rfl, rfl, trivial⟩
      · have hp := hp.2 h3
        refine g_iconst mzi_1 (g_goto (tg := 19) rfl ms_141_19 ?_)
        refine g_weak ?_ (g_cl (cg_141_19 hd hS hR true v1 v2 N hr ht h1000 hp hC))
        exact ⟨rfl, rfl, rfl, trivial⟩
    · have hp := hp.2 h4
      exact ht _ _ h4 hC
  · have hp := hp.2 h5
    exact ht _ _ h5 hC
theorem cs_141 (hd : 4 ≤ d) (hS : mz_extR S 232) (hR : mz_rok R 232)  (v1 : Int32) (v2 : Int32) (N : mz_N) (hp : cp_141_0 v1 v2 N) (h1000 : t < 1000) (h0 : (cf_141_0 v1 v2 N).1 = 0 → Q (.inl (some (.int ((cf_141_0 v1 v2 N).2)))) (mz_k S R N b t)) (h1 : ¬ (cf_141_0 v1 v2 N).1 = 0 → Q (.inr (((cf_141_0 v1 v2 N).1) - 1)) (mz_k S R N b (t + 1))) : mz_Ed (mz_X0 L xs) d 141 [.ref 0, .int v1, .int v2] (mz_k S R N b t) Q :=
  by
  refine g_in mzq_141 (Nat.le_of_ble_eq_true rfl) (Nat.le_of_ble_eq_true rfl) (Nat.le_trans (Nat.le_of_ble_eq_true rfl) hd) ?_
  refine g_weak ?_ (cg_141_0 (d := d - 1) (by omega) hS hR v1 v2 N (C0 := fun z => (z.1 = 0 → Q (.inl (some (.int z.2))) (mz_k S R N b t)) ∧ (¬ z.1 = 0 → Q (.inr (z.1 - 1)) (mz_k S R N b (t + 1)))) (fun _ h => h.1 rfl) (fun c _ hc h => h.2 hc) h1000 hp ⟨h0, h1⟩)
  exact ⟨rfl, rfl, rfl, trivial⟩
/-! 140 KeptHouseLaw.conflict (LKeptHouse;II[J)I -/
theorem ms_140_0 : mz_sf mk_140 0 = mk_140 := mz_sf_zero _
theorem ms_140_15 : mz_sf mk_140 15 = mt_140_15 := mz_sf_add ms_140_0 (t := 15) rfl rfl
theorem ms_140_19 : mz_sf mk_140 19 = mt_140_19 := mz_sf_add ms_140_15 (t := 4) rfl rfl
theorem ms_140_21 : mz_sf mk_140 21 = mt_140_21 := mz_sf_add ms_140_19 (t := 2) rfl rfl
set_option maxRecDepth 100000 in
theorem mzq_140 : mz_PG0 140 = some (13, ⟨"KeptHouseLaw", "conflict", "(LKeptHouse;II[J)I"⟩, method_6_code, 5, some .int, [(0, 10, 13, 13), (0, 10, 17, 15)], mk_140, [(0, 13, 15), (1, 17, 19)]) := rfl
theorem cg_140_0 (hd : 4 ≤ d) (hS : mz_extR S 343) (hR : mz_rok R 343)  (v1 : Int32) (v2 : Int32) (N : mz_N) (t : Nat) {C0 : (Int32 × mz_N × Nat) → Prop} (hr : ∀ (w : Int32) (N2 : mz_N) (t2 : Nat), C0 (w, N2, t2) → Q (.inl (some (.int w))) (mz_k S R N2 b t2)) (hp : cp_140_0 v1 v2 N t) (hC : C0 (cf_140_0 v1 v2 N t)) : mz_G (d, mz_X0 L xs, some .int, [(0, 13, 15), (1, 17, 19)], mk_140, 5, Q) 0 mk_140 [(0, .ref 0), (1, .int v1), (2, .int v2), (3, .ref 342)] [] true (mz_k S R N b t) := by
  unfold cf_140_0 at hC
  unfold cp_140_0 at hp
  refine g_aload_n rfl (g_iconst mzi_0 (g_aload_n rfl (g_iload_n rfl (g_iload_n rfl ?_))))
  obtain ⟨h1, hp⟩ := hp
  obtain ⟨h1000, hp⟩ := hp
  refine g_v3vh (Nat.le_of_ble_eq_true rfl) (mz_at hS (Nat.le_of_ble_eq_true rfl) mzcS_0) (fun _ hz0 hz1 => cs_141 (Nat.le_trans (Nat.le_of_ble_eq_true rfl) hd) (hS.le (Nat.le_of_ble_eq_true rfl)) (hR.le (Nat.le_of_ble_eq_true rfl))  v1 v2 N h1 h1000 hz0 hz1) hC (fun h2 hC => ?_) (fun h2 hC => ?_)
  · have hp := hp.1 h2
    refine g_i2l (g_last (mz_at hS (Nat.le_of_ble_eq_true rfl) mzcS_342) (mz_ibd (by decide)) (g_goto (tg := 21) rfl ms_140_21 (g_iconst mzi_0 ?_)))
    exact g_iret rfl (hr _ _ _ hC)
  · have hp := hp.2 h2
    refine mz_cs hC (fun h6 hC => ?_) (fun h6 hC => ?_)
    · have hp := hp.1 h6
      refine ⟨(0, 13, 15), (by rw [h6]; rfl), ?_⟩
      show mz_G (d, mz_X0 L xs, some .int, [(0, 13, 15), (1, 17, 19)], mk_140, 5, Q) 15 (mz_sf mk_140 15) [] [] false (mz_k S R N b (t + 1))
      rw [ms_140_15]
      refine g_iconst mzi_1 ?_
      exact g_iret rfl (hr _ _ _ hC)
    · have hp := hp.2 h6
      have h4 := hp
      refine ⟨(1, 17, 19), (by rw [h4]; rfl), ?_⟩
      show mz_G (d, mz_X0 L xs, some .int, [(0, 13, 15), (1, 17, 19)], mk_140, 5, Q) 19 (mz_sf mk_140 19) [] [] false (mz_k S R N b (t + 1))
      rw [ms_140_19]
      refine g_iconst mzi_2 ?_
      exact g_iret rfl (hr _ _ _ hC)
theorem cs_140 (hd : 5 ≤ d) (hS : mz_extR S 343) (hR : mz_rok R 343)  (v1 : Int32) (v2 : Int32) (N : mz_N) (t : Nat) (hp : cp_140_0 v1 v2 N t) (hq : Q (.inl (some (.int ((cf_140_0 v1 v2 N t).1)))) (mz_k S R ((cf_140_0 v1 v2 N t).2.1) b ((cf_140_0 v1 v2 N t).2.2))) : mz_Ed (mz_X0 L xs) d 140 [.ref 0, .int v1, .int v2, .ref 342] (mz_k S R N b t) Q :=
  by
  refine g_in mzq_140 (Nat.le_of_ble_eq_true rfl) (Nat.le_of_ble_eq_true rfl) (Nat.le_trans (Nat.le_of_ble_eq_true rfl) hd) ?_
  refine g_weak ?_ (cg_140_0 (d := d - 1) (by omega) hS hR v1 v2 N t (C0 := fun z => Q (.inl (some (.int z.1))) (mz_k S R z.2.1 b z.2.2)) (fun _ _ _ h => h) hp hq)
  exact ⟨rfl, rfl, rfl, rfl, trivial⟩
/-! 146 KeptHouse$Plan.decide (IIZ)V -/
theorem ms_146_0 : mz_sf mk_146 0 = mk_146 := mz_sf_zero _
theorem ms_146_18 : mz_sf mk_146 18 = mt_146_18 := mz_sf_add ms_146_0 (t := 18) rfl rfl
theorem ms_146_32 : mz_sf mk_146 32 = mt_146_32 := mz_sf_add ms_146_18 (t := 14) rfl rfl
set_option maxRecDepth 100000 in
theorem mzq_146 : mz_PG0 146 = some (5, ⟨"KeptHouse$Plan", "decide", "(IIZ)V"⟩, prog_7_method_18_code, 4, none, [], mk_146, []) := rfl
theorem cg_146_32 (hd : 0 ≤ d) (hS : mz_extR S 232) (hR : mz_rok R 232)  (N : mz_N) {C0 : (mz_N) → Prop} (hr : ∀ (N2 : mz_N), C0 N2 → Q (.inl none) (mz_k S R N2 b t)) (hp : cp_146_32 N) (hC : C0 (cf_146_32 N)) : mz_G (d, mz_X0 L xs, none, [], mk_146, 4, Q) 32 mt_146_32 [] [] false (mz_k S R N b t) := by
  unfold cf_146_32 at hC
  unfold cp_146_32 at hp
  exact g_vret rfl (hr _ hC)
theorem cg_146_0 (hd : 0 ≤ d) (hS : mz_extR S 232) (hR : mz_rok R 232)  (v1 : Int32) (v2 : Int32) (v3 : Bool) (N : mz_N) {C0 : (mz_N) → Prop} (hr : ∀ (N2 : mz_N), C0 N2 → Q (.inl none) (mz_k S R N2 b t)) (hp : cp_146_0 v1 v2 v3 N) (hC : C0 (cf_146_0 v1 v2 v3 N)) : mz_G (d, mz_X0 L xs, none, [], mk_146, 4, Q) 0 mk_146 [(0, .ref 2), (1, .int v1), (2, .int v2), (3, .int (mz_b01 v3))] [] true (mz_k S R N b t) := by
  unfold cf_146_0 at hC
  unfold cp_146_0 at hp
  refine g_aload_n rfl (g_getR (mz_at hS (Nat.le_of_ble_eq_true rfl) mzcS_2) mzcf_5_2 (mz_rb hR (Nat.le_of_ble_eq_true rfl) rfl mzcR_2_2) (g_iload_n rfl ?_))
  obtain ⟨h1, hp⟩ := hp
  refine g_aald4 (mz_at hS (Nat.le_of_ble_eq_true rfl) mzcS_8) h1 (mz_rb hR (Nat.le_of_ble_eq_true rfl) rfl (mzcR2_8 h1)) (g_iload_n rfl (g_aload_n rfl (g_getR (mz_at hS (Nat.le_of_ble_eq_true rfl) mzcS_2) mzcf_5_0 (mz_rb hR (Nat.le_of_ble_eq_true rfl) rfl mzcR_2_0) (g_iload_n rfl ?_))))
  obtain ⟨h2, hp⟩ := hp
  refine g_iald hS.1 (mz_at hS (Nat.le_of_ble_eq_true rfl) mzcS_3) h2 ?_
  obtain ⟨h3, hp⟩ := hp
  refine g_iast (mz_at hS (mzcL2_8 h1 (Nat.le_of_ble_eq_true rfl)) (mzcS2_8 h1)) h3 (g_iload_n rfl ?_)
  refine g_zne (tg := 32) rfl ms_146_32 hC (fun h4 hC => ?_) (fun h4 hC => ?_)
  · have hp := hp.1 h4
    exact g_vret rfl (hr _ hC)
  · have hp := hp.2 h4
    refine g_aload_n rfl (g_getR (mz_at hS (Nat.le_of_ble_eq_true rfl) mzcS_2) mzcf_5_1 (mz_rb hR (Nat.le_of_ble_eq_true rfl) rfl mzcR_2_1) (g_iload_n rfl ?_))
    obtain ⟨h5, hp⟩ := hp
    refine g_aald4 (mz_at hS (Nat.le_of_ble_eq_true rfl) mzcS_4) h5 (mz_rb hR (Nat.le_of_ble_eq_true rfl) rfl (mzcR2_4 h5)) (g_iload_n rfl (g_aload_n rfl (g_getR (mz_at hS (Nat.le_of_ble_eq_true rfl) mzcS_2) mzcf_5_0 (mz_rb hR (Nat.le_of_ble_eq_true rfl) rfl mzcR_2_0) (g_iload_n rfl ?_))))
    obtain ⟨h6, hp⟩ := hp
    refine g_iald hS.1 (mz_at hS (Nat.le_of_ble_eq_true rfl) mzcS_3) h6 ?_
    obtain ⟨h7, hp⟩ := hp
    refine g_iast (mz_at hS (mzcL2_4 h5 (Nat.le_of_ble_eq_true rfl)) (mzcS2_4 h5)) h7 ?_
    refine g_weak ?_ (g_cl (cg_146_32 hd hS hR (mz_wI (mz_wI N (9 + v1.toNatClampNeg) v2 (mz_gI N 3 v2)) (5 + v1.toNatClampNeg) v2 (mz_gI (mz_wI N (9 + v1.toNatClampNeg) v2 (mz_gI N 3 v2)) 3 v2)) hr hp hC))
    exact trivial
theorem cs_146 (hd : 1 ≤ d) (hS : mz_extR S 232) (hR : mz_rok R 232)  (v1 : Int32) (v2 : Int32) (v3 : Bool) (N : mz_N) (hp : cp_146_0 v1 v2 v3 N) (hq : Q (.inl none) (mz_k S R (cf_146_0 v1 v2 v3 N) b t)) : mz_Ed (mz_X0 L xs) d 146 [.ref 2, .int v1, .int v2, .int (mz_b01 v3)] (mz_k S R N b t) Q :=
  by
  refine g_in mzq_146 (Nat.le_of_ble_eq_true rfl) (Nat.le_of_ble_eq_true rfl) (Nat.le_trans (Nat.le_of_ble_eq_true rfl) hd) ?_
  refine g_weak ?_ (cg_146_0 (d := d - 1) (by omega) hS hR v1 v2 v3 N (C0 := fun z => Q (.inl none) (mz_k S R z b t)) (fun _ h => h) hp hq)
  exact ⟨rfl, rfl, rfl, rfl, trivial⟩
/-! 145 KeptHouse.settle (IIZ)I -/
theorem ms_145_0 : mz_sf mk_145 0 = mk_145 := mz_sf_zero _
theorem ms_145_18 : mz_sf mk_145 18 = mt_145_18 := mz_sf_add ms_145_0 (t := 18) rfl rfl
theorem ms_145_19 : mz_sf mk_145 19 = mt_145_19 := mz_sf_add ms_145_18 (t := 1) rfl rfl
theorem ms_145_41 : mz_sf mk_145 41 = mt_145_41 := mz_sf_add ms_145_19 (t := 22) rfl rfl
set_option maxRecDepth 100000 in
theorem mzq_145 : mz_PG0 145 = some (11, ⟨"KeptHouse", "settle", "(IIZ)I"⟩, prog_1_method_11_code, 5, some .int, [], mk_145, []) := rfl
theorem cg_145_19 (hd : 3 ≤ d) (hS : mz_extR S 232) (hR : mz_rok R 232)  (s0 : Bool) (v1 : Int32) (v2 : Int32) (v3 : Bool) (N : mz_N) {C0 : (Nat × Int32 × mz_N) → Prop} (hr : ∀ (w : Int32) (N2 : mz_N), C0 (0, w, N2) → Q (.inl (some (.int w))) (mz_k S R N2 b t)) (ht : ∀ (c : Nat) (w : Int32) (N2 : mz_N), ¬ c = 0 → C0 (c, w, N2) → Q (.inr (c - 1)) (mz_k S R N2 b (t + 1))) (h1000 : t < 1000) (hp : cp_145_19 s0 v1 v2 v3 N) (hC : C0 (cf_145_19 s0 v1 v2 v3 N)) : mz_G (d, mz_X0 L xs, some .int, [], mk_145, 5, Q) 19 mt_145_19 [(0, .ref 0), (1, .int v1), (2, .int v2), (3, .int (mz_b01 v3))] [.int (mz_b01 s0)] false (mz_k S R N b t) := by
  unfold cf_145_19 at hC
  unfold cp_145_19 at hp
  refine g_s1nt (Nat.le_of_ble_eq_true rfl) rfl (fun _ hz0 hz1 => cs_142 (Nat.le_trans (Nat.le_of_ble_eq_true rfl) hd) (hS.le (Nat.le_of_ble_eq_true rfl)) (hR.le (Nat.le_of_ble_eq_true rfl))  s0 trivial h1000 hz0 hz1) hC (fun h6 hC => ?_) (fun h6 hC => ?_)
  · have hp := hp.1 h6
    refine g_aload_n rfl (g_getR (mz_at hS (Nat.le_of_ble_eq_true rfl) mzcS_0) mzcf_11_1 (mz_rb hR (Nat.le_of_ble_eq_true rfl) rfl mzcR_0_1) (g_iload_n rfl (g_iload_n rfl ?_)))
    obtain ⟨h2, hp⟩ := hp
    refine g_v3v (Nat.le_of_ble_eq_true rfl) (mz_at hS (Nat.le_of_ble_eq_true rfl) mzcS_2) (fun _ hq => cs_143 (Nat.le_trans (Nat.le_of_ble_eq_true rfl) hd) (hS.le (Nat.le_of_ble_eq_true rfl)) (hR.le (Nat.le_of_ble_eq_true rfl))  v1 v2 N h2 hq) (g_istore (Nat.le_of_ble_eq_true rfl) rfl (g_iload rfl (g_iconst mzi_m1 ?_)))
    refine g_icne (tg := 41) rfl ms_145_41 hC (fun h3 hC => ?_) (fun h3 hC => ?_)
    · have hp := hp.1 h3
      refine g_iconst mzi_m1 ?_
      exact g_iret rfl (hr _ _ hC)
    · have hp := hp.2 h3
      refine g_aload_n rfl (g_getR (mz_at hS (Nat.le_of_ble_eq_true rfl) mzcS_0) mzcf_11_1 (mz_rb hR (Nat.le_of_ble_eq_true rfl) rfl mzcR_0_1) (g_iload_n rfl (g_iload rfl (g_iload_n rfl ?_))))
      obtain ⟨h4, hp⟩ := hp
      refine g_v4n (Nat.le_of_ble_eq_true rfl) (mz_at hS (Nat.le_of_ble_eq_true rfl) mzcS_2) (fun _ hq => cs_146 (Nat.le_trans (Nat.le_of_ble_eq_true rfl) hd) (hS.le (Nat.le_of_ble_eq_true rfl)) (hR.le (Nat.le_of_ble_eq_true rfl))  v1 (cf_143_0 v1 v2 N) v3 N h4 hq) (g_aload_n rfl (g_getR (mz_at hS (Nat.le_of_ble_eq_true rfl) mzcS_0) mzcf_11_1 (mz_rb hR (Nat.le_of_ble_eq_true rfl) rfl mzcR_0_1) (g_iload_n rfl ?_)))
      have h5 := hp
      refine g_v2v (Nat.le_of_ble_eq_true rfl) (mz_at hS (Nat.le_of_ble_eq_true rfl) mzcS_2) (fun _ hq => cs_112 (Nat.le_trans (Nat.le_of_ble_eq_true rfl) hd) (hS.le (Nat.le_of_ble_eq_true rfl)) (hR.le (Nat.le_of_ble_eq_true rfl))  v1 (cf_146_0 v1 (cf_143_0 v1 v2 N) v3 N) h5 hq) ?_
      exact g_iret rfl (hr _ _ hC)
  · have hp := hp.2 h6
    exact ht _ _ _ h6 hC
theorem cg_145_0 (hd : 3 ≤ d) (hS : mz_extR S 232) (hR : mz_rok R 232)  (v1 : Int32) (v2 : Int32) (v3 : Bool) (N : mz_N) {C0 : (Nat × Int32 × mz_N) → Prop} (hr : ∀ (w : Int32) (N2 : mz_N), C0 (0, w, N2) → Q (.inl (some (.int w))) (mz_k S R N2 b t)) (ht : ∀ (c : Nat) (w : Int32) (N2 : mz_N), ¬ c = 0 → C0 (c, w, N2) → Q (.inr (c - 1)) (mz_k S R N2 b (t + 1))) (h1000 : t < 1000) (hp : cp_145_0 v1 v2 v3 N) (hC : C0 (cf_145_0 v1 v2 v3 N)) : mz_G (d, mz_X0 L xs, some .int, [], mk_145, 5, Q) 0 mk_145 [(0, .ref 0), (1, .int v1), (2, .int v2), (3, .int (mz_b01 v3))] [] true (mz_k S R N b t) := by
  unfold cf_145_0 at hC
  unfold cp_145_0 at hp
  refine g_aload_n rfl ?_
  obtain ⟨h1, hp⟩ := hp
  refine g_v1nt (Nat.le_of_ble_eq_true rfl) (mz_at hS (Nat.le_of_ble_eq_true rfl) mzcS_0) rfl (fun _ hz0 hz1 => cs_104 (Nat.le_trans (Nat.le_of_ble_eq_true rfl) hd) (hS.le (Nat.le_of_ble_eq_true rfl)) (hR.le (Nat.le_of_ble_eq_true rfl))  N h1 h1000 hz0 hz1) hC (fun h5 hC => ?_) (fun h5 hC => ?_)
  · have hp := hp.1 h5
    refine g_iload_n rfl (g_iconst mzi_0 (g_iconst mzi_2 ?_))
    obtain ⟨h2, hp⟩ := hp
    refine g_s3nt (Nat.le_of_ble_eq_true rfl) rfl (fun _ hz0 hz1 => cs_105 (Nat.le_trans (Nat.le_of_ble_eq_true rfl) hd) (hS.le (Nat.le_of_ble_eq_true rfl)) (hR.le (Nat.le_of_ble_eq_true rfl))  v1 0 2 h2 h1000 hz0 hz1) hC (fun h4 hC => ?_) (fun h4 hC => ?_)
    · have hp := hp.1 h4
      refine g_iload_n rfl ?_
      refine g_iflt (tg := 18) rfl ms_145_18 hC (fun h3 hC => ?_) (fun h3 hC => ?_)
      · have hp := hp.1 h3
        refine g_iconst mzi_0 ?_
        refine g_weak ?_ (g_cl (cg_145_19 hd hS hR false v1 v2 v3 N hr ht h1000 hp hC))
        exact ⟨rfl, rfl, rfl, rfl, trivial⟩
      · have hp := hp.2 h3
        refine g_iconst mzi_1 (g_goto (tg := 19) rfl ms_145_19 ?_)
        refine g_weak ?_ (g_cl (cg_145_19 hd hS hR true v1 v2 v3 N hr ht h1000 hp hC))
        exact ⟨rfl, rfl, rfl, rfl, trivial⟩
    · have hp := hp.2 h4
      exact ht _ _ _ h4 hC
  · have hp := hp.2 h5
    exact ht _ _ _ h5 hC
theorem cs_145 (hd : 4 ≤ d) (hS : mz_extR S 232) (hR : mz_rok R 232)  (v1 : Int32) (v2 : Int32) (v3 : Bool) (N : mz_N) (hp : cp_145_0 v1 v2 v3 N) (h1000 : t < 1000) (h0 : (cf_145_0 v1 v2 v3 N).1 = 0 → Q (.inl (some (.int ((cf_145_0 v1 v2 v3 N).2.1)))) (mz_k S R ((cf_145_0 v1 v2 v3 N).2.2) b t)) (h1 : ¬ (cf_145_0 v1 v2 v3 N).1 = 0 → Q (.inr (((cf_145_0 v1 v2 v3 N).1) - 1)) (mz_k S R ((cf_145_0 v1 v2 v3 N).2.2) b (t + 1))) : mz_Ed (mz_X0 L xs) d 145 [.ref 0, .int v1, .int v2, .int (mz_b01 v3)] (mz_k S R N b t) Q :=
  by
  refine g_in mzq_145 (Nat.le_of_ble_eq_true rfl) (Nat.le_of_ble_eq_true rfl) (Nat.le_trans (Nat.le_of_ble_eq_true rfl) hd) ?_
  refine g_weak ?_ (cg_145_0 (d := d - 1) (by omega) hS hR v1 v2 v3 N (C0 := fun z => (z.1 = 0 → Q (.inl (some (.int z.2.1))) (mz_k S R z.2.2 b t)) ∧ (¬ z.1 = 0 → Q (.inr (z.1 - 1)) (mz_k S R z.2.2 b (t + 1)))) (fun _ _ h => h.1 rfl) (fun c _ _ hc h => h.2 hc) h1000 hp ⟨h0, h1⟩)
  exact ⟨rfl, rfl, rfl, rfl, trivial⟩
/-! 144 KeptHouseLaw.settle (LKeptHouse;IIZ[J)I -/
theorem ms_144_0 : mz_sf mk_144 0 = mk_144 := mz_sf_zero _
theorem ms_144_17 : mz_sf mk_144 17 = mt_144_17 := mz_sf_add ms_144_0 (t := 17) rfl rfl
theorem ms_144_21 : mz_sf mk_144 21 = mt_144_21 := mz_sf_add ms_144_17 (t := 4) rfl rfl
theorem ms_144_23 : mz_sf mk_144 23 = mt_144_23 := mz_sf_add ms_144_21 (t := 2) rfl rfl
set_option maxRecDepth 100000 in
theorem mzq_144 : mz_PG0 144 = some (13, ⟨"KeptHouseLaw", "settle", "(LKeptHouse;IIZ[J)I"⟩, method_7_code, 6, some .int, [(0, 12, 15, 13), (0, 12, 19, 15)], mk_144, [(0, 15, 17), (1, 19, 21)]) := rfl
theorem cg_144_23 (hd : 4 ≤ d) (hS : mz_extR S 343) (hR : mz_rok R 343)  (N : mz_N) (t : Nat) {C0 : (Int32 × mz_N × Nat) → Prop} (hr : ∀ (w : Int32) (N2 : mz_N) (t2 : Nat), C0 (w, N2, t2) → Q (.inl (some (.int w))) (mz_k S R N2 b t2)) (hp : cp_144_23 N t) (hC : C0 (cf_144_23 N t)) : mz_G (d, mz_X0 L xs, some .int, [(0, 15, 17), (1, 19, 21)], mk_144, 6, Q) 23 mt_144_23 [] [] false (mz_k S R N b t) := by
  unfold cf_144_23 at hC
  unfold cp_144_23 at hp
  refine g_iconst mzi_0 ?_
  exact g_iret rfl (hr _ _ _ hC)
theorem cg_144_0 (hd : 4 ≤ d) (hS : mz_extR S 343) (hR : mz_rok R 343)  (v1 : Int32) (v2 : Int32) (v3 : Bool) (N : mz_N) (t : Nat) {C0 : (Int32 × mz_N × Nat) → Prop} (hr : ∀ (w : Int32) (N2 : mz_N) (t2 : Nat), C0 (w, N2, t2) → Q (.inl (some (.int w))) (mz_k S R N2 b t2)) (hp : cp_144_0 v1 v2 v3 N t) (hC : C0 (cf_144_0 v1 v2 v3 N t)) : mz_G (d, mz_X0 L xs, some .int, [(0, 15, 17), (1, 19, 21)], mk_144, 6, Q) 0 mk_144 [(0, .ref 0), (1, .int v1), (2, .int v2), (3, .int (mz_b01 v3)), (4, .ref 342)] [] true (mz_k S R N b t) := by
  unfold cf_144_0 at hC
  unfold cp_144_0 at hp
  refine g_aload rfl (g_iconst mzi_0 (g_aload_n rfl (g_iload_n rfl (g_iload_n rfl (g_iload_n rfl ?_)))))
  obtain ⟨h1, hp⟩ := hp
  obtain ⟨h1000, hp⟩ := hp
  refine g_v4vh (Nat.le_of_ble_eq_true rfl) (mz_at hS (Nat.le_of_ble_eq_true rfl) mzcS_0) (fun _ hz0 hz1 => cs_145 (Nat.le_trans (Nat.le_of_ble_eq_true rfl) hd) (hS.le (Nat.le_of_ble_eq_true rfl)) (hR.le (Nat.le_of_ble_eq_true rfl))  v1 v2 v3 N h1 h1000 hz0 hz1) hC (fun h2 hC => ?_) (fun h2 hC => ?_)
  · have hp := hp.1 h2
    refine g_i2l (g_last (mz_at hS (Nat.le_of_ble_eq_true rfl) mzcS_342) (mz_ibd (by decide)) (g_goto (tg := 23) rfl ms_144_23 ?_))
    refine g_weak ?_ (g_cl (cg_144_23 hd hS hR (mz_wL ((cf_145_0 v1 v2 v3 N).2.2) 342 0 (((cf_145_0 v1 v2 v3 N).2.1).toInt64)) t hr hp hC))
    exact trivial
  · have hp := hp.2 h2
    refine mz_cs hC (fun h6 hC => ?_) (fun h6 hC => ?_)
    · have hp := hp.1 h6
      refine ⟨(0, 15, 17), (by rw [h6]; rfl), ?_⟩
      show mz_G (d, mz_X0 L xs, some .int, [(0, 15, 17), (1, 19, 21)], mk_144, 6, Q) 17 (mz_sf mk_144 17) [] [] false (mz_k S R ((cf_145_0 v1 v2 v3 N).2.2) b (t + 1))
      rw [ms_144_17]
      refine g_iconst mzi_1 ?_
      exact g_iret rfl (hr _ _ _ hC)
    · have hp := hp.2 h6
      have h4 := hp
      refine ⟨(1, 19, 21), (by rw [h4]; rfl), ?_⟩
      show mz_G (d, mz_X0 L xs, some .int, [(0, 15, 17), (1, 19, 21)], mk_144, 6, Q) 21 (mz_sf mk_144 21) [] [] false (mz_k S R ((cf_145_0 v1 v2 v3 N).2.2) b (t + 1))
      rw [ms_144_21]
      refine g_iconst mzi_2 ?_
      exact g_iret rfl (hr _ _ _ hC)
theorem cs_144 (hd : 5 ≤ d) (hS : mz_extR S 343) (hR : mz_rok R 343)  (v1 : Int32) (v2 : Int32) (v3 : Bool) (N : mz_N) (t : Nat) (hp : cp_144_0 v1 v2 v3 N t) (hq : Q (.inl (some (.int ((cf_144_0 v1 v2 v3 N t).1)))) (mz_k S R ((cf_144_0 v1 v2 v3 N t).2.1) b ((cf_144_0 v1 v2 v3 N t).2.2))) : mz_Ed (mz_X0 L xs) d 144 [.ref 0, .int v1, .int v2, .int (mz_b01 v3), .ref 342] (mz_k S R N b t) Q :=
  by
  refine g_in mzq_144 (Nat.le_of_ble_eq_true rfl) (Nat.le_of_ble_eq_true rfl) (Nat.le_trans (Nat.le_of_ble_eq_true rfl) hd) ?_
  refine g_weak ?_ (cg_144_0 (d := d - 1) (by omega) hS hR v1 v2 v3 N t (C0 := fun z => Q (.inl (some (.int z.1))) (mz_k S R z.2.1 b z.2.2)) (fun _ _ _ h => h) hp hq)
  exact ⟨rfl, rfl, rfl, rfl, rfl, trivial⟩
/-! 148 KeptHouse.edge (II)I -/
theorem ms_148_0 : mz_sf mk_148 0 = mk_148 := mz_sf_zero _
set_option maxRecDepth 100000 in
theorem mzq_148 : mz_PG0 148 = some (11, ⟨"KeptHouse", "edge", "(II)I"⟩, prog_1_method_12_code, 3, some .int, [], mk_148, []) := rfl
theorem cg_148_0 (hd : 1 ≤ d) (hS : mz_extR S 232) (hR : mz_rok R 232)  (v1 : Int32) (v2 : Int32) (N : mz_N) {C0 : (Nat × Int32) → Prop} (hr : ∀ (w : Int32), C0 (0, w) → Q (.inl (some (.int w))) (mz_k S R N b t)) (ht : ∀ (c : Nat) (w : Int32), ¬ c = 0 → C0 (c, w) → Q (.inr (c - 1)) (mz_k S R N b (t + 1))) (h1000 : t < 1000) (hp : cp_148_0 v1 v2 N) (hC : C0 (cf_148_0 v1 v2 N)) : mz_G (d, mz_X0 L xs, some .int, [], mk_148, 3, Q) 0 mk_148 [(0, .ref 0), (1, .int v1), (2, .int v2)] [] true (mz_k S R N b t) := by
  unfold cf_148_0 at hC
  unfold cp_148_0 at hp
  refine g_aload_n rfl ?_
  obtain ⟨h1, hp⟩ := hp
  refine g_v1nt (Nat.le_of_ble_eq_true rfl) (mz_at hS (Nat.le_of_ble_eq_true rfl) mzcS_0) rfl (fun _ hz0 hz1 => cs_104 (Nat.le_trans (Nat.le_of_ble_eq_true rfl) hd) (hS.le (Nat.le_of_ble_eq_true rfl)) (hR.le (Nat.le_of_ble_eq_true rfl))  N h1 h1000 hz0 hz1) hC (fun h7 hC => ?_) (fun h7 hC => ?_)
  · have hp := hp.1 h7
    refine g_iload_n rfl (g_iconst mzi_0 (g_iconst mzi_4 ?_))
    obtain ⟨h2, hp⟩ := hp
    refine g_s3nt (Nat.le_of_ble_eq_true rfl) rfl (fun _ hz0 hz1 => cs_105 (Nat.le_trans (Nat.le_of_ble_eq_true rfl) hd) (hS.le (Nat.le_of_ble_eq_true rfl)) (hR.le (Nat.le_of_ble_eq_true rfl))  v1 0 4 h2 h1000 hz0 hz1) hC (fun h6 hC => ?_) (fun h6 hC => ?_)
    · have hp := hp.1 h6
      refine g_iload_n rfl (g_iconst mzi_0 (g_bipush mzb_109 ?_))
      obtain ⟨h3, hp⟩ := hp
      refine g_s3nt (Nat.le_of_ble_eq_true rfl) rfl (fun _ hz0 hz1 => cs_105 (Nat.le_trans (Nat.le_of_ble_eq_true rfl) hd) (hS.le (Nat.le_of_ble_eq_true rfl)) (hR.le (Nat.le_of_ble_eq_true rfl))  v2 0 109 h3 h1000 hz0 hz1) hC (fun h5 hC => ?_) (fun h5 hC => ?_)
      · have hp := hp.1 h5
        refine g_aload_n rfl (g_getR (mz_at hS (Nat.le_of_ble_eq_true rfl) mzcS_0) mzcf_11_1 (mz_rb hR (Nat.le_of_ble_eq_true rfl) rfl mzcR_0_1) (g_getR (mz_at hS (Nat.le_of_ble_eq_true rfl) mzcS_2) mzcf_5_0 (mz_rb hR (Nat.le_of_ble_eq_true rfl) rfl mzcR_2_0) (g_iload_n rfl (g_bipush mzb_110 (g_imul (g_iload_n rfl (g_iadd ?_)))))))
        have h4 := hp
        refine g_iald hS.1 (mz_at hS (Nat.le_of_ble_eq_true rfl) mzcS_3) h4 ?_
        exact g_iret rfl (hr _ hC)
      · have hp := hp.2 h5
        exact ht _ _ h5 hC
    · have hp := hp.2 h6
      exact ht _ _ h6 hC
  · have hp := hp.2 h7
    exact ht _ _ h7 hC
theorem cs_148 (hd : 2 ≤ d) (hS : mz_extR S 232) (hR : mz_rok R 232)  (v1 : Int32) (v2 : Int32) (N : mz_N) (hp : cp_148_0 v1 v2 N) (h1000 : t < 1000) (h0 : (cf_148_0 v1 v2 N).1 = 0 → Q (.inl (some (.int ((cf_148_0 v1 v2 N).2)))) (mz_k S R N b t)) (h1 : ¬ (cf_148_0 v1 v2 N).1 = 0 → Q (.inr (((cf_148_0 v1 v2 N).1) - 1)) (mz_k S R N b (t + 1))) : mz_Ed (mz_X0 L xs) d 148 [.ref 0, .int v1, .int v2] (mz_k S R N b t) Q :=
  by
  refine g_in mzq_148 (Nat.le_of_ble_eq_true rfl) (Nat.le_of_ble_eq_true rfl) (Nat.le_trans (Nat.le_of_ble_eq_true rfl) hd) ?_
  refine g_weak ?_ (cg_148_0 (d := d - 1) (by omega) hS hR v1 v2 N (C0 := fun z => (z.1 = 0 → Q (.inl (some (.int z.2))) (mz_k S R N b t)) ∧ (¬ z.1 = 0 → Q (.inr (z.1 - 1)) (mz_k S R N b (t + 1)))) (fun _ h => h.1 rfl) (fun c _ hc h => h.2 hc) h1000 hp ⟨h0, h1⟩)
  exact ⟨rfl, rfl, rfl, trivial⟩
/-! 147 KeptHouseLaw.edge (LKeptHouse;II[J)I -/
theorem ms_147_0 : mz_sf mk_147 0 = mk_147 := mz_sf_zero _
theorem ms_147_15 : mz_sf mk_147 15 = mt_147_15 := mz_sf_add ms_147_0 (t := 15) rfl rfl
theorem ms_147_19 : mz_sf mk_147 19 = mt_147_19 := mz_sf_add ms_147_15 (t := 4) rfl rfl
theorem ms_147_21 : mz_sf mk_147 21 = mt_147_21 := mz_sf_add ms_147_19 (t := 2) rfl rfl
set_option maxRecDepth 100000 in
theorem mzq_147 : mz_PG0 147 = some (13, ⟨"KeptHouseLaw", "edge", "(LKeptHouse;II[J)I"⟩, method_8_code, 5, some .int, [(0, 10, 13, 13), (0, 10, 17, 15)], mk_147, [(0, 13, 15), (1, 17, 19)]) := rfl
theorem cg_147_0 (hd : 2 ≤ d) (hS : mz_extR S 343) (hR : mz_rok R 343)  (v1 : Int32) (v2 : Int32) (N : mz_N) (t : Nat) {C0 : (Int32 × mz_N × Nat) → Prop} (hr : ∀ (w : Int32) (N2 : mz_N) (t2 : Nat), C0 (w, N2, t2) → Q (.inl (some (.int w))) (mz_k S R N2 b t2)) (hp : cp_147_0 v1 v2 N t) (hC : C0 (cf_147_0 v1 v2 N t)) : mz_G (d, mz_X0 L xs, some .int, [(0, 13, 15), (1, 17, 19)], mk_147, 5, Q) 0 mk_147 [(0, .ref 0), (1, .int v1), (2, .int v2), (3, .ref 342)] [] true (mz_k S R N b t) := by
  unfold cf_147_0 at hC
  unfold cp_147_0 at hp
  refine g_aload_n rfl (g_iconst mzi_0 (g_aload_n rfl (g_iload_n rfl (g_iload_n rfl ?_))))
  obtain ⟨h1, hp⟩ := hp
  obtain ⟨h1000, hp⟩ := hp
  refine g_v3vh (Nat.le_of_ble_eq_true rfl) (mz_at hS (Nat.le_of_ble_eq_true rfl) mzcS_0) (fun _ hz0 hz1 => cs_148 (Nat.le_trans (Nat.le_of_ble_eq_true rfl) hd) (hS.le (Nat.le_of_ble_eq_true rfl)) (hR.le (Nat.le_of_ble_eq_true rfl))  v1 v2 N h1 h1000 hz0 hz1) hC (fun h2 hC => ?_) (fun h2 hC => ?_)
  · have hp := hp.1 h2
    refine g_i2l (g_last (mz_at hS (Nat.le_of_ble_eq_true rfl) mzcS_342) (mz_ibd (by decide)) (g_goto (tg := 21) rfl ms_147_21 (g_iconst mzi_0 ?_)))
    exact g_iret rfl (hr _ _ _ hC)
  · have hp := hp.2 h2
    refine mz_cs hC (fun h6 hC => ?_) (fun h6 hC => ?_)
    · have hp := hp.1 h6
      refine ⟨(0, 13, 15), (by rw [h6]; rfl), ?_⟩
      show mz_G (d, mz_X0 L xs, some .int, [(0, 13, 15), (1, 17, 19)], mk_147, 5, Q) 15 (mz_sf mk_147 15) [] [] false (mz_k S R N b (t + 1))
      rw [ms_147_15]
      refine g_iconst mzi_1 ?_
      exact g_iret rfl (hr _ _ _ hC)
    · have hp := hp.2 h6
      have h4 := hp
      refine ⟨(1, 17, 19), (by rw [h4]; rfl), ?_⟩
      show mz_G (d, mz_X0 L xs, some .int, [(0, 13, 15), (1, 17, 19)], mk_147, 5, Q) 19 (mz_sf mk_147 19) [] [] false (mz_k S R N b (t + 1))
      rw [ms_147_19]
      refine g_iconst mzi_2 ?_
      exact g_iret rfl (hr _ _ _ hC)
theorem cs_147 (hd : 3 ≤ d) (hS : mz_extR S 343) (hR : mz_rok R 343)  (v1 : Int32) (v2 : Int32) (N : mz_N) (t : Nat) (hp : cp_147_0 v1 v2 N t) (hq : Q (.inl (some (.int ((cf_147_0 v1 v2 N t).1)))) (mz_k S R ((cf_147_0 v1 v2 N t).2.1) b ((cf_147_0 v1 v2 N t).2.2))) : mz_Ed (mz_X0 L xs) d 147 [.ref 0, .int v1, .int v2, .ref 342] (mz_k S R N b t) Q :=
  by
  refine g_in mzq_147 (Nat.le_of_ble_eq_true rfl) (Nat.le_of_ble_eq_true rfl) (Nat.le_trans (Nat.le_of_ble_eq_true rfl) hd) ?_
  refine g_weak ?_ (cg_147_0 (d := d - 1) (by omega) hS hR v1 v2 N t (C0 := fun z => Q (.inl (some (.int z.1))) (mz_k S R z.2.1 b z.2.2)) (fun _ _ _ h => h) hp hq)
  exact ⟨rfl, rfl, rfl, rfl, trivial⟩
end Fn6
