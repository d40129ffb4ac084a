/-! THE FUNCTIONS: written by program: each method comes to its function. -/
section Fn27
variable {L : Nat} {xs : Nat → Int32} {d : Nat} {S : mz_S} {R : Nat → Nat → Option Nat} {Q : mz_Q} {N : mz_N} {b : Bool} {t : Nat}
/-! 504 KeptHouseModel.fault (I)I -/
theorem ms_504_0 : mz_sf mk_504 0 = mk_504 := mz_sf_zero _
theorem ms_504_17 : mz_sf mk_504 17 = mt_504_17 := mz_sf_add ms_504_0 (t := 17) rfl rfl
theorem ms_504_28 : mz_sf mk_504 28 = mt_504_28 := mz_sf_add ms_504_17 (t := 11) rfl rfl
theorem ms_504_39 : mz_sf mk_504 39 = mt_504_39 := mz_sf_add ms_504_28 (t := 11) rfl rfl
theorem ms_504_43 : mz_sf mk_504 43 = mt_504_43 := mz_sf_add ms_504_39 (t := 4) rfl rfl
set_option maxRecDepth 100000 in
theorem mzq_504 : mz_PG0 504 = some (12, ⟨"KeptHouseModel", "fault", "(I)I"⟩, prog_14_method_71_code, 2, some .int, [], mk_504, []) := rfl
theorem cg_504_0 (hd : 1 ≤ d) (hS : mz_extR S 342) (hR : mz_rok R 342)  (v1 : Int32) (N : mz_N) {C0 : (Int32 × mz_N) → Prop} (hr : ∀ (w : Int32) (N2 : mz_N), C0 (w, N2) → Q (.inl (some (.int w))) (mz_k S R N2 b t)) (hp : cp_504_0 v1 N) (hC : C0 (cf_504_0 v1 N)) : mz_G (d, mz_X0 L xs, some .int, [], mk_504, 2, Q) 0 mk_504 [(0, .ref 232), (1, .int v1)] [] true (mz_k S R N b t) := by
  unfold cf_504_0 at hC
  unfold cp_504_0 at hp
  refine g_aload_n rfl (g_iload_n rfl (g_i2l (g_lconst mzl_0 (g_lconst mzl_1 ?_))))
  refine g_s3v (Nat.le_of_ble_eq_true rfl) (fun _ hq => cs_466 (Nat.le_trans (Nat.le_of_ble_eq_true rfl) hd) (hS.le (Nat.le_of_ble_eq_true rfl)) (hR.le (Nat.le_of_ble_eq_true rfl))  v1.toInt64 0 1 trivial hq) (g_iconst mzi_1 ?_)
  obtain ⟨h2, hp⟩ := hp
  refine g_v3v (Nat.le_of_ble_eq_true rfl) (mz_at hS (Nat.le_of_ble_eq_true rfl) mzcS_232) (fun _ hq => cs_462 (Nat.le_trans (Nat.le_of_ble_eq_true rfl) hd) (hS.le (Nat.le_of_ble_eq_true rfl)) (hR.le (Nat.le_of_ble_eq_true rfl))  (cf_466_0 v1.toInt64 0 1) true N h2 hq) ?_
  refine g_zeq (tg := 17) rfl ms_504_17 hC (fun h3 hC => ?_) (fun h3 hC => ?_)
  · have hp := hp.1 h3
    refine g_iconst mzi_0 ?_
    exact g_iret rfl (hr _ _ hC)
  · have hp := hp.2 h3
    refine g_aload_n rfl ?_
    have h4 := hp
    refine g_getZ (mz_at hS (Nat.le_of_ble_eq_true rfl) mzcS_232) mzcf_12_36 h4 ?_
    refine g_zne (tg := 28) rfl ms_504_28 hC (fun h5 hC => ?_) (fun h5 hC => ?_)
    · refine g_iload_n rfl ?_
      refine g_ifne (tg := 39) rfl ms_504_39 hC (fun h6 hC => ?_) (fun h6 hC => ?_)
      · refine g_aload_n rfl (g_getI (mz_at hS (Nat.le_of_ble_eq_true rfl) mzcS_232) mzcf_12_34 (g_goto (tg := 43) rfl ms_504_43 ?_))
        exact g_iret rfl (hr _ _ hC)
      · refine g_aload_n rfl (g_getI (mz_at hS (Nat.le_of_ble_eq_true rfl) mzcS_232) mzcf_12_35 ?_)
        exact g_iret rfl (hr _ _ hC)
    · refine g_iconst mzi_m1 (g_goto (tg := 43) rfl ms_504_43 ?_)
      exact g_iret rfl (hr _ _ hC)
theorem cs_504 (hd : 2 ≤ d) (hS : mz_extR S 342) (hR : mz_rok R 342)  (v1 : Int32) (N : mz_N) (hp : cp_504_0 v1 N) (hq : Q (.inl (some (.int ((cf_504_0 v1 N).1)))) (mz_k S R ((cf_504_0 v1 N).2) b t)) : mz_Ed (mz_X0 L xs) d 504 [.ref 232, .int v1] (mz_k S R N b t) Q :=
  by
  refine g_in mzq_504 (Nat.le_of_ble_eq_true rfl) (Nat.le_of_ble_eq_true rfl) (Nat.le_trans (Nat.le_of_ble_eq_true rfl) hd) ?_
  refine g_weak ?_ (cg_504_0 (d := d - 1) (by omega) hS hR v1 N (C0 := fun z => Q (.inl (some (.int z.1))) (mz_k S R z.2 b t)) (fun _ _ h => h) hp hq)
  exact ⟨rfl, rfl, trivial⟩
/-! 505 KeptHouseModel.target (I)I -/
theorem ms_505_0 : mz_sf mk_505 0 = mk_505 := mz_sf_zero _
theorem ms_505_21 : mz_sf mk_505 21 = mt_505_21 := mz_sf_add ms_505_0 (t := 21) rfl rfl
theorem ms_505_27 : mz_sf mk_505 27 = mt_505_27 := mz_sf_add ms_505_21 (t := 6) rfl rfl
set_option maxRecDepth 100000 in
theorem mzq_505 : mz_PG0 505 = some (12, ⟨"KeptHouseModel", "target", "(I)I"⟩, prog_14_method_72_code, 2, some .int, [], mk_505, []) := rfl
theorem cg_505_0 (hd : 1 ≤ d) (hS : mz_extR S 342) (hR : mz_rok R 342)  (v1 : Int32) (N : mz_N) {C0 : (Int32 × mz_N) → Prop} (hr : ∀ (w : Int32) (N2 : mz_N), C0 (w, N2) → Q (.inl (some (.int w))) (mz_k S R N2 b t)) (hp : cp_505_0 v1 N) (hC : C0 (cf_505_0 v1 N)) : mz_G (d, mz_X0 L xs, some .int, [], mk_505, 2, Q) 0 mk_505 [(0, .ref 232), (1, .int v1)] [] true (mz_k S R N b t) := by
  unfold cf_505_0 at hC
  unfold cp_505_0 at hp
  refine g_aload_n rfl (g_iload_n rfl (g_i2l (g_lconst mzl_0 (g_con3 ?_))))
  refine g_s3v (Nat.le_of_ble_eq_true rfl) (fun _ hq => cs_466 (Nat.le_trans (Nat.le_of_ble_eq_true rfl) hd) (hS.le (Nat.le_of_ble_eq_true rfl)) (hR.le (Nat.le_of_ble_eq_true rfl))  v1.toInt64 0 15 trivial hq) (g_iconst mzi_1 ?_)
  obtain ⟨h2, hp⟩ := hp
  refine g_v3v (Nat.le_of_ble_eq_true rfl) (mz_at hS (Nat.le_of_ble_eq_true rfl) mzcS_232) (fun _ hq => cs_462 (Nat.le_trans (Nat.le_of_ble_eq_true rfl) hd) (hS.le (Nat.le_of_ble_eq_true rfl)) (hR.le (Nat.le_of_ble_eq_true rfl))  (cf_466_0 v1.toInt64 0 15) true N h2 hq) ?_
  refine g_zeq (tg := 21) rfl ms_505_21 hC (fun h3 hC => ?_) (fun h3 hC => ?_)
  · have hp := hp.1 h3
    refine g_iconst mzi_0 (g_goto (tg := 27) rfl ms_505_27 ?_)
    exact g_iret rfl (hr _ _ hC)
  · have hp := hp.2 h3
    refine g_aload_n rfl (g_getR (mz_at hS (Nat.le_of_ble_eq_true rfl) mzcS_232) mzcf_12_37 (mz_rb hR (Nat.le_of_ble_eq_true rfl) rfl mzcR_232_37) (g_iload_n rfl ?_))
    have h4 := hp
    refine g_iald hS.1 (mz_at hS (Nat.le_of_ble_eq_true rfl) mzcS_257) h4 ?_
    exact g_iret rfl (hr _ _ hC)
theorem cs_505 (hd : 2 ≤ d) (hS : mz_extR S 342) (hR : mz_rok R 342)  (v1 : Int32) (N : mz_N) (hp : cp_505_0 v1 N) (hq : Q (.inl (some (.int ((cf_505_0 v1 N).1)))) (mz_k S R ((cf_505_0 v1 N).2) b t)) : mz_Ed (mz_X0 L xs) d 505 [.ref 232, .int v1] (mz_k S R N b t) Q :=
  by
  refine g_in mzq_505 (Nat.le_of_ble_eq_true rfl) (Nat.le_of_ble_eq_true rfl) (Nat.le_trans (Nat.le_of_ble_eq_true rfl) hd) ?_
  refine g_weak ?_ (cg_505_0 (d := d - 1) (by omega) hS hR v1 N (C0 := fun z => Q (.inl (some (.int z.1))) (mz_k S R z.2 b t)) (fun _ _ h => h) hp hq)
  exact ⟨rfl, rfl, trivial⟩
/-! 508 KeptHouseModel.hourNow ()I -/
theorem ms_508_0 : mz_sf mk_508 0 = mk_508 := mz_sf_zero _
set_option maxRecDepth 100000 in
theorem mzq_508 : mz_PG0 508 = some (12, ⟨"KeptHouseModel", "hourNow", "()I"⟩, prog_14_method_84_code, 1, some .int, [], mk_508, []) := rfl
theorem cg_508_0 (hd : 0 ≤ d) (hS : mz_extR S 342) (hR : mz_rok R 342)  (N : mz_N) {C0 : (Int32) → Prop} (hr : ∀ (w : Int32), C0 w → Q (.inl (some (.int w))) (mz_k S R N b t)) (hp : cp_508_0 N) (hC : C0 (cf_508_0 N)) : mz_G (d, mz_X0 L xs, some .int, [], mk_508, 1, Q) 0 mk_508 [(0, .ref 232)] [] true (mz_k S R N b t) := by
  unfold cf_508_0 at hC
  unfold cp_508_0 at hp
  refine g_aload_n rfl (g_getL (mz_at hS (Nat.le_of_ble_eq_true rfl) mzcS_232) mzcf_12_2 (g_con3 (g_ldiv (by decide) (g_con3 (g_lrem (by decide) (g_l2i ?_))))))
  exact g_iret rfl (hr _ hC)
theorem cs_508 (hd : 1 ≤ d) (hS : mz_extR S 342) (hR : mz_rok R 342)  (N : mz_N) (hp : cp_508_0 N) (hq : Q (.inl (some (.int (cf_508_0 N)))) (mz_k S R N b t)) : mz_Ed (mz_X0 L xs) d 508 [.ref 232] (mz_k S R N b t) Q :=
  by
  refine g_in mzq_508 (Nat.le_of_ble_eq_true rfl) (Nat.le_of_ble_eq_true rfl) (Nat.le_trans (Nat.le_of_ble_eq_true rfl) hd) ?_
  refine g_weak ?_ (cg_508_0 (d := d - 1) (by omega) hS hR N (C0 := fun z => Q (.inl (some (.int z))) (mz_k S R N b t)) (fun _ h => h) hp hq)
  exact ⟨rfl, trivial⟩
/-! 510 KeptHouseModel.works (I)Z -/
theorem ms_510_0 : mz_sf mk_510 0 = mk_510 := mz_sf_zero _
theorem ms_510_13 : mz_sf mk_510 13 = mt_510_13 := mz_sf_add ms_510_0 (t := 13) rfl rfl
theorem ms_510_52 : mz_sf mk_510 52 = mt_510_52 := mz_sf_add ms_510_13 (t := 39) rfl rfl
theorem ms_510_69 : mz_sf mk_510 69 = mt_510_69 := mz_sf_add ms_510_52 (t := 17) rfl rfl
theorem ms_510_86 : mz_sf mk_510 86 = mt_510_86 := mz_sf_add ms_510_69 (t := 17) rfl rfl
theorem ms_510_109 : mz_sf mk_510 109 = mt_510_109 := mz_sf_add ms_510_86 (t := 23) rfl rfl
theorem ms_510_131 : mz_sf mk_510 131 = mt_510_131 := mz_sf_add ms_510_109 (t := 22) rfl rfl
theorem ms_510_152 : mz_sf mk_510 152 = mt_510_152 := mz_sf_add ms_510_131 (t := 21) rfl rfl
theorem ms_510_168 : mz_sf mk_510 168 = mt_510_168 := mz_sf_add ms_510_152 (t := 16) rfl rfl
theorem ms_510_193 : mz_sf mk_510 193 = mt_510_193 := mz_sf_add ms_510_168 (t := 25) rfl rfl
theorem ms_510_199 : mz_sf mk_510 199 = mt_510_199 := mz_sf_add ms_510_193 (t := 6) rfl rfl
set_option maxRecDepth 100000 in
theorem mzq_510 : mz_PG0 510 = some (12, ⟨"KeptHouseModel", "works", "(I)Z"⟩, prog_14_method_137_code, 4, some .boolean, [], mk_510, []) := rfl
theorem cg_510_199 (hd : 5 ≤ d) (hS : mz_extR S 342) (hR : mz_rok R 342)  (s1 : Int32) (s2 : Int64) (N : mz_N) {C0 : (Bool × mz_N) → Prop} (hr : ∀ (w : Bool) (N2 : mz_N), C0 (w, N2) → Q (.inl (some (.int (mz_b01 w)))) (mz_k S R N2 b t)) (hp : cp_510_199 s1 s2 N) (hC : C0 (cf_510_199 s1 s2 N)) : mz_G (d, mz_X0 L xs, some .boolean, [], mk_510, 4, Q) 199 mt_510_199 [] [.long s2, .int s1, .ref 298] false (mz_k S R N b t) := by
  unfold cf_510_199 at hC
  unfold cp_510_199 at hp
  have h1 := hp
  refine g_last (mz_at hS (Nat.le_of_ble_eq_true rfl) mzcS_298) h1 (g_iconst mzi_1 ?_)
  exact g_zret (z := true) rfl (hr _ _ hC)
theorem cg_510_168 (hd : 5 ≤ d) (hS : mz_extR S 342) (hR : mz_rok R 342)  (v1 : Int32) (N : mz_N) {C0 : (Bool × mz_N) → Prop} (hr : ∀ (w : Bool) (N2 : mz_N), C0 (w, N2) → Q (.inl (some (.int (mz_b01 w)))) (mz_k S R N2 b t)) (hp : cp_510_168 v1 N) (hC : C0 (cf_510_168 v1 N)) : mz_G (d, mz_X0 L xs, some .boolean, [], mk_510, 4, Q) 168 mt_510_168 [(0, .ref 232), (1, .int v1)] [] false (mz_k S R N b t) := by
  unfold cf_510_168 at hC
  unfold cp_510_168 at hp
  refine g_aload_n rfl (g_getR (mz_at hS (Nat.le_of_ble_eq_true rfl) mzcS_232) mzcf_12_92 (mz_rb hR (Nat.le_of_ble_eq_true rfl) rfl mzcR_232_92) (g_iload_n rfl (g_aload_n rfl (g_getR (mz_at hS (Nat.le_of_ble_eq_true rfl) mzcS_232) mzcf_12_92 (mz_rb hR (Nat.le_of_ble_eq_true rfl) rfl mzcR_232_92) (g_iload_n rfl ?_)))))
  obtain ⟨h1, hp⟩ := hp
  refine g_lald (mz_at hS (Nat.le_of_ble_eq_true rfl) mzcS_298) h1 (g_aload_n rfl (g_getL (mz_at hS (Nat.le_of_ble_eq_true rfl) mzcS_232) mzcf_12_2 (g_lcmp ?_)))
  refine g_lne (tg := 193) rfl ms_510_193 hC (fun h2 hC => ?_) (fun h2 hC => ?_)
  · have hp := hp.1 h2
    refine g_con3 (g_goto (tg := 199) rfl ms_510_199 ?_)
    refine g_weak ?_ (g_cl (cg_510_199 hd hS hR v1 (-1) N hr hp hC))
    exact trivial
  · have hp := hp.2 h2
    refine g_aload_n rfl (g_getR (mz_at hS (Nat.le_of_ble_eq_true rfl) mzcS_232) mzcf_12_92 (mz_rb hR (Nat.le_of_ble_eq_true rfl) rfl mzcR_232_92) (g_iload_n rfl ?_))
    obtain ⟨h3, hp⟩ := hp
    refine g_lald (mz_at hS (Nat.le_of_ble_eq_true rfl) mzcS_298) h3 ?_
    refine g_weak ?_ (g_cl (cg_510_199 hd hS hR v1 (mz_gL N 298 v1) N hr hp hC))
    exact trivial
theorem cg_510_152 (hd : 5 ≤ d) (hS : mz_extR S 342) (hR : mz_rok R 342)  (v1 : Int32) (v2 : Int32) (N : mz_N) {C0 : (Bool × mz_N) → Prop} (hr : ∀ (w : Bool) (N2 : mz_N), C0 (w, N2) → Q (.inl (some (.int (mz_b01 w)))) (mz_k S R N2 b t)) (hp : cp_510_152 v1 v2 N) (hC : C0 (cf_510_152 v1 v2 N)) : mz_G (d, mz_X0 L xs, some .boolean, [], mk_510, 4, Q) 152 mt_510_152 [(0, .ref 232), (1, .int v1), (2, .int v2)] [] false (mz_k S R N b t) := by
  unfold cf_510_152 at hC
  unfold cp_510_152 at hp
  refine g_aload_n rfl (g_bipush mzb_12 (g_iload_n rfl ?_))
  obtain ⟨h1, hp⟩ := hp
  refine g_v3n (Nat.le_of_ble_eq_true rfl) (mz_at hS (Nat.le_of_ble_eq_true rfl) mzcS_232) (fun _ hq => cs_472 (Nat.le_trans (Nat.le_of_ble_eq_true rfl) hd) (hS.le (Nat.le_of_ble_eq_true rfl)) (hR.le (Nat.le_of_ble_eq_true rfl))  12 v2 N h1 hq) (g_aload_n rfl ?_)
  obtain ⟨h2, hp⟩ := hp
  refine g_v1v (Nat.le_of_ble_eq_true rfl) (mz_at hS (Nat.le_of_ble_eq_true rfl) mzcS_232) (fun _ hq => cs_474 (Nat.le_trans (Nat.le_of_ble_eq_true rfl) hd) (hS.le (Nat.le_of_ble_eq_true rfl)) (hR.le (Nat.le_of_ble_eq_true rfl))  (cf_472_0 12 v2 N) h2 hq) ?_
  refine g_zne (tg := 168) rfl ms_510_168 hC (fun h3 hC => ?_) (fun h3 hC => ?_)
  · have hp := hp.1 h3
    refine g_weak ?_ (g_cl (cg_510_168 hd hS hR v1 ((cf_474_0 (cf_472_0 12 v2 N)).2) hr hp hC))
    exact ⟨rfl, rfl, trivial⟩
  · have hp := hp.2 h3
    refine g_iconst mzi_0 ?_
    exact g_zret (z := false) rfl (hr _ _ hC)
theorem cg_510_109 (hd : 5 ≤ d) (hS : mz_extR S 342) (hR : mz_rok R 342)  (v1 : Int32) (v2 : Int32) (v3 : Int32) (N : mz_N) {C0 : (Bool × mz_N) → Prop} (hr : ∀ (w : Bool) (N2 : mz_N), C0 (w, N2) → Q (.inl (some (.int (mz_b01 w)))) (mz_k S R N2 b t)) (hp : cp_510_109 v1 v2 v3 N) (hC : C0 (cf_510_109 v1 v2 v3 N)) : mz_G (d, mz_X0 L xs, some .boolean, [], mk_510, 4, Q) 109 mt_510_109 [(0, .ref 232), (1, .int v1), (2, .int v2), (3, .int v3)] [] false (mz_k S R N b t) := by
  unfold cf_510_109 at hC
  unfold cp_510_109 at hp
  refine g_aload_n rfl (g_bipush mzb_9 (g_iconst mzi_0 ?_))
  obtain ⟨h1, hp⟩ := hp
  refine g_v3n (Nat.le_of_ble_eq_true rfl) (mz_at hS (Nat.le_of_ble_eq_true rfl) mzcS_232) (fun _ hq => cs_472 (Nat.le_trans (Nat.le_of_ble_eq_true rfl) hd) (hS.le (Nat.le_of_ble_eq_true rfl)) (hR.le (Nat.le_of_ble_eq_true rfl))  9 0 N h1 hq) (g_iload_n rfl (g_iconst mzi_3 ?_))
  refine g_icge (tg := 152) rfl ms_510_152 hC (fun h2 hC => ?_) (fun h2 hC => ?_)
  · have hp := hp.1 h2
    refine g_aload_n rfl (g_getR (mz_at hS (Nat.le_of_ble_eq_true rfl) mzcS_232) mzcf_12_101 (mz_rb hR (Nat.le_of_ble_eq_true rfl) rfl mzcR_232_101) (g_iload_n rfl (g_dup2 rfl rfl ?_)))
    obtain ⟨h3, hp⟩ := hp
    refine g_iald hS.1 (mz_at hS (Nat.le_of_ble_eq_true rfl) mzcS_306) h3 (g_iconst mzi_1 (g_isub ?_))
    obtain ⟨h4, hp⟩ := hp
    refine g_iast (mz_at hS (Nat.le_of_ble_eq_true rfl) mzcS_306) h4 (g_aload_n rfl (g_getR (mz_at hS (Nat.le_of_ble_eq_true rfl) mzcS_232) mzcf_12_100 (mz_rb hR (Nat.le_of_ble_eq_true rfl) rfl mzcR_232_100) (g_iload_n rfl (g_lconst mzl_0 ?_))))
    obtain ⟨h5, hp⟩ := hp
    refine g_last (mz_at hS (Nat.le_of_ble_eq_true rfl) mzcS_305) h5 (g_aload_n rfl (g_getR (mz_at hS (Nat.le_of_ble_eq_true rfl) mzcS_232) mzcf_12_102 (mz_rb hR (Nat.le_of_ble_eq_true rfl) rfl mzcR_232_102) (g_iload_n rfl (g_iconst mzi_0 ?_))))
    obtain ⟨h6, hp⟩ := hp
    refine g_zast (z := false) (mz_at hS (Nat.le_of_ble_eq_true rfl) mzcS_307) h6 (g_aload_n rfl (g_bipush mzb_11 (g_iload_n rfl ?_)))
    obtain ⟨h7, hp⟩ := hp
    refine g_v3n (Nat.le_of_ble_eq_true rfl) (mz_at hS (Nat.le_of_ble_eq_true rfl) mzcS_232) (fun _ hq => cs_472 (Nat.le_trans (Nat.le_of_ble_eq_true rfl) hd) (hS.le (Nat.le_of_ble_eq_true rfl)) (hR.le (Nat.le_of_ble_eq_true rfl))  11 v3 (mz_wI (mz_wL (mz_wI (cf_472_0 9 0 N) 306 v3 ((mz_gI (cf_472_0 9 0 N) 306 v3) - 1)) 305 v3 0) 307 v3 (mz_b01 false)) h7 hq) ?_
    refine g_weak ?_ (g_cl (cg_510_152 hd hS hR v1 v2 (cf_472_0 11 v3 (mz_wI (mz_wL (mz_wI (cf_472_0 9 0 N) 306 v3 ((mz_gI (cf_472_0 9 0 N) 306 v3) - 1)) 305 v3 0) 307 v3 (mz_b01 false))) hr hp hC))
    exact ⟨rfl, rfl, rfl, trivial⟩
  · have hp := hp.2 h2
    refine g_weak ?_ (g_cl (cg_510_152 hd hS hR v1 v2 (cf_472_0 9 0 N) hr hp hC))
    exact ⟨rfl, rfl, rfl, trivial⟩
theorem cg_510_0 (hd : 5 ≤ d) (hS : mz_extR S 342) (hR : mz_rok R 342)  (v1 : Int32) (N : mz_N) {C0 : (Bool × mz_N) → Prop} (hr : ∀ (w : Bool) (N2 : mz_N), C0 (w, N2) → Q (.inl (some (.int (mz_b01 w)))) (mz_k S R N2 b t)) (hp : cp_510_0 v1 N) (hC : C0 (cf_510_0 v1 N)) : mz_G (d, mz_X0 L xs, some .boolean, [], mk_510, 4, Q) 0 mk_510 [(0, .ref 232), (1, .int v1)] [] true (mz_k S R N b t) := by
  unfold cf_510_0 at hC
  unfold cp_510_0 at hp
  refine g_aload_n rfl (g_getR (mz_at hS (Nat.le_of_ble_eq_true rfl) mzcS_232) mzcf_12_92 (mz_rb hR (Nat.le_of_ble_eq_true rfl) rfl mzcR_232_92) (g_iload_n rfl ?_))
  obtain ⟨h1, hp⟩ := hp
  refine g_lald (mz_at hS (Nat.le_of_ble_eq_true rfl) mzcS_298) h1 (g_lconst mzl_0 (g_lcmp ?_))
  refine g_lge (tg := 13) rfl ms_510_13 hC (fun h2 hC => ?_) (fun h2 hC => ?_)
  · have hp := hp.1 h2
    refine g_iconst mzi_1 ?_
    exact g_zret (z := true) rfl (hr _ _ hC)
  · have hp := hp.2 h2
    refine g_aload_n rfl (g_getR (mz_at hS (Nat.le_of_ble_eq_true rfl) mzcS_232) mzcf_12_91 (mz_rb hR (Nat.le_of_ble_eq_true rfl) rfl mzcR_232_91) (g_iload_n rfl ?_))
    obtain ⟨h3, hp⟩ := hp
    refine g_iald hS.1 (mz_at hS (Nat.le_of_ble_eq_true rfl) mzcS_297) h3 (g_aload_n rfl (g_getR (mz_at hS (Nat.le_of_ble_eq_true rfl) mzcS_232) mzcf_12_90 (mz_rb hR (Nat.le_of_ble_eq_true rfl) rfl mzcR_232_90) (g_iload_n rfl ?_)))
    obtain ⟨h4, hp⟩ := hp
    refine g_iald hS.1 (mz_at hS (Nat.le_of_ble_eq_true rfl) mzcS_296) h4 ?_
    refine g_icge (tg := 168) rfl ms_510_168 hC (fun h5 hC => ?_) (fun h5 hC => ?_)
    · have hp := hp.1 h5
      refine g_aload_n rfl (g_getR (mz_at hS (Nat.le_of_ble_eq_true rfl) mzcS_232) mzcf_12_89 (mz_rb hR (Nat.le_of_ble_eq_true rfl) rfl mzcR_232_89) (g_bipush mzb_6 (g_iload_n rfl (g_imul (g_aload_n rfl (g_getR (mz_at hS (Nat.le_of_ble_eq_true rfl) mzcS_232) mzcf_12_91 (mz_rb hR (Nat.le_of_ble_eq_true rfl) rfl mzcR_232_91) (g_iload_n rfl ?_)))))))
      obtain ⟨h6, hp⟩ := hp
      refine g_iald hS.1 (mz_at hS (Nat.le_of_ble_eq_true rfl) mzcS_297) h6 (g_iadd ?_)
      obtain ⟨h7, hp⟩ := hp
      refine g_lald (mz_at hS (Nat.le_of_ble_eq_true rfl) mzcS_295) h7 (g_aload_n rfl (g_getL (mz_at hS (Nat.le_of_ble_eq_true rfl) mzcS_232) mzcf_12_2 (g_lcmp ?_)))
      refine g_lne (tg := 168) rfl ms_510_168 hC (fun h8 hC => ?_) (fun h8 hC => ?_)
      · have hp := hp.1 h8
        refine g_aload_n rfl (g_getR (mz_at hS (Nat.le_of_ble_eq_true rfl) mzcS_232) mzcf_12_88 (mz_rb hR (Nat.le_of_ble_eq_true rfl) rfl mzcR_232_88) (g_bipush mzb_6 (g_iload_n rfl (g_imul (g_aload_n rfl (g_getR (mz_at hS (Nat.le_of_ble_eq_true rfl) mzcS_232) mzcf_12_91 (mz_rb hR (Nat.le_of_ble_eq_true rfl) rfl mzcR_232_91) (g_iload_n rfl ?_)))))))
        obtain ⟨h9, hp⟩ := hp
        refine g_iald hS.1 (mz_at hS (Nat.le_of_ble_eq_true rfl) mzcS_297) h9 (g_iadd ?_)
        obtain ⟨h10, hp⟩ := hp
        refine g_iald hS.1 (mz_at hS (Nat.le_of_ble_eq_true rfl) mzcS_294) h10 (g_istore_n (Nat.le_of_ble_eq_true rfl) rfl (g_aload_n rfl (g_getR (mz_at hS (Nat.le_of_ble_eq_true rfl) mzcS_232) mzcf_12_83 (mz_rb hR (Nat.le_of_ble_eq_true rfl) rfl mzcR_232_83) (g_iload_n rfl ?_))))
        obtain ⟨h11, hp⟩ := hp
        refine g_iald hS.1 (mz_at hS (Nat.le_of_ble_eq_true rfl) mzcS_290) h11 (g_istore_n (Nat.le_of_ble_eq_true rfl) rfl (g_aload_n rfl (g_getR (mz_at hS (Nat.le_of_ble_eq_true rfl) mzcS_232) mzcf_12_91 (mz_rb hR (Nat.le_of_ble_eq_true rfl) rfl mzcR_232_91) (g_iload_n rfl (g_dup2 rfl rfl ?_)))))
        obtain ⟨h12, hp⟩ := hp
        refine g_iald hS.1 (mz_at hS (Nat.le_of_ble_eq_true rfl) mzcS_297) h12 (g_iconst mzi_1 (g_iadd ?_))
        obtain ⟨h13, hp⟩ := hp
        refine g_iast (mz_at hS (Nat.le_of_ble_eq_true rfl) mzcS_297) h13 (g_aload_n rfl (g_getR (mz_at hS (Nat.le_of_ble_eq_true rfl) mzcS_232) mzcf_12_80 (mz_rb hR (Nat.le_of_ble_eq_true rfl) rfl mzcR_232_80) (g_iload_n rfl (g_iconst mzi_0 ?_))))
        obtain ⟨h14, hp⟩ := hp
        refine g_zast (z := false) (mz_at hS (Nat.le_of_ble_eq_true rfl) mzcS_287) h14 (g_aload_n rfl (g_dup rfl (g_getL (mz_at hS (Nat.le_of_ble_eq_true rfl) mzcS_232) mzcf_12_125 (g_con3 (g_ladd (g_putL (mz_at hS (Nat.le_of_ble_eq_true rfl) mzcS_232) mzcf_12_125 (g_aload_n rfl ?_)))))))
        refine g_v1n (Nat.le_of_ble_eq_true rfl) (mz_at hS (Nat.le_of_ble_eq_true rfl) mzcS_232) (fun _ hq => cs_471 (Nat.le_trans (Nat.le_of_ble_eq_true rfl) hd) (hS.le (Nat.le_of_ble_eq_true rfl)) (hR.le (Nat.le_of_ble_eq_true rfl))  (mz_pL (mz_wI (mz_wI N 297 v1 ((mz_gI N 297 v1) + 1)) 287 (mz_gI N 294 ((6 * v1) + (mz_gI N 297 v1))) (mz_b01 false)) 232 125 (((mz_wI (mz_wI N 297 v1 ((mz_gI N 297 v1) + 1)) 287 (mz_gI N 294 ((6 * v1) + (mz_gI N 297 v1))) (mz_b01 false)).2 232 125) + 500)) trivial hq) ?_
        refine g_weak ?_ (g_cl (cg_510_109 hd hS hR v1 (mz_gI N 294 ((6 * v1) + (mz_gI N 297 v1))) (mz_gI N 290 (mz_gI N 294 ((6 * v1) + (mz_gI N 297 v1)))) (cf_471_0 (mz_pL (mz_wI (mz_wI N 297 v1 ((mz_gI N 297 v1) + 1)) 287 (mz_gI N 294 ((6 * v1) + (mz_gI N 297 v1))) (mz_b01 false)) 232 125 (((mz_wI (mz_wI N 297 v1 ((mz_gI N 297 v1) + 1)) 287 (mz_gI N 294 ((6 * v1) + (mz_gI N 297 v1))) (mz_b01 false)).2 232 125) + 500))) hr hp hC))
        exact ⟨rfl, rfl, rfl, rfl, trivial⟩
      · have hp := hp.2 h8
        refine g_weak ?_ (g_cl (cg_510_168 hd hS hR v1 N hr hp hC))
        exact ⟨rfl, rfl, trivial⟩
    · have hp := hp.2 h5
      refine g_weak ?_ (g_cl (cg_510_168 hd hS hR v1 N hr hp hC))
      exact ⟨rfl, rfl, trivial⟩
theorem cs_510 (hd : 6 ≤ d) (hS : mz_extR S 342) (hR : mz_rok R 342)  (v1 : Int32) (N : mz_N) (hp : cp_510_0 v1 N) (hq : Q (.inl (some (.int (mz_b01 ((cf_510_0 v1 N).1))))) (mz_k S R ((cf_510_0 v1 N).2) b t)) : mz_Ed (mz_X0 L xs) d 510 [.ref 232, .int v1] (mz_k S R N b t) Q :=
  by
  refine g_in mzq_510 (Nat.le_of_ble_eq_true rfl) (Nat.le_of_ble_eq_true rfl) (Nat.le_trans (Nat.le_of_ble_eq_true rfl) hd) ?_
  refine g_weak ?_ (cg_510_0 (d := d - 1) (by omega) hS hR v1 N (C0 := fun z => Q (.inl (some (.int (mz_b01 z.1)))) (mz_k S R z.2 b t)) (fun _ _ h => h) hp hq)
  exact ⟨rfl, rfl, trivial⟩
/-! 509 KeptHouseModel.cares ()Z -/
theorem ms_509_0 : mz_sf mk_509 0 = mk_509 := mz_sf_zero _
theorem ms_509_28 : mz_sf mk_509 28 = mt_509_28 := mz_sf_add ms_509_0 (t := 28) rfl rfl
theorem ms_509_37 : mz_sf mk_509 37 = mt_509_37 := mz_sf_add ms_509_28 (t := 9) rfl rfl
theorem ms_509_59 : mz_sf mk_509 59 = mt_509_59 := mz_sf_add ms_509_37 (t := 22) rfl rfl
theorem ms_509_87 : mz_sf mk_509 87 = mt_509_87 := mz_sf_add ms_509_59 (t := 28) rfl rfl
theorem ms_509_93 : mz_sf mk_509 93 = mt_509_93 := mz_sf_add ms_509_87 (t := 6) rfl rfl
theorem ms_509_126 : mz_sf mk_509 126 = mt_509_126 := mz_sf_add ms_509_93 (t := 33) rfl rfl
theorem ms_509_134 : mz_sf mk_509 134 = mt_509_134 := mz_sf_add ms_509_126 (t := 8) rfl rfl
theorem ms_509_154 : mz_sf mk_509 154 = mt_509_154 := mz_sf_add ms_509_134 (t := 20) rfl rfl
theorem ms_509_177 : mz_sf mk_509 177 = mt_509_177 := mz_sf_add ms_509_154 (t := 23) rfl rfl
theorem ms_509_180 : mz_sf mk_509 180 = mt_509_180 := mz_sf_add ms_509_177 (t := 3) rfl rfl
theorem ms_509_200 : mz_sf mk_509 200 = mt_509_200 := mz_sf_add ms_509_180 (t := 20) rfl rfl
theorem ms_509_201 : mz_sf mk_509 201 = mt_509_201 := mz_sf_add ms_509_200 (t := 1) rfl rfl
set_option maxRecDepth 100000 in
theorem mzq_509 : mz_PG0 509 = some (12, ⟨"KeptHouseModel", "cares", "()Z"⟩, prog_14_method_136_code, 4, some .boolean, [], mk_509, []) := rfl
theorem cg_509_180 (hd : 6 ≤ d) (hS : mz_extR S 342) (hR : mz_rok R 342)  (N : mz_N) {C0 : (Bool × mz_N) → Prop} (hr : ∀ (w : Bool) (N2 : mz_N), C0 (w, N2) → Q (.inl (some (.int (mz_b01 w)))) (mz_k S R N2 b t)) (hp : cp_509_180 N) (hC : C0 (cf_509_180 N)) : mz_G (d, mz_X0 L xs, some .boolean, [], mk_509, 4, Q) 180 mt_509_180 [(0, .ref 232)] [] false (mz_k S R N b t) := by
  unfold cf_509_180 at hC
  unfold cp_509_180 at hp
  refine g_aload_n rfl (g_iconst mzi_0 ?_)
  obtain ⟨h1, hp⟩ := hp
  refine g_v2v (Nat.le_of_ble_eq_true rfl) (mz_at hS (Nat.le_of_ble_eq_true rfl) mzcS_232) (fun _ hq => cs_510 (Nat.le_trans (Nat.le_of_ble_eq_true rfl) hd) (hS.le (Nat.le_of_ble_eq_true rfl)) (hR.le (Nat.le_of_ble_eq_true rfl))  0 N h1 hq) ?_
  refine g_zeq (tg := 200) rfl ms_509_200 hC (fun h2 hC => ?_) (fun h2 hC => ?_)
  · have hp := hp.1 h2
    refine g_aload_n rfl (g_iconst mzi_1 ?_)
    have h3 := hp
    refine g_v2v (Nat.le_of_ble_eq_true rfl) (mz_at hS (Nat.le_of_ble_eq_true rfl) mzcS_232) (fun _ hq => cs_510 (Nat.le_trans (Nat.le_of_ble_eq_true rfl) hd) (hS.le (Nat.le_of_ble_eq_true rfl)) (hR.le (Nat.le_of_ble_eq_true rfl))  1 ((cf_510_0 0 N).2) h3 hq) ?_
    refine g_zeq (tg := 200) rfl ms_509_200 hC (fun h4 hC => ?_) (fun h4 hC => ?_)
    · refine g_iconst mzi_1 (g_goto (tg := 201) rfl ms_509_201 ?_)
      exact g_zret (z := true) rfl (hr _ _ hC)
    · refine g_iconst mzi_0 ?_
      exact g_zret (z := false) rfl (hr _ _ hC)
  · have hp := hp.2 h2
    refine g_iconst mzi_0 ?_
    exact g_zret (z := false) rfl (hr _ _ hC)
theorem cg_509_154 (hd : 6 ≤ d) (hS : mz_extR S 342) (hR : mz_rok R 342)  (v1 : Int32) (N : mz_N) {C0 : (Bool × mz_N) → Prop} (hr : ∀ (w : Bool) (N2 : mz_N), C0 (w, N2) → Q (.inl (some (.int (mz_b01 w)))) (mz_k S R N2 b t)) {C1 : ((mz_N) ⊕ (Bool × mz_N)) → Prop} (hc1 : ∀ s2, C1 (.inl s2) → mz_G (d, mz_X0 L xs, some .boolean, [], mk_509, 4, Q) 0 mk_509 [(0, .ref 232)] [] false (mz_k S R s2 b t)) (hx1 : ∀ z, C1 (.inr z) → C0 z) (hp : cp_509_154 v1 N) (hC : C1 (cf_509_154 v1 N)) : mz_G (d, mz_X0 L xs, some .boolean, [], mk_509, 4, Q) 154 mt_509_154 [(0, .ref 232), (1, .int v1)] [] false (mz_k S R N b t) := by
  unfold cf_509_154 at hC
  unfold cp_509_154 at hp
  refine g_aload_n rfl (g_bipush mzb_9 (g_iconst mzi_0 ?_))
  obtain ⟨h1, hp⟩ := hp
  refine g_v3n (Nat.le_of_ble_eq_true rfl) (mz_at hS (Nat.le_of_ble_eq_true rfl) mzcS_232) (fun _ hq => cs_472 (Nat.le_trans (Nat.le_of_ble_eq_true rfl) hd) (hS.le (Nat.le_of_ble_eq_true rfl)) (hR.le (Nat.le_of_ble_eq_true rfl))  9 0 N h1 hq) (g_aload_n rfl (g_bipush mzb_11 (g_iload_n rfl ?_)))
  obtain ⟨h2, hp⟩ := hp
  refine g_v3n (Nat.le_of_ble_eq_true rfl) (mz_at hS (Nat.le_of_ble_eq_true rfl) mzcS_232) (fun _ hq => cs_472 (Nat.le_trans (Nat.le_of_ble_eq_true rfl) hd) (hS.le (Nat.le_of_ble_eq_true rfl)) (hR.le (Nat.le_of_ble_eq_true rfl))  11 v1 (cf_472_0 9 0 N) h2 hq) (g_aload_n rfl ?_)
  have h3 := hp
  refine g_v1v (Nat.le_of_ble_eq_true rfl) (mz_at hS (Nat.le_of_ble_eq_true rfl) mzcS_232) (fun _ hq => cs_474 (Nat.le_trans (Nat.le_of_ble_eq_true rfl) hd) (hS.le (Nat.le_of_ble_eq_true rfl)) (hR.le (Nat.le_of_ble_eq_true rfl))  (cf_472_0 11 v1 (cf_472_0 9 0 N)) h3 hq) ?_
  refine g_zne (tg := 177) rfl ms_509_177 hC (fun h4 hC => ?_) (fun h4 hC => ?_)
  · refine g_goto (tg := 0) rfl ms_509_0 ?_
    refine g_weak ?_ (g_cl (hc1 ((cf_474_0 (cf_472_0 11 v1 (cf_472_0 9 0 N))).2) hC))
    exact ⟨rfl, trivial⟩
  · refine g_iconst mzi_0 ?_
    exact g_zret (z := false) rfl (hr _ _ (hx1 _ hC))
theorem cg_509_134 (hd : 6 ≤ d) (hS : mz_extR S 342) (hR : mz_rok R 342)  (s1 : Int32) (s2 : Int32) (v1 : Int32) (v2 : Int32) (N : mz_N) {C0 : (Bool × mz_N) → Prop} (hr : ∀ (w : Bool) (N2 : mz_N), C0 (w, N2) → Q (.inl (some (.int (mz_b01 w)))) (mz_k S R N2 b t)) {C1 : ((mz_N) ⊕ (Bool × mz_N)) → Prop} (hc1 : ∀ s2, C1 (.inl s2) → mz_G (d, mz_X0 L xs, some .boolean, [], mk_509, 4, Q) 0 mk_509 [(0, .ref 232)] [] false (mz_k S R s2 b t)) (hx1 : ∀ z, C1 (.inr z) → C0 z) (hp : cp_509_134 s1 s2 v1 v2 N) (hC : C1 (cf_509_134 s1 s2 v1 v2 N)) : mz_G (d, mz_X0 L xs, some .boolean, [], mk_509, 4, Q) 134 mt_509_134 [(0, .ref 232), (1, .int v1), (2, .int v2)] [.int s2, .int s1, .ref 306] false (mz_k S R N b t) := by
  unfold cf_509_134 at hC
  unfold cp_509_134 at hp
  obtain ⟨h1, hp⟩ := hp
  refine g_iast (mz_at hS (Nat.le_of_ble_eq_true rfl) mzcS_306) h1 (g_aload_n rfl (g_dup rfl (g_getL (mz_at hS (Nat.le_of_ble_eq_true rfl) mzcS_232) mzcf_12_125 (g_con3 (g_iload_n rfl (g_i2l (g_lmul ?_)))))))
  refine g_ladd (g_putL (mz_at hS (Nat.le_of_ble_eq_true rfl) mzcS_232) mzcf_12_125 (g_aload_n rfl ?_))
  refine g_v1n (Nat.le_of_ble_eq_true rfl) (mz_at hS (Nat.le_of_ble_eq_true rfl) mzcS_232) (fun _ hq => cs_471 (Nat.le_trans (Nat.le_of_ble_eq_true rfl) hd) (hS.le (Nat.le_of_ble_eq_true rfl)) (hR.le (Nat.le_of_ble_eq_true rfl))  (mz_pL (mz_wI N 306 s1 s2) 232 125 (((mz_wI N 306 s1 s2).2 232 125) + (3000 * v2.toInt64))) trivial hq) ?_
  refine g_weak ?_ (g_cl (cg_509_154 hd hS hR v1 (cf_471_0 (mz_pL (mz_wI N 306 s1 s2) 232 125 (((mz_wI N 306 s1 s2).2 232 125) + (3000 * v2.toInt64)))) hr hc1 hx1 hp hC))
  exact ⟨rfl, rfl, trivial⟩
theorem cg_509_87 (hd : 6 ≤ d) (hS : mz_extR S 342) (hR : mz_rok R 342)  (v1 : Int32) (v2 : Int32) (v3 : Int32) (N : mz_N) {C0 : (Bool × mz_N) → Prop} (hr : ∀ (w : Bool) (N2 : mz_N), C0 (w, N2) → Q (.inl (some (.int (mz_b01 w)))) (mz_k S R N2 b t)) {C1 : ((mz_N) ⊕ (Bool × mz_N)) → Prop} (hc1 : ∀ s2, C1 (.inl s2) → mz_G (d, mz_X0 L xs, some .boolean, [], mk_509, 4, Q) 0 mk_509 [(0, .ref 232)] [] false (mz_k S R s2 b t)) (hx1 : ∀ z, C1 (.inr z) → C0 z) {C2 : ((Int32 × mz_N) ⊕ ((mz_N) ⊕ (Bool × mz_N))) → Prop} (hc2 : ∀ s2, C2 (.inl s2) → mz_G (d, mz_X0 L xs, some .boolean, [], mk_509, 4, Q) 37 mt_509_37 [(0, .ref 232), (1, .int v1), (2, .int v2), (3, .int s2.1)] [] false (mz_k S R s2.2 b t)) (hx2 : ∀ z, C2 (.inr z) → C1 z) (hp : cp_509_87 v1 v2 v3 N) (hC : C2 (cf_509_87 v1 v2 v3 N)) : mz_G (d, mz_X0 L xs, some .boolean, [], mk_509, 4, Q) 87 mt_509_87 [(0, .ref 232), (1, .int v1), (2, .int v2), (3, .int v3)] [] false (mz_k S R N b t) := by
  unfold cf_509_87 at hC
  unfold cp_509_87 at hp
  refine g_iinc rfl mzi_1 (Nat.le_of_ble_eq_true rfl) rfl (g_goto (tg := 37) rfl ms_509_37 ?_)
  refine g_weak ?_ (g_cl (hc2 ((v3 + 1), N) hC))
  exact ⟨rfl, rfl, rfl, rfl, trivial⟩
theorem cb_509_37 (hd : 6 ≤ d) (hS : mz_extR S 342) (hR : mz_rok R 342)  (v1 : Int32) (v2 : Int32) (s : Int32 × mz_N) {C0 : (Bool × mz_N) → Prop} (hr : ∀ (w : Bool) (N2 : mz_N), C0 (w, N2) → Q (.inl (some (.int (mz_b01 w)))) (mz_k S R N2 b t)) {C1 : ((mz_N) ⊕ (Bool × mz_N)) → Prop} (hc1 : ∀ s2, C1 (.inl s2) → mz_G (d, mz_X0 L xs, some .boolean, [], mk_509, 4, Q) 0 mk_509 [(0, .ref 232)] [] false (mz_k S R s2 b t)) (hx1 : ∀ z, C1 (.inr z) → C0 z) {C2 : ((Int32 × mz_N) ⊕ ((mz_N) ⊕ (Bool × mz_N))) → Prop} (hc2 : ∀ s2, C2 (.inl s2) → mz_G (d, mz_X0 L xs, some .boolean, [], mk_509, 4, Q) 37 mt_509_37 [(0, .ref 232), (1, .int v1), (2, .int v2), (3, .int s2.1)] [] false (mz_k S R s2.2 b t)) (hx2 : ∀ z, C2 (.inr z) → C1 z) (hp : cd_509_37 v1 v2 s) (hC : C2 (cq_509_37 v1 v2 s)) : mz_G (d, mz_X0 L xs, some .boolean, [], mk_509, 4, Q) 37 mt_509_37 [(0, .ref 232), (1, .int v1), (2, .int v2), (3, .int s.1)] [] false (mz_k S R s.2 b t) := by
  unfold cq_509_37 at hC
  unfold cd_509_37 at hp
  refine g_iload_n rfl (g_aload_n rfl (g_getI (mz_at hS (Nat.le_of_ble_eq_true rfl) mzcS_232) mzcf_12_96 ?_))
  refine g_icge (tg := 93) rfl ms_509_93 hC (fun h1 hC => ?_) (fun h1 hC => ?_)
  · have hp := hp.1 h1
    refine g_aload_n rfl (g_getR (mz_at hS (Nat.le_of_ble_eq_true rfl) mzcS_232) mzcf_12_97 (mz_rb hR (Nat.le_of_ble_eq_true rfl) rfl mzcR_232_97) (g_iload_n rfl (g_iconst mzi_1 (g_isub (g_aload_n rfl (g_getR (mz_at hS (Nat.le_of_ble_eq_true rfl) mzcS_232) mzcf_12_97 (mz_rb hR (Nat.le_of_ble_eq_true rfl) rfl mzcR_232_97) (g_iload_n rfl ?_)))))))
    obtain ⟨h2, hp⟩ := hp
    refine g_iald hS.1 (mz_at hS (Nat.le_of_ble_eq_true rfl) mzcS_302) h2 ?_
    obtain ⟨h3, hp⟩ := hp
    refine g_iast (mz_at hS (Nat.le_of_ble_eq_true rfl) mzcS_302) h3 (g_aload_n rfl (g_getR (mz_at hS (Nat.le_of_ble_eq_true rfl) mzcS_232) mzcf_12_98 (mz_rb hR (Nat.le_of_ble_eq_true rfl) rfl mzcR_232_98) (g_iload_n rfl (g_iconst mzi_1 (g_isub (g_aload_n rfl (g_getR (mz_at hS (Nat.le_of_ble_eq_true rfl) mzcS_232) mzcf_12_98 (mz_rb hR (Nat.le_of_ble_eq_true rfl) rfl mzcR_232_98) ?_)))))))
    refine g_iload_n rfl ?_
    obtain ⟨h4, hp⟩ := hp
    refine g_iald hS.1 (mz_at hS (Nat.le_of_ble_eq_true rfl) mzcS_303) h4 ?_
    obtain ⟨h5, hp⟩ := hp
    refine g_iast (mz_at hS (Nat.le_of_ble_eq_true rfl) mzcS_303) h5 (g_aload_n rfl (g_getR (mz_at hS (Nat.le_of_ble_eq_true rfl) mzcS_232) mzcf_12_99 (mz_rb hR (Nat.le_of_ble_eq_true rfl) rfl mzcR_232_99) (g_iload_n rfl (g_iconst mzi_1 (g_isub (g_aload_n rfl (g_getR (mz_at hS (Nat.le_of_ble_eq_true rfl) mzcS_232) mzcf_12_99 (mz_rb hR (Nat.le_of_ble_eq_true rfl) rfl mzcR_232_99) ?_)))))))
    refine g_iload_n rfl ?_
    obtain ⟨h6, hp⟩ := hp
    refine g_lald (mz_at hS (Nat.le_of_ble_eq_true rfl) mzcS_304) h6 ?_
    obtain ⟨h7, hp⟩ := hp
    refine g_last (mz_at hS (Nat.le_of_ble_eq_true rfl) mzcS_304) h7 ?_
    refine g_weak ?_ (g_cl (cg_509_87 hd hS hR v1 v2 s.1 (mz_wL (mz_wI (mz_wI s.2 302 (s.1 - 1) (mz_gI s.2 302 s.1)) 303 (s.1 - 1) (mz_gI (mz_wI s.2 302 (s.1 - 1) (mz_gI s.2 302 s.1)) 303 s.1)) 304 (s.1 - 1) (mz_gL (mz_wI (mz_wI s.2 302 (s.1 - 1) (mz_gI s.2 302 s.1)) 303 (s.1 - 1) (mz_gI (mz_wI s.2 302 (s.1 - 1) (mz_gI s.2 302 s.1)) 303 s.1)) 304 s.1)) hr hc1 hx1 hc2 hx2 hp hC))
    exact ⟨rfl, rfl, rfl, rfl, trivial⟩
  · have hp := hp.2 h1
    refine g_aload_n rfl (g_dup rfl (g_getI (mz_at hS (Nat.le_of_ble_eq_true rfl) mzcS_232) mzcf_12_96 (g_iconst mzi_1 (g_isub (g_putI (mz_at hS (Nat.le_of_ble_eq_true rfl) mzcS_232) mzcf_12_96 (g_aload_n rfl (g_getR (mz_at hS (Nat.le_of_ble_eq_true rfl) mzcS_232) mzcf_12_101 (mz_rb hR (Nat.le_of_ble_eq_true rfl) rfl mzcR_232_101) ?_)))))))
    refine g_iload_n rfl (g_aload_n rfl (g_getR (mz_at hS (Nat.le_of_ble_eq_true rfl) mzcS_232) mzcf_12_101 (mz_rb hR (Nat.le_of_ble_eq_true rfl) rfl mzcR_232_101) (g_iload_n rfl ?_)))
    obtain ⟨h8, hp⟩ := hp
    refine g_iald hS.1 (mz_at hS (Nat.le_of_ble_eq_true rfl) mzcS_306) h8 (g_iload_n rfl (g_iadd (g_bipush mzb_99 ?_)))
    refine g_icle (tg := 126) rfl ms_509_126 hC (fun h9 hC => ?_) (fun h9 hC => ?_)
    · have hp := hp.1 h9
      refine g_bipush mzb_99 (g_goto (tg := 134) rfl ms_509_134 ?_)
      refine g_weak ?_ (g_cl (cg_509_134 hd hS hR v1 99 v1 v2 (mz_pI s.2 232 96 ((s.2.1 232 96) - 1)) hr hc1 hx1 hp (hx2 _ hC)))
      exact ⟨rfl, rfl, rfl, trivial⟩
    · have hp := hp.2 h9
      refine g_aload_n rfl (g_getR (mz_at hS (Nat.le_of_ble_eq_true rfl) mzcS_232) mzcf_12_101 (mz_rb hR (Nat.le_of_ble_eq_true rfl) rfl mzcR_232_101) (g_iload_n rfl ?_))
      obtain ⟨h10, hp⟩ := hp
      refine g_iald hS.1 (mz_at hS (Nat.le_of_ble_eq_true rfl) mzcS_306) h10 (g_iload_n rfl (g_iadd ?_))
      refine g_weak ?_ (g_cl (cg_509_134 hd hS hR v1 ((mz_gI (mz_pI s.2 232 96 ((s.2.1 232 96) - 1)) 306 v1) + v2) v1 v2 (mz_pI s.2 232 96 ((s.2.1 232 96) - 1)) hr hc1 hx1 hp (hx2 _ hC)))
      exact ⟨rfl, rfl, rfl, trivial⟩
theorem cg_509_37 (hd : 6 ≤ d) (hS : mz_extR S 342) (hR : mz_rok R 342)  (v1 : Int32) (v2 : Int32) (v3 : Int32) (N : mz_N) {C0 : (Bool × mz_N) → Prop} (hr : ∀ (w : Bool) (N2 : mz_N), C0 (w, N2) → Q (.inl (some (.int (mz_b01 w)))) (mz_k S R N2 b t)) {C1 : ((mz_N) ⊕ (Bool × mz_N)) → Prop} (hc1 : ∀ s2, C1 (.inl s2) → mz_G (d, mz_X0 L xs, some .boolean, [], mk_509, 4, Q) 0 mk_509 [(0, .ref 232)] [] false (mz_k S R s2 b t)) (hx1 : ∀ z, C1 (.inr z) → C0 z) (hp : cp_509_37 v1 v2 v3 N) (hC : C1 (cf_509_37 v1 v2 v3 N)) : mz_G (d, mz_X0 L xs, some .boolean, [], mk_509, 4, Q) 37 mt_509_37 [(0, .ref 232), (1, .int v1), (2, .int v2), (3, .int v3)] [] false (mz_k S R N b t) := by
  obtain ⟨n, hn⟩ := hp
  exact g_loop (G := fun s => mz_G (d, mz_X0 L xs, some .boolean, [], mk_509, 4, Q) 37 mt_509_37 [(0, .ref 232), (1, .int v1), (2, .int v2), (3, .int s.1)] [] false (mz_k S R s.2 b t)) (C := C1) (fun C2 hc hx s hP hC => cb_509_37 hd hS hR v1 v2 s hr hc1 hx1 hc hx hP hC) n (v3, N) hn hC
theorem cb_509_0 (hd : 6 ≤ d) (hS : mz_extR S 342) (hR : mz_rok R 342)   (s : mz_N) {C0 : (Bool × mz_N) → Prop} (hr : ∀ (w : Bool) (N2 : mz_N), C0 (w, N2) → Q (.inl (some (.int (mz_b01 w)))) (mz_k S R N2 b t)) {C1 : ((mz_N) ⊕ (Bool × mz_N)) → Prop} (hc1 : ∀ s2, C1 (.inl s2) → mz_G (d, mz_X0 L xs, some .boolean, [], mk_509, 4, Q) 0 mk_509 [(0, .ref 232)] [] false (mz_k S R s2 b t)) (hx1 : ∀ z, C1 (.inr z) → C0 z) (hp : cd_509_0  s) (hC : C1 (cq_509_0  s)) : mz_G (d, mz_X0 L xs, some .boolean, [], mk_509, 4, Q) 0 mk_509 [(0, .ref 232)] [] false (mz_k S R s b t) := by
  unfold cq_509_0 at hC
  unfold cd_509_0 at hp
  refine g_aload_n rfl (g_getI (mz_at hS (Nat.le_of_ble_eq_true rfl) mzcS_232) mzcf_12_96 ?_)
  refine g_ifle (tg := 180) rfl ms_509_180 hC (fun h1 hC => ?_) (fun h1 hC => ?_)
  · have hp := hp.1 h1
    refine g_aload_n rfl (g_getR (mz_at hS (Nat.le_of_ble_eq_true rfl) mzcS_232) mzcf_12_99 (mz_rb hR (Nat.le_of_ble_eq_true rfl) rfl mzcR_232_99) (g_iconst mzi_0 (g_lald (mz_at hS (Nat.le_of_ble_eq_true rfl) mzcS_304) (mz_ibd (by decide)) (g_aload_n rfl (g_getL (mz_at hS (Nat.le_of_ble_eq_true rfl) mzcS_232) mzcf_12_2 (g_lcmp ?_))))))
    refine g_lgt (tg := 180) rfl ms_509_180 hC (fun h2 hC => ?_) (fun h2 hC => ?_)
    · have hp := hp.1 h2
      refine g_weak ?_ (g_cl (cg_509_180 hd hS hR s hr hp (hx1 _ hC)))
      exact ⟨rfl, trivial⟩
    · have hp := hp.2 h2
      refine g_aload_n rfl (g_getR (mz_at hS (Nat.le_of_ble_eq_true rfl) mzcS_232) mzcf_12_97 (mz_rb hR (Nat.le_of_ble_eq_true rfl) rfl mzcR_232_97) (g_iconst mzi_0 (g_iald hS.1 (mz_at hS (Nat.le_of_ble_eq_true rfl) mzcS_302) (mz_ibd (by decide)) (g_istore_n (Nat.le_of_ble_eq_true rfl) rfl (g_aload_n rfl (g_getR (mz_at hS (Nat.le_of_ble_eq_true rfl) mzcS_232) mzcf_12_98 (mz_rb hR (Nat.le_of_ble_eq_true rfl) rfl mzcR_232_98) (g_iconst mzi_0 ?_)))))))
      refine g_iald hS.1 (mz_at hS (Nat.le_of_ble_eq_true rfl) mzcS_303) (mz_ibd (by decide)) (g_istore_n (Nat.le_of_ble_eq_true rfl) rfl (g_iconst mzi_1 (g_istore_n (Nat.le_of_ble_eq_true rfl) rfl ?_)))
      refine g_weak ?_ (g_cl (cg_509_37 hd hS hR (mz_gI s 302 0) (mz_gI s 303 0) 1 s hr hc1 hx1 hp hC))
      exact ⟨rfl, rfl, rfl, rfl, trivial⟩
  · have hp := hp.2 h1
    refine g_weak ?_ (g_cl (cg_509_180 hd hS hR s hr hp (hx1 _ hC)))
    exact ⟨rfl, trivial⟩
theorem cg_509_0 (hd : 6 ≤ d) (hS : mz_extR S 342) (hR : mz_rok R 342)  (N : mz_N) {C0 : (Bool × mz_N) → Prop} (hr : ∀ (w : Bool) (N2 : mz_N), C0 (w, N2) → Q (.inl (some (.int (mz_b01 w)))) (mz_k S R N2 b t)) (hp : cp_509_0 N) (hC : C0 (cf_509_0 N)) : mz_G (d, mz_X0 L xs, some .boolean, [], mk_509, 4, Q) 0 mk_509 [(0, .ref 232)] [] false (mz_k S R N b t) := by
  obtain ⟨n, hn⟩ := hp
  exact g_loop (G := fun s => mz_G (d, mz_X0 L xs, some .boolean, [], mk_509, 4, Q) 0 mk_509 [(0, .ref 232)] [] false (mz_k S R s b t)) (C := C0) (fun C2 hc hx s hP hC => cb_509_0 hd hS hR  s hr hc hx hP hC) n (N) hn hC
theorem cs_509 (hd : 7 ≤ d) (hS : mz_extR S 342) (hR : mz_rok R 342)  (N : mz_N) (hp : cp_509_0 N) (hq : Q (.inl (some (.int (mz_b01 ((cf_509_0 N).1))))) (mz_k S R ((cf_509_0 N).2) b t)) : mz_Ed (mz_X0 L xs) d 509 [.ref 232] (mz_k S R N b t) Q :=
  by
  refine g_in mzq_509 (Nat.le_of_ble_eq_true rfl) (Nat.le_of_ble_eq_true rfl) (Nat.le_trans (Nat.le_of_ble_eq_true rfl) hd) ?_
  refine g_weak ?_ (g_cl (cg_509_0 (d := d - 1) (by omega) hS hR N (C0 := fun z => Q (.inl (some (.int (mz_b01 z.1)))) (mz_k S R z.2 b t)) (fun _ _ h => h) hp hq))
  exact ⟨rfl, trivial⟩
/-! 513 KeptHouseModel.sumAll ([J)V -/
theorem ms_513_0 : mz_sf mk_513 0 = mk_513 := mz_sf_zero _
theorem ms_513_2 : mz_sf mk_513 2 = mt_513_2 := mz_sf_add ms_513_0 (t := 2) rfl rfl
theorem ms_513_23 : mz_sf mk_513 23 = mt_513_23 := mz_sf_add ms_513_2 (t := 21) rfl rfl
theorem ms_513_25 : mz_sf mk_513 25 = mt_513_25 := mz_sf_add ms_513_23 (t := 2) rfl rfl
theorem ms_513_58 : mz_sf mk_513 58 = mt_513_58 := mz_sf_add ms_513_25 (t := 33) rfl rfl
theorem ms_513_64 : mz_sf mk_513 64 = mt_513_64 := mz_sf_add ms_513_58 (t := 6) rfl rfl
set_option maxRecDepth 100000 in
theorem mzq_513 : mz_PG0 513 = some (12, ⟨"KeptHouseModel", "sumAll", "([J)V"⟩, prog_14_method_79_code, 3, none, [], mk_513, []) := rfl
theorem cg_513_58 (hd : 0 ≤ d) (hS : mz_extR S 342) (hR : mz_rok R 342) (a1 : Nat) (hs1 : S[a1]? = some (1, 240, [])) (v2 : Int32) (N : mz_N) {C0 : (mz_N) → Prop} (hr : ∀ (N2 : mz_N), C0 N2 → Q (.inl none) (mz_k S R N2 b t)) {C1 : ((Int32 × mz_N) ⊕ (mz_N)) → Prop} (hc1 : ∀ s2, C1 (.inl s2) → mz_G (d, mz_X0 L xs, none, [], mk_513, 3, Q) 25 mt_513_25 [(0, .ref 232), (1, .ref a1), (2, .int s2.1)] [] false (mz_k S R s2.2 b t)) (hx1 : ∀ z, C1 (.inr z) → C0 z) (hp : cp_513_58 a1 v2 N) (hC : C1 (cf_513_58 a1 v2 N)) : mz_G (d, mz_X0 L xs, none, [], mk_513, 3, Q) 58 mt_513_58 [(0, .ref 232), (1, .ref a1), (2, .int v2)] [] false (mz_k S R N b t) := by
  unfold cf_513_58 at hC
  unfold cp_513_58 at hp
  refine g_iinc rfl mzi_1 (Nat.le_of_ble_eq_true rfl) rfl (g_goto (tg := 25) rfl ms_513_25 ?_)
  refine g_weak ?_ (g_cl (hc1 ((v2 + 1), N) hC))
  exact ⟨rfl, rfl, rfl, trivial⟩
theorem cb_513_25 (hd : 0 ≤ d) (hS : mz_extR S 342) (hR : mz_rok R 342) (a1 : Nat) (hs1 : S[a1]? = some (1, 240, []))  (s : Int32 × mz_N) {C0 : (mz_N) → Prop} (hr : ∀ (N2 : mz_N), C0 N2 → Q (.inl none) (mz_k S R N2 b t)) {C1 : ((Int32 × mz_N) ⊕ (mz_N)) → Prop} (hc1 : ∀ s2, C1 (.inl s2) → mz_G (d, mz_X0 L xs, none, [], mk_513, 3, Q) 25 mt_513_25 [(0, .ref 232), (1, .ref a1), (2, .int s2.1)] [] false (mz_k S R s2.2 b t)) (hx1 : ∀ z, C1 (.inr z) → C0 z) (hp : cd_513_25 a1 s) (hC : C1 (cq_513_25 a1 s)) : mz_G (d, mz_X0 L xs, none, [], mk_513, 3, Q) 25 mt_513_25 [(0, .ref 232), (1, .ref a1), (2, .int s.1)] [] false (mz_k S R s.2 b t) := by
  unfold cq_513_25 at hC
  unfold cd_513_25 at hp
  refine g_iload_n rfl (g_sipush mzs_240 ?_)
  refine g_icge (tg := 64) rfl ms_513_64 hC (fun h1 hC => ?_) (fun h1 hC => ?_)
  · have hp := hp.1 h1
    refine g_aload_n rfl (g_getR (mz_at hS (Nat.le_of_ble_eq_true rfl) mzcS_232) mzcf_12_6 (mz_rb hR (Nat.le_of_ble_eq_true rfl) rfl mzcR_232_6) (g_iload_n rfl ?_))
    obtain ⟨h2, hp⟩ := hp
    refine g_iald hS.1 (mz_at hS (Nat.le_of_ble_eq_true rfl) mzcS_235) h2 ?_
    refine g_iflt (tg := 58) rfl ms_513_58 hC (fun h3 hC => ?_) (fun h3 hC => ?_)
    · have hp := hp.1 h3
      refine g_weak ?_ (g_cl (cg_513_58 hd hS hR a1 hs1 s.1 s.2 hr hc1 hx1 hp hC))
      exact ⟨rfl, rfl, rfl, trivial⟩
    · have hp := hp.2 h3
      refine g_aload_n rfl (g_getR (mz_at hS (Nat.le_of_ble_eq_true rfl) mzcS_232) mzcf_12_158 (mz_rb hR (Nat.le_of_ble_eq_true rfl) rfl mzcR_232_158) (g_aload_n rfl (g_getR (mz_at hS (Nat.le_of_ble_eq_true rfl) mzcS_232) mzcf_12_6 (mz_rb hR (Nat.le_of_ble_eq_true rfl) rfl mzcR_232_6) (g_iload_n rfl ?_))))
      obtain ⟨h4, hp⟩ := hp
      refine g_iald hS.1 (mz_at hS (Nat.le_of_ble_eq_true rfl) mzcS_235) h4 (g_dup2 rfl rfl ?_)
      obtain ⟨h5, hp⟩ := hp
      refine g_lald (mz_at hS (Nat.le_of_ble_eq_true rfl) mzcS_340) h5 (g_aload_n rfl (g_iload_n rfl ?_))
      obtain ⟨h6, hp⟩ := hp
      refine g_lald hs1 h6 (g_ladd ?_)
      obtain ⟨h7, hp⟩ := hp
      refine g_last (mz_at hS (Nat.le_of_ble_eq_true rfl) mzcS_340) h7 ?_
      refine g_weak ?_ (g_cl (cg_513_58 hd hS hR a1 hs1 s.1 (mz_wL s.2 340 (mz_gI s.2 235 s.1) ((mz_gL s.2 340 (mz_gI s.2 235 s.1)) + (mz_gL s.2 a1 s.1))) hr hc1 hx1 hp hC))
      exact ⟨rfl, rfl, rfl, trivial⟩
  · have hp := hp.2 h1
    exact g_vret rfl (hr _ (hx1 _ hC))
theorem cg_513_25 (hd : 0 ≤ d) (hS : mz_extR S 342) (hR : mz_rok R 342) (a1 : Nat) (hs1 : S[a1]? = some (1, 240, [])) (v2 : Int32) (N : mz_N) {C0 : (mz_N) → Prop} (hr : ∀ (N2 : mz_N), C0 N2 → Q (.inl none) (mz_k S R N2 b t)) (hp : cp_513_25 a1 v2 N) (hC : C0 (cf_513_25 a1 v2 N)) : mz_G (d, mz_X0 L xs, none, [], mk_513, 3, Q) 25 mt_513_25 [(0, .ref 232), (1, .ref a1), (2, .int v2)] [] false (mz_k S R N b t) := by
  obtain ⟨n, hn⟩ := hp
  exact g_loop (G := fun s => mz_G (d, mz_X0 L xs, none, [], mk_513, 3, Q) 25 mt_513_25 [(0, .ref 232), (1, .ref a1), (2, .int s.1)] [] false (mz_k S R s.2 b t)) (C := C0) (fun C2 hc hx s hP hC => cb_513_25 hd hS hR a1 hs1 s hr hc hx hP hC) n (v2, N) hn hC
theorem cb_513_2 (hd : 0 ≤ d) (hS : mz_extR S 342) (hR : mz_rok R 342) (a1 : Nat) (hs1 : S[a1]? = some (1, 240, []))  (s : Int32 × mz_N) {C0 : (mz_N) → Prop} (hr : ∀ (N2 : mz_N), C0 N2 → Q (.inl none) (mz_k S R N2 b t)) {C1 : ((Int32 × mz_N) ⊕ (mz_N)) → Prop} (hc1 : ∀ s2, C1 (.inl s2) → mz_G (d, mz_X0 L xs, none, [], mk_513, 3, Q) 2 mt_513_2 [(0, .ref 232), (1, .ref a1), (2, .int s2.1)] [] false (mz_k S R s2.2 b t)) (hx1 : ∀ z, C1 (.inr z) → C0 z) (hp : cd_513_2 a1 s) (hC : C1 (cq_513_2 a1 s)) : mz_G (d, mz_X0 L xs, none, [], mk_513, 3, Q) 2 mt_513_2 [(0, .ref 232), (1, .ref a1), (2, .int s.1)] [] false (mz_k S R s.2 b t) := by
  unfold cq_513_2 at hC
  unfold cd_513_2 at hp
  refine g_iload_n rfl (g_aload_n rfl (g_getI (mz_at hS (Nat.le_of_ble_eq_true rfl) mzcS_232) mzcf_12_7 ?_))
  refine g_icge (tg := 23) rfl ms_513_23 hC (fun h1 hC => ?_) (fun h1 hC => ?_)
  · have hp := hp.1 h1
    refine g_aload_n rfl (g_getR (mz_at hS (Nat.le_of_ble_eq_true rfl) mzcS_232) mzcf_12_158 (mz_rb hR (Nat.le_of_ble_eq_true rfl) rfl mzcR_232_158) (g_iload_n rfl (g_lconst mzl_0 ?_)))
    have h2 := hp
    refine g_last (mz_at hS (Nat.le_of_ble_eq_true rfl) mzcS_340) h2 (g_iinc rfl mzi_1 (Nat.le_of_ble_eq_true rfl) rfl (g_goto (tg := 2) rfl ms_513_2 ?_))
    refine g_weak ?_ (g_cl (hc1 ((s.1 + 1), mz_wL s.2 340 s.1 0) hC))
    exact ⟨rfl, rfl, rfl, trivial⟩
  · have hp := hp.2 h1
    refine g_iconst mzi_0 (g_istore_n (Nat.le_of_ble_eq_true rfl) rfl ?_)
    refine g_weak ?_ (g_cl (cg_513_25 hd hS hR a1 hs1 0 s.2 hr hp (hx1 _ hC)))
    exact ⟨rfl, rfl, rfl, trivial⟩
theorem cg_513_2 (hd : 0 ≤ d) (hS : mz_extR S 342) (hR : mz_rok R 342) (a1 : Nat) (hs1 : S[a1]? = some (1, 240, [])) (v2 : Int32) (N : mz_N) {C0 : (mz_N) → Prop} (hr : ∀ (N2 : mz_N), C0 N2 → Q (.inl none) (mz_k S R N2 b t)) (hp : cp_513_2 a1 v2 N) (hC : C0 (cf_513_2 a1 v2 N)) : mz_G (d, mz_X0 L xs, none, [], mk_513, 3, Q) 2 mt_513_2 [(0, .ref 232), (1, .ref a1), (2, .int v2)] [] false (mz_k S R N b t) := by
  obtain ⟨n, hn⟩ := hp
  exact g_loop (G := fun s => mz_G (d, mz_X0 L xs, none, [], mk_513, 3, Q) 2 mt_513_2 [(0, .ref 232), (1, .ref a1), (2, .int s.1)] [] false (mz_k S R s.2 b t)) (C := C0) (fun C2 hc hx s hP hC => cb_513_2 hd hS hR a1 hs1 s hr hc hx hP hC) n (v2, N) hn hC
theorem cg_513_0 (hd : 0 ≤ d) (hS : mz_extR S 342) (hR : mz_rok R 342) (a1 : Nat) (hs1 : S[a1]? = some (1, 240, [])) (N : mz_N) {C0 : (mz_N) → Prop} (hr : ∀ (N2 : mz_N), C0 N2 → Q (.inl none) (mz_k S R N2 b t)) (hp : cp_513_0 a1 N) (hC : C0 (cf_513_0 a1 N)) : mz_G (d, mz_X0 L xs, none, [], mk_513, 3, Q) 0 mk_513 [(0, .ref 232), (1, .ref a1)] [] true (mz_k S R N b t) := by
  unfold cf_513_0 at hC
  unfold cp_513_0 at hp
  refine g_iconst mzi_0 (g_istore_n (Nat.le_of_ble_eq_true rfl) rfl ?_)
  refine g_weak ?_ (g_cl (cg_513_2 hd hS hR a1 hs1 0 N hr hp hC))
  exact ⟨rfl, rfl, rfl, trivial⟩
theorem cs_513 (hd : 1 ≤ d) (hS : mz_extR S 342) (hR : mz_rok R 342) (a1 : Nat) (hs1 : S[a1]? = some (1, 240, [])) (N : mz_N) (hp : cp_513_0 a1 N) (hq : Q (.inl none) (mz_k S R (cf_513_0 a1 N) b t)) : mz_Ed (mz_X0 L xs) d 513 [.ref 232, .ref a1] (mz_k S R N b t) Q :=
  by
  refine g_in mzq_513 (Nat.le_of_ble_eq_true rfl) (Nat.le_of_ble_eq_true rfl) (Nat.le_trans (Nat.le_of_ble_eq_true rfl) hd) ?_
  refine g_weak ?_ (cg_513_0 (d := d - 1) (by omega) hS hR a1 hs1 N (C0 := fun z => Q (.inl none) (mz_k S R z b t)) (fun _ h => h) hp hq)
  exact ⟨rfl, rfl, trivial⟩
/-! 512 KeptHouseModel.nameAll (I)V -/
theorem ms_512_0 : mz_sf mk_512 0 = mk_512 := mz_sf_zero _
theorem ms_512_12 : mz_sf mk_512 12 = mt_512_12 := mz_sf_add ms_512_0 (t := 12) rfl rfl
theorem ms_512_45 : mz_sf mk_512 45 = mt_512_45 := mz_sf_add ms_512_12 (t := 33) rfl rfl
theorem ms_512_49 : mz_sf mk_512 49 = mt_512_49 := mz_sf_add ms_512_45 (t := 4) rfl rfl
theorem ms_512_50 : mz_sf mk_512 50 = mt_512_50 := mz_sf_add ms_512_49 (t := 1) rfl rfl
theorem ms_512_57 : mz_sf mk_512 57 = mt_512_57 := mz_sf_add ms_512_50 (t := 7) rfl rfl
theorem ms_512_59 : mz_sf mk_512 59 = mt_512_59 := mz_sf_add ms_512_57 (t := 2) rfl rfl
theorem ms_512_113 : mz_sf mk_512 113 = mt_512_113 := mz_sf_add ms_512_59 (t := 54) rfl rfl
theorem ms_512_114 : mz_sf mk_512 114 = mt_512_114 := mz_sf_add ms_512_113 (t := 1) rfl rfl
theorem ms_512_121 : mz_sf mk_512 121 = mt_512_121 := mz_sf_add ms_512_114 (t := 7) rfl rfl
theorem ms_512_131 : mz_sf mk_512 131 = mt_512_131 := mz_sf_add ms_512_121 (t := 10) rfl rfl
theorem ms_512_158 : mz_sf mk_512 158 = mt_512_158 := mz_sf_add ms_512_131 (t := 27) rfl rfl
theorem ms_512_188 : mz_sf mk_512 188 = mt_512_188 := mz_sf_add ms_512_158 (t := 30) rfl rfl
theorem ms_512_195 : mz_sf mk_512 195 = mt_512_195 := mz_sf_add ms_512_188 (t := 7) rfl rfl
theorem ms_512_205 : mz_sf mk_512 205 = mt_512_205 := mz_sf_add ms_512_195 (t := 10) rfl rfl
theorem ms_512_232 : mz_sf mk_512 232 = mt_512_232 := mz_sf_add ms_512_205 (t := 27) rfl rfl
theorem ms_512_258 : mz_sf mk_512 258 = mt_512_258 := mz_sf_add ms_512_232 (t := 26) rfl rfl
theorem ms_512_265 : mz_sf mk_512 265 = mt_512_265 := mz_sf_add ms_512_258 (t := 7) rfl rfl
theorem ms_512_279 : mz_sf mk_512 279 = mt_512_279 := mz_sf_add ms_512_265 (t := 14) rfl rfl
theorem ms_512_280 : mz_sf mk_512 280 = mt_512_280 := mz_sf_add ms_512_279 (t := 1) rfl rfl
theorem ms_512_304 : mz_sf mk_512 304 = mt_512_304 := mz_sf_add ms_512_280 (t := 24) rfl rfl
theorem ms_512_331 : mz_sf mk_512 331 = mt_512_331 := mz_sf_add ms_512_304 (t := 27) rfl rfl
theorem ms_512_341 : mz_sf mk_512 341 = mt_512_341 := mz_sf_add ms_512_331 (t := 10) rfl rfl
theorem ms_512_364 : mz_sf mk_512 364 = mt_512_364 := mz_sf_add ms_512_341 (t := 23) rfl rfl
theorem ms_512_370 : mz_sf mk_512 370 = mt_512_370 := mz_sf_add ms_512_364 (t := 6) rfl rfl
theorem ms_512_387 : mz_sf mk_512 387 = mt_512_387 := mz_sf_add ms_512_370 (t := 17) rfl rfl
theorem ms_512_388 : mz_sf mk_512 388 = mt_512_388 := mz_sf_add ms_512_387 (t := 1) rfl rfl
set_option maxRecDepth 100000 in
theorem mzq_512 : mz_PG0 512 = some (12, ⟨"KeptHouseModel", "nameAll", "(I)V"⟩, prog_14_method_78_code, 5, none, [], mk_512, []) := rfl
theorem cg_512_50 (hd : 1 ≤ d) (hS : mz_extR S 342) (hR : mz_rok R 342)  (s0 : Bool) (v1 : Int32) (v3 : Int32) (N : mz_N) {C0 : (mz_N) → Prop} (hr : ∀ (N2 : mz_N), C0 N2 → Q (.inl none) (mz_k S R N2 b t)) {C1 : ((Bool × Int32) ⊕ (mz_N)) → Prop} (hc1 : ∀ s2, C1 (.inl s2) → mz_G (d, mz_X0 L xs, none, [], mk_512, 5, Q) 12 mt_512_12 [(0, .ref 232), (1, .int v1), (2, .int (mz_b01 s2.1)), (3, .int s2.2)] [] false (mz_k S R N b t)) (hx1 : ∀ z, C1 (.inr z) → C0 z) (hp : cp_512_50 s0 v1 v3 N) (hC : C1 (cf_512_50 s0 v1 v3 N)) : mz_G (d, mz_X0 L xs, none, [], mk_512, 5, Q) 50 mt_512_50 [(0, .ref 232), (1, .int v1), (3, .int v3)] [.int (mz_b01 s0)] false (mz_k S R N b t) := by
  unfold cf_512_50 at hC
  unfold cp_512_50 at hp
  refine g_istore_n (Nat.le_of_ble_eq_true rfl) rfl (g_iinc rfl mzi_1 (Nat.le_of_ble_eq_true rfl) rfl (g_goto (tg := 12) rfl ms_512_12 ?_))
  refine g_weak ?_ (g_cl (hc1 (s0, (v3 + 1)) hC))
  exact ⟨rfl, rfl, rfl, rfl, trivial⟩
theorem cg_512_114 (hd : 1 ≤ d) (hS : mz_extR S 342) (hR : mz_rok R 342)  (s1 : Int32) (s2 : Int64) (v1 : Int32) (v2 : Bool) (v3 : Int32) (N : mz_N) {C0 : (mz_N) → Prop} (hr : ∀ (N2 : mz_N), C0 N2 → Q (.inl none) (mz_k S R N2 b t)) {C1 : ((Int32 × mz_N) ⊕ (mz_N)) → Prop} (hc1 : ∀ s2, C1 (.inl s2) → mz_G (d, mz_X0 L xs, none, [], mk_512, 5, Q) 59 mt_512_59 [(0, .ref 232), (1, .int v1), (2, .int (mz_b01 v2)), (3, .int s2.1)] [] false (mz_k S R s2.2 b t)) (hx1 : ∀ z, C1 (.inr z) → C0 z) (hp : cp_512_114 s1 s2 v1 v2 v3 N) (hC : C1 (cf_512_114 s1 s2 v1 v2 v3 N)) : mz_G (d, mz_X0 L xs, none, [], mk_512, 5, Q) 114 mt_512_114 [(0, .ref 232), (1, .int v1), (2, .int (mz_b01 v2)), (3, .int v3)] [.long s2, .int s1, .ref 258] false (mz_k S R N b t) := by
  unfold cf_512_114 at hC
  unfold cp_512_114 at hp
  have h1 := hp
  refine g_last (mz_at hS (Nat.le_of_ble_eq_true rfl) mzcS_258) h1 (g_iinc rfl mzi_1 (Nat.le_of_ble_eq_true rfl) rfl (g_goto (tg := 59) rfl ms_512_59 ?_))
  refine g_weak ?_ (g_cl (hc1 ((v3 + 1), mz_wL N 258 s1 s2) hC))
  exact ⟨rfl, rfl, rfl, rfl, trivial⟩
theorem cg_512_113 (hd : 1 ≤ d) (hS : mz_extR S 342) (hR : mz_rok R 342)  (s1 : Int32) (v1 : Int32) (v2 : Bool) (v3 : Int32) (N : mz_N) {C0 : (mz_N) → Prop} (hr : ∀ (N2 : mz_N), C0 N2 → Q (.inl none) (mz_k S R N2 b t)) {C1 : ((Int32 × mz_N) ⊕ (mz_N)) → Prop} (hc1 : ∀ s2, C1 (.inl s2) → mz_G (d, mz_X0 L xs, none, [], mk_512, 5, Q) 59 mt_512_59 [(0, .ref 232), (1, .int v1), (2, .int (mz_b01 v2)), (3, .int s2.1)] [] false (mz_k S R s2.2 b t)) (hx1 : ∀ z, C1 (.inr z) → C0 z) (hp : cp_512_113 s1 v1 v2 v3 N) (hC : C1 (cf_512_113 s1 v1 v2 v3 N)) : mz_G (d, mz_X0 L xs, none, [], mk_512, 5, Q) 113 mt_512_113 [(0, .ref 232), (1, .int v1), (2, .int (mz_b01 v2)), (3, .int v3)] [.int s1, .ref 258] false (mz_k S R N b t) := by
  unfold cf_512_113 at hC
  unfold cp_512_113 at hp
  refine g_lconst mzl_0 ?_
  refine g_weak ?_ (g_cl (cg_512_114 hd hS hR s1 0 v1 v2 v3 N hr hc1 hx1 hp hC))
  exact ⟨rfl, rfl, rfl, rfl, trivial⟩
theorem cg_512_188 (hd : 1 ≤ d) (hS : mz_extR S 342) (hR : mz_rok R 342)  (s1 : Int32) (s2 : Int64) (v1 : Int32) (v2 : Bool) (v3 : Int32) (N : mz_N) {C0 : (mz_N) → Prop} (hr : ∀ (N2 : mz_N), C0 N2 → Q (.inl none) (mz_k S R N2 b t)) {C1 : ((Int32 × mz_N) ⊕ (mz_N)) → Prop} (hc1 : ∀ s2, C1 (.inl s2) → mz_G (d, mz_X0 L xs, none, [], mk_512, 5, Q) 131 mt_512_131 [(0, .ref 232), (1, .int v1), (2, .int (mz_b01 v2)), (3, .int s2.1)] [] false (mz_k S R s2.2 b t)) (hx1 : ∀ z, C1 (.inr z) → C0 z) (hp : cp_512_188 s1 s2 v1 v2 v3 N) (hC : C1 (cf_512_188 s1 s2 v1 v2 v3 N)) : mz_G (d, mz_X0 L xs, none, [], mk_512, 5, Q) 188 mt_512_188 [(0, .ref 232), (1, .int v1), (2, .int (mz_b01 v2)), (3, .int v3)] [.long s2, .int s1, .ref 258] false (mz_k S R N b t) := by
  unfold cf_512_188 at hC
  unfold cp_512_188 at hp
  have h1 := hp
  refine g_last (mz_at hS (Nat.le_of_ble_eq_true rfl) mzcS_258) h1 (g_iinc rfl mzi_1 (Nat.le_of_ble_eq_true rfl) rfl (g_goto (tg := 131) rfl ms_512_131 ?_))
  refine g_weak ?_ (g_cl (hc1 ((v3 + 1), mz_wL N 258 s1 s2) hC))
  exact ⟨rfl, rfl, rfl, rfl, trivial⟩
theorem cg_512_388 (hd : 1 ≤ d) (hS : mz_extR S 342) (hR : mz_rok R 342)  (s1 : Int32) (s2 : Int64) (N : mz_N) {C0 : (mz_N) → Prop} (hr : ∀ (N2 : mz_N), C0 N2 → Q (.inl none) (mz_k S R N2 b t)) (hp : cp_512_388 s1 s2 N) (hC : C0 (cf_512_388 s1 s2 N)) : mz_G (d, mz_X0 L xs, none, [], mk_512, 5, Q) 388 mt_512_388 [] [.long s2, .int s1, .ref 258] false (mz_k S R N b t) := by
  unfold cf_512_388 at hC
  unfold cp_512_388 at hp
  have h1 := hp
  refine g_last (mz_at hS (Nat.le_of_ble_eq_true rfl) mzcS_258) h1 ?_
  exact g_vret rfl (hr _ hC)
theorem cb_512_341 (hd : 1 ≤ d) (hS : mz_extR S 342) (hR : mz_rok R 342)   (s : Int32 × mz_N) {C0 : (mz_N) → Prop} (hr : ∀ (N2 : mz_N), C0 N2 → Q (.inl none) (mz_k S R N2 b t)) {C1 : ((Int32 × mz_N) ⊕ (mz_N)) → Prop} (hc1 : ∀ s2, C1 (.inl s2) → mz_G (d, mz_X0 L xs, none, [], mk_512, 5, Q) 341 mt_512_341 [(0, .ref 232), (3, .int s2.1)] [] false (mz_k S R s2.2 b t)) (hx1 : ∀ z, C1 (.inr z) → C0 z) (hp : cd_512_341  s) (hC : C1 (cq_512_341  s)) : mz_G (d, mz_X0 L xs, none, [], mk_512, 5, Q) 341 mt_512_341 [(0, .ref 232), (3, .int s.1)] [] false (mz_k S R s.2 b t) := by
  unfold cq_512_341 at hC
  unfold cd_512_341 at hp
  refine g_iload_n rfl (g_bipush mzb_11 ?_)
  refine g_icge (tg := 370) rfl ms_512_370 hC (fun h1 hC => ?_) (fun h1 hC => ?_)
  · have hp := hp.1 h1
    refine g_aload_n rfl (g_getR (mz_at hS (Nat.le_of_ble_eq_true rfl) mzcS_232) mzcf_12_38 (mz_rb hR (Nat.le_of_ble_eq_true rfl) rfl mzcR_232_38) (g_bipush mzb_51 (g_dup2 rfl rfl (g_lald (mz_at hS (Nat.le_of_ble_eq_true rfl) mzcS_258) (mz_ibd (by decide)) (g_aload_n rfl (g_getR (mz_at hS (Nat.le_of_ble_eq_true rfl) mzcS_232) mzcf_12_56 (mz_rb hR (Nat.le_of_ble_eq_true rfl) rfl mzcR_232_56) (g_iload_n rfl ?_)))))))
    have h2 := hp
    refine g_iald hS.1 (mz_at hS (Nat.le_of_ble_eq_true rfl) mzcS_272) h2 (g_i2l (g_ladd (g_last (mz_at hS (Nat.le_of_ble_eq_true rfl) mzcS_258) (mz_ibd (by decide)) (g_iinc rfl mzi_1 (Nat.le_of_ble_eq_true rfl) rfl (g_goto (tg := 341) rfl ms_512_341 ?_)))))
    refine g_weak ?_ (g_cl (hc1 ((s.1 + 1), mz_wL s.2 258 51 ((mz_gL s.2 258 51) + ((mz_gI s.2 272 s.1).toInt64))) hC))
    exact ⟨rfl, rfl, trivial⟩
  · have hp := hp.2 h1
    refine g_aload_n rfl (g_getR (mz_at hS (Nat.le_of_ble_eq_true rfl) mzcS_232) mzcf_12_38 (mz_rb hR (Nat.le_of_ble_eq_true rfl) rfl mzcR_232_38) (g_bipush mzb_52 (g_aload_n rfl ?_)))
    obtain ⟨h3, hp⟩ := hp
    refine g_getZ (mz_at hS (Nat.le_of_ble_eq_true rfl) mzcS_232) mzcf_12_52 h3 ?_
    refine g_zeq (tg := 387) rfl ms_512_387 hC (fun h4 hC => ?_) (fun h4 hC => ?_)
    · have hp := hp.1 h4
      refine g_lconst mzl_1 (g_goto (tg := 388) rfl ms_512_388 ?_)
      refine g_weak ?_ (g_cl (cg_512_388 hd hS hR 52 1 s.2 hr hp (hx1 _ hC)))
      exact trivial
    · have hp := hp.2 h4
      refine g_lconst mzl_0 ?_
      refine g_weak ?_ (g_cl (cg_512_388 hd hS hR 52 0 s.2 hr hp (hx1 _ hC)))
      exact trivial
theorem cg_512_341 (hd : 1 ≤ d) (hS : mz_extR S 342) (hR : mz_rok R 342)  (v3 : Int32) (N : mz_N) {C0 : (mz_N) → Prop} (hr : ∀ (N2 : mz_N), C0 N2 → Q (.inl none) (mz_k S R N2 b t)) (hp : cp_512_341 v3 N) (hC : C0 (cf_512_341 v3 N)) : mz_G (d, mz_X0 L xs, none, [], mk_512, 5, Q) 341 mt_512_341 [(0, .ref 232), (3, .int v3)] [] false (mz_k S R N b t) := by
  obtain ⟨n, hn⟩ := hp
  exact g_loop (G := fun s => mz_G (d, mz_X0 L xs, none, [], mk_512, 5, Q) 341 mt_512_341 [(0, .ref 232), (3, .int s.1)] [] false (mz_k S R s.2 b t)) (C := C0) (fun C2 hc hx s hP hC => cb_512_341 hd hS hR  s hr hc hx hP hC) n (v3, N) hn hC
theorem cg_512_331 (hd : 1 ≤ d) (hS : mz_extR S 342) (hR : mz_rok R 342)  (N : mz_N) {C0 : (mz_N) → Prop} (hr : ∀ (N2 : mz_N), C0 N2 → Q (.inl none) (mz_k S R N2 b t)) (hp : cp_512_331 N) (hC : C0 (cf_512_331 N)) : mz_G (d, mz_X0 L xs, none, [], mk_512, 5, Q) 331 mt_512_331 [(0, .ref 232)] [] false (mz_k S R N b t) := by
  unfold cf_512_331 at hC
  unfold cp_512_331 at hp
  refine g_aload_n rfl (g_getR (mz_at hS (Nat.le_of_ble_eq_true rfl) mzcS_232) mzcf_12_38 (mz_rb hR (Nat.le_of_ble_eq_true rfl) rfl mzcR_232_38) (g_bipush mzb_51 (g_lconst mzl_0 (g_last (mz_at hS (Nat.le_of_ble_eq_true rfl) mzcS_258) (mz_ibd (by decide)) (g_iconst mzi_0 (g_istore_n (Nat.le_of_ble_eq_true rfl) rfl ?_))))))
  refine g_weak ?_ (g_cl (cg_512_341 hd hS hR 0 (mz_wL N 258 51 0) hr hp hC))
  exact ⟨rfl, rfl, trivial⟩
theorem cg_512_304 (hd : 1 ≤ d) (hS : mz_extR S 342) (hR : mz_rok R 342)  (N : mz_N) {C0 : (mz_N) → Prop} (hr : ∀ (N2 : mz_N), C0 N2 → Q (.inl none) (mz_k S R N2 b t)) (hp : cp_512_304 N) (hC : C0 (cf_512_304 N)) : mz_G (d, mz_X0 L xs, none, [], mk_512, 5, Q) 304 mt_512_304 [(0, .ref 232)] [] false (mz_k S R N b t) := by
  unfold cf_512_304 at hC
  unfold cp_512_304 at hp
  refine g_aload_n rfl (g_getR (mz_at hS (Nat.le_of_ble_eq_true rfl) mzcS_232) mzcf_12_38 (mz_rb hR (Nat.le_of_ble_eq_true rfl) rfl mzcR_232_38) (g_bipush mzb_49 (g_aload_n rfl (g_getL (mz_at hS (Nat.le_of_ble_eq_true rfl) mzcS_232) mzcf_12_2 (g_con3 (g_lrem (by decide) (g_last (mz_at hS (Nat.le_of_ble_eq_true rfl) mzcS_258) (mz_ibd (by decide)) ?_)))))))
  refine g_aload_n rfl (g_getR (mz_at hS (Nat.le_of_ble_eq_true rfl) mzcS_232) mzcf_12_38 (mz_rb hR (Nat.le_of_ble_eq_true rfl) rfl mzcR_232_38) (g_bipush mzb_50 (g_aload_n rfl (g_getI (mz_at hS (Nat.le_of_ble_eq_true rfl) mzcS_232) mzcf_12_61 (g_i2l (g_last (mz_at hS (Nat.le_of_ble_eq_true rfl) mzcS_258) (mz_ibd (by decide)) ?_))))))
  refine g_weak ?_ (g_cl (cg_512_331 hd hS hR (mz_wL (mz_wL N 258 49 (mz_lrem (N.2 232 2) 240)) 258 50 (((mz_wL N 258 49 (mz_lrem (N.2 232 2) 240)).1 232 61).toInt64)) hr hp hC))
  exact ⟨rfl, trivial⟩
theorem cg_512_280 (hd : 1 ≤ d) (hS : mz_extR S 342) (hR : mz_rok R 342)  (s1 : Int32) (s2 : Int64) (v1 : Int32) (N : mz_N) {C0 : (mz_N) → Prop} (hr : ∀ (N2 : mz_N), C0 N2 → Q (.inl none) (mz_k S R N2 b t)) (hp : cp_512_280 s1 s2 v1 N) (hC : C0 (cf_512_280 s1 s2 v1 N)) : mz_G (d, mz_X0 L xs, none, [], mk_512, 5, Q) 280 mt_512_280 [(0, .ref 232), (1, .int v1)] [.long s2, .int s1, .ref 258] false (mz_k S R N b t) := by
  unfold cf_512_280 at hC
  unfold cp_512_280 at hp
  obtain ⟨h1, hp⟩ := hp
  refine g_last (mz_at hS (Nat.le_of_ble_eq_true rfl) mzcS_258) h1 (g_aload_n rfl (g_getR (mz_at hS (Nat.le_of_ble_eq_true rfl) mzcS_232) mzcf_12_38 (mz_rb hR (Nat.le_of_ble_eq_true rfl) rfl mzcR_232_38) (g_bipush mzb_47 (g_aload_n rfl (g_getR (mz_at hS (Nat.le_of_ble_eq_true rfl) mzcS_232) mzcf_12_17 (mz_rb hR (Nat.le_of_ble_eq_true rfl) rfl mzcR_232_17) (g_iload_n rfl ?_))))))
  obtain ⟨h2, hp⟩ := hp
  refine g_iald hS.1 (mz_at hS (Nat.le_of_ble_eq_true rfl) mzcS_245) h2 (g_i2l (g_last (mz_at hS (Nat.le_of_ble_eq_true rfl) mzcS_258) (mz_ibd (by decide)) (g_aload_n rfl (g_getR (mz_at hS (Nat.le_of_ble_eq_true rfl) mzcS_232) mzcf_12_38 (mz_rb hR (Nat.le_of_ble_eq_true rfl) rfl mzcR_232_38) (g_bipush mzb_48 (g_iload_n rfl (g_i2l ?_)))))))
  refine g_last (mz_at hS (Nat.le_of_ble_eq_true rfl) mzcS_258) (mz_ibd (by decide)) ?_
  refine g_weak ?_ (g_cl (cg_512_304 hd hS hR (mz_wL (mz_wL (mz_wL N 258 s1 s2) 258 47 ((mz_gI (mz_wL N 258 s1 s2) 245 v1).toInt64)) 258 48 v1.toInt64) hr hp hC))
  exact ⟨rfl, trivial⟩
theorem cg_512_258 (hd : 1 ≤ d) (hS : mz_extR S 342) (hR : mz_rok R 342)  (s1 : Int32) (s2 : Int64) (v1 : Int32) (v2 : Bool) (v3 : Int32) (N : mz_N) {C0 : (mz_N) → Prop} (hr : ∀ (N2 : mz_N), C0 N2 → Q (.inl none) (mz_k S R N2 b t)) {C1 : ((Int32 × mz_N) ⊕ (mz_N)) → Prop} (hc1 : ∀ s2, C1 (.inl s2) → mz_G (d, mz_X0 L xs, none, [], mk_512, 5, Q) 205 mt_512_205 [(0, .ref 232), (1, .int v1), (2, .int (mz_b01 v2)), (3, .int s2.1)] [] false (mz_k S R s2.2 b t)) (hx1 : ∀ z, C1 (.inr z) → C0 z) (hp : cp_512_258 s1 s2 v1 v2 v3 N) (hC : C1 (cf_512_258 s1 s2 v1 v2 v3 N)) : mz_G (d, mz_X0 L xs, none, [], mk_512, 5, Q) 258 mt_512_258 [(0, .ref 232), (1, .int v1), (2, .int (mz_b01 v2)), (3, .int v3)] [.long s2, .int s1, .ref 258] false (mz_k S R N b t) := by
  unfold cf_512_258 at hC
  unfold cp_512_258 at hp
  have h1 := hp
  refine g_last (mz_at hS (Nat.le_of_ble_eq_true rfl) mzcS_258) h1 (g_iinc rfl mzi_1 (Nat.le_of_ble_eq_true rfl) rfl (g_goto (tg := 205) rfl ms_512_205 ?_))
  refine g_weak ?_ (g_cl (hc1 ((v3 + 1), mz_wL N 258 s1 s2) hC))
  exact ⟨rfl, rfl, rfl, rfl, trivial⟩
theorem cb_512_205 (hd : 1 ≤ d) (hS : mz_extR S 342) (hR : mz_rok R 342)  (v1 : Int32) (v2 : Bool) (s : Int32 × mz_N) {C0 : (mz_N) → Prop} (hr : ∀ (N2 : mz_N), C0 N2 → Q (.inl none) (mz_k S R N2 b t)) {C1 : ((Int32 × mz_N) ⊕ (mz_N)) → Prop} (hc1 : ∀ s2, C1 (.inl s2) → mz_G (d, mz_X0 L xs, none, [], mk_512, 5, Q) 205 mt_512_205 [(0, .ref 232), (1, .int v1), (2, .int (mz_b01 v2)), (3, .int s2.1)] [] false (mz_k S R s2.2 b t)) (hx1 : ∀ z, C1 (.inr z) → C0 z) (hp : cd_512_205 v1 v2 s) (hC : C1 (cq_512_205 v1 v2 s)) : mz_G (d, mz_X0 L xs, none, [], mk_512, 5, Q) 205 mt_512_205 [(0, .ref 232), (1, .int v1), (2, .int (mz_b01 v2)), (3, .int s.1)] [] false (mz_k S R s.2 b t) := by
  unfold cq_512_205 at hC
  unfold cd_512_205 at hp
  refine g_iload_n rfl (g_bipush mzb_10 ?_)
  refine g_icge (tg := 265) rfl ms_512_265 hC (fun h1 hC => ?_) (fun h1 hC => ?_)
  · have hp := hp.1 h1
    refine g_aload_n rfl (g_getR (mz_at hS (Nat.le_of_ble_eq_true rfl) mzcS_232) mzcf_12_38 (mz_rb hR (Nat.le_of_ble_eq_true rfl) rfl mzcR_232_38) (g_bipush mzb_26 (g_iload_n rfl (g_iadd (g_aload_n rfl (g_getR (mz_at hS (Nat.le_of_ble_eq_true rfl) mzcS_232) mzcf_12_14 (mz_rb hR (Nat.le_of_ble_eq_true rfl) rfl mzcR_232_14) (g_iload_n rfl ?_)))))))
    obtain ⟨h2, hp⟩ := hp
    refine g_iald hS.1 (mz_at hS (Nat.le_of_ble_eq_true rfl) mzcS_242) h2 ?_
    refine g_ifge (tg := 232) rfl ms_512_232 hC (fun h3 hC => ?_) (fun h3 hC => ?_)
    · have hp := hp.1 h3
      refine g_lconst mzl_0 (g_goto (tg := 258) rfl ms_512_258 ?_)
      refine g_weak ?_ (g_cl (cg_512_258 hd hS hR (26 + s.1) 0 v1 v2 s.1 s.2 hr hc1 hx1 hp hC))
      exact ⟨rfl, rfl, rfl, rfl, trivial⟩
    · have hp := hp.2 h3
      refine g_aload_n rfl (g_getR (mz_at hS (Nat.le_of_ble_eq_true rfl) mzcS_232) mzcf_12_158 (mz_rb hR (Nat.le_of_ble_eq_true rfl) rfl mzcR_232_158) (g_aload_n rfl (g_getR (mz_at hS (Nat.le_of_ble_eq_true rfl) mzcS_232) mzcf_12_14 (mz_rb hR (Nat.le_of_ble_eq_true rfl) rfl mzcR_232_14) (g_iload_n rfl ?_))))
      obtain ⟨h4, hp⟩ := hp
      refine g_iald hS.1 (mz_at hS (Nat.le_of_ble_eq_true rfl) mzcS_242) h4 ?_
      obtain ⟨h5, hp⟩ := hp
      refine g_lald (mz_at hS (Nat.le_of_ble_eq_true rfl) mzcS_340) h5 (g_aload_n rfl (g_getR (mz_at hS (Nat.le_of_ble_eq_true rfl) mzcS_232) mzcf_12_9 (mz_rb hR (Nat.le_of_ble_eq_true rfl) rfl mzcR_232_9) (g_aload_n rfl (g_getR (mz_at hS (Nat.le_of_ble_eq_true rfl) mzcS_232) mzcf_12_14 (mz_rb hR (Nat.le_of_ble_eq_true rfl) rfl mzcR_232_14) (g_iload_n rfl ?_)))))
      obtain ⟨h6, hp⟩ := hp
      refine g_iald hS.1 (mz_at hS (Nat.le_of_ble_eq_true rfl) mzcS_242) h6 ?_
      obtain ⟨h7, hp⟩ := hp
      refine g_iald hS.1 (mz_at hS (Nat.le_of_ble_eq_true rfl) mzcS_237) h7 (g_i2l ?_)
      obtain ⟨h8, hp⟩ := hp
      refine g_s2v (Nat.le_of_ble_eq_true rfl) (fun _ hq => cs_489 (Nat.le_trans (Nat.le_of_ble_eq_true rfl) hd) (hS.le (Nat.le_of_ble_eq_true rfl)) (hR.le (Nat.le_of_ble_eq_true rfl))  (mz_gL s.2 340 (mz_gI s.2 242 s.1)) ((mz_gI s.2 237 (mz_gI s.2 242 s.1)).toInt64) h8 hq) ?_
      refine g_weak ?_ (g_cl (cg_512_258 hd hS hR (26 + s.1) (cf_489_0 (mz_gL s.2 340 (mz_gI s.2 242 s.1)) ((mz_gI s.2 237 (mz_gI s.2 242 s.1)).toInt64)) v1 v2 s.1 s.2 hr hc1 hx1 hp hC))
      exact ⟨rfl, rfl, rfl, rfl, trivial⟩
  · have hp := hp.2 h1
    refine g_aload_n rfl (g_getR (mz_at hS (Nat.le_of_ble_eq_true rfl) mzcS_232) mzcf_12_38 (mz_rb hR (Nat.le_of_ble_eq_true rfl) rfl mzcR_232_38) (g_bipush mzb_46 (g_iload_n rfl ?_)))
    refine g_zeq (tg := 279) rfl ms_512_279 hC (fun h9 hC => ?_) (fun h9 hC => ?_)
    · have hp := hp.1 h9
      refine g_lconst mzl_1 (g_goto (tg := 280) rfl ms_512_280 ?_)
      refine g_weak ?_ (g_cl (cg_512_280 hd hS hR 46 1 v1 s.2 hr hp (hx1 _ hC)))
      exact ⟨rfl, rfl, trivial⟩
    · have hp := hp.2 h9
      refine g_lconst mzl_0 ?_
      refine g_weak ?_ (g_cl (cg_512_280 hd hS hR 46 0 v1 s.2 hr hp (hx1 _ hC)))
      exact ⟨rfl, rfl, trivial⟩
theorem cg_512_205 (hd : 1 ≤ d) (hS : mz_extR S 342) (hR : mz_rok R 342)  (v1 : Int32) (v2 : Bool) (v3 : Int32) (N : mz_N) {C0 : (mz_N) → Prop} (hr : ∀ (N2 : mz_N), C0 N2 → Q (.inl none) (mz_k S R N2 b t)) (hp : cp_512_205 v1 v2 v3 N) (hC : C0 (cf_512_205 v1 v2 v3 N)) : mz_G (d, mz_X0 L xs, none, [], mk_512, 5, Q) 205 mt_512_205 [(0, .ref 232), (1, .int v1), (2, .int (mz_b01 v2)), (3, .int v3)] [] false (mz_k S R N b t) := by
  obtain ⟨n, hn⟩ := hp
  exact g_loop (G := fun s => mz_G (d, mz_X0 L xs, none, [], mk_512, 5, Q) 205 mt_512_205 [(0, .ref 232), (1, .int v1), (2, .int (mz_b01 v2)), (3, .int s.1)] [] false (mz_k S R s.2 b t)) (C := C0) (fun C2 hc hx s hP hC => cb_512_205 hd hS hR v1 v2 s hr hc hx hP hC) n (v3, N) hn hC
theorem cb_512_131 (hd : 1 ≤ d) (hS : mz_extR S 342) (hR : mz_rok R 342)  (v1 : Int32) (v2 : Bool) (s : Int32 × mz_N) {C0 : (mz_N) → Prop} (hr : ∀ (N2 : mz_N), C0 N2 → Q (.inl none) (mz_k S R N2 b t)) {C1 : ((Int32 × mz_N) ⊕ (mz_N)) → Prop} (hc1 : ∀ s2, C1 (.inl s2) → mz_G (d, mz_X0 L xs, none, [], mk_512, 5, Q) 131 mt_512_131 [(0, .ref 232), (1, .int v1), (2, .int (mz_b01 v2)), (3, .int s2.1)] [] false (mz_k S R s2.2 b t)) (hx1 : ∀ z, C1 (.inr z) → C0 z) (hp : cd_512_131 v1 v2 s) (hC : C1 (cq_512_131 v1 v2 s)) : mz_G (d, mz_X0 L xs, none, [], mk_512, 5, Q) 131 mt_512_131 [(0, .ref 232), (1, .int v1), (2, .int (mz_b01 v2)), (3, .int s.1)] [] false (mz_k S R s.2 b t) := by
  unfold cq_512_131 at hC
  unfold cd_512_131 at hp
  refine g_iload_n rfl (g_bipush mzb_10 ?_)
  refine g_icge (tg := 195) rfl ms_512_195 hC (fun h1 hC => ?_) (fun h1 hC => ?_)
  · have hp := hp.1 h1
    refine g_aload_n rfl (g_getR (mz_at hS (Nat.le_of_ble_eq_true rfl) mzcS_232) mzcf_12_38 (mz_rb hR (Nat.le_of_ble_eq_true rfl) rfl mzcR_232_38) (g_bipush mzb_16 (g_iload_n rfl (g_iadd (g_aload_n rfl (g_getR (mz_at hS (Nat.le_of_ble_eq_true rfl) mzcS_232) mzcf_12_14 (mz_rb hR (Nat.le_of_ble_eq_true rfl) rfl mzcR_232_14) (g_iload_n rfl ?_)))))))
    obtain ⟨h2, hp⟩ := hp
    refine g_iald hS.1 (mz_at hS (Nat.le_of_ble_eq_true rfl) mzcS_242) h2 ?_
    refine g_ifge (tg := 158) rfl ms_512_158 hC (fun h3 hC => ?_) (fun h3 hC => ?_)
    · have hp := hp.1 h3
      refine g_lconst mzl_0 (g_goto (tg := 188) rfl ms_512_188 ?_)
      refine g_weak ?_ (g_cl (cg_512_188 hd hS hR (16 + s.1) 0 v1 v2 s.1 s.2 hr hc1 hx1 hp hC))
      exact ⟨rfl, rfl, rfl, rfl, trivial⟩
    · have hp := hp.2 h3
      refine g_aload_n rfl (g_getR (mz_at hS (Nat.le_of_ble_eq_true rfl) mzcS_232) mzcf_12_158 (mz_rb hR (Nat.le_of_ble_eq_true rfl) rfl mzcR_232_158) (g_aload_n rfl (g_getR (mz_at hS (Nat.le_of_ble_eq_true rfl) mzcS_232) mzcf_12_14 (mz_rb hR (Nat.le_of_ble_eq_true rfl) rfl mzcR_232_14) (g_iload_n rfl ?_))))
      obtain ⟨h4, hp⟩ := hp
      refine g_iald hS.1 (mz_at hS (Nat.le_of_ble_eq_true rfl) mzcS_242) h4 ?_
      obtain ⟨h5, hp⟩ := hp
      refine g_lald (mz_at hS (Nat.le_of_ble_eq_true rfl) mzcS_340) h5 (g_con3 (g_aload_n rfl (g_getR (mz_at hS (Nat.le_of_ble_eq_true rfl) mzcS_232) mzcf_12_9 (mz_rb hR (Nat.le_of_ble_eq_true rfl) rfl mzcR_232_9) (g_aload_n rfl (g_getR (mz_at hS (Nat.le_of_ble_eq_true rfl) mzcS_232) mzcf_12_14 (mz_rb hR (Nat.le_of_ble_eq_true rfl) rfl mzcR_232_14) (g_iload_n rfl ?_))))))
      obtain ⟨h6, hp⟩ := hp
      refine g_iald hS.1 (mz_at hS (Nat.le_of_ble_eq_true rfl) mzcS_242) h6 ?_
      obtain ⟨h7, hp⟩ := hp
      refine g_iald hS.1 (mz_at hS (Nat.le_of_ble_eq_true rfl) mzcS_237) h7 (g_i2l (g_lmul ?_))
      obtain ⟨h8, hp⟩ := hp
      refine g_s2v (Nat.le_of_ble_eq_true rfl) (fun _ hq => cs_489 (Nat.le_trans (Nat.le_of_ble_eq_true rfl) hd) (hS.le (Nat.le_of_ble_eq_true rfl)) (hR.le (Nat.le_of_ble_eq_true rfl))  (mz_gL s.2 340 (mz_gI s.2 242 s.1)) (100 * ((mz_gI s.2 237 (mz_gI s.2 242 s.1)).toInt64)) h8 hq) ?_
      refine g_weak ?_ (g_cl (cg_512_188 hd hS hR (16 + s.1) (cf_489_0 (mz_gL s.2 340 (mz_gI s.2 242 s.1)) (100 * ((mz_gI s.2 237 (mz_gI s.2 242 s.1)).toInt64))) v1 v2 s.1 s.2 hr hc1 hx1 hp hC))
      exact ⟨rfl, rfl, rfl, rfl, trivial⟩
  · have hp := hp.2 h1
    refine g_aload_n rfl (g_aload_n rfl (g_getR (mz_at hS (Nat.le_of_ble_eq_true rfl) mzcS_232) mzcf_12_41 (mz_rb hR (Nat.le_of_ble_eq_true rfl) rfl mzcR_232_41) ?_))
    obtain ⟨h9, hp⟩ := hp
    refine g_v2n (Nat.le_of_ble_eq_true rfl) (mz_at hS (Nat.le_of_ble_eq_true rfl) mzcS_232) (fun _ hq => cs_513 (Nat.le_trans (Nat.le_of_ble_eq_true rfl) hd) (hS.le (Nat.le_of_ble_eq_true rfl)) (hR.le (Nat.le_of_ble_eq_true rfl)) 261 (mz_at hS (Nat.le_of_ble_eq_true rfl) mzcS_261) s.2 h9 hq) (g_iconst mzi_0 (g_istore_n (Nat.le_of_ble_eq_true rfl) rfl ?_))
    refine g_weak ?_ (g_cl (cg_512_205 hd hS hR v1 v2 0 (cf_513_0 261 s.2) hr hp (hx1 _ hC)))
    exact ⟨rfl, rfl, rfl, rfl, trivial⟩
theorem cg_512_131 (hd : 1 ≤ d) (hS : mz_extR S 342) (hR : mz_rok R 342)  (v1 : Int32) (v2 : Bool) (v3 : Int32) (N : mz_N) {C0 : (mz_N) → Prop} (hr : ∀ (N2 : mz_N), C0 N2 → Q (.inl none) (mz_k S R N2 b t)) (hp : cp_512_131 v1 v2 v3 N) (hC : C0 (cf_512_131 v1 v2 v3 N)) : mz_G (d, mz_X0 L xs, none, [], mk_512, 5, Q) 131 mt_512_131 [(0, .ref 232), (1, .int v1), (2, .int (mz_b01 v2)), (3, .int v3)] [] false (mz_k S R N b t) := by
  obtain ⟨n, hn⟩ := hp
  exact g_loop (G := fun s => mz_G (d, mz_X0 L xs, none, [], mk_512, 5, Q) 131 mt_512_131 [(0, .ref 232), (1, .int v1), (2, .int (mz_b01 v2)), (3, .int s.1)] [] false (mz_k S R s.2 b t)) (C := C0) (fun C2 hc hx s hP hC => cb_512_131 hd hS hR v1 v2 s hr hc hx hP hC) n (v3, N) hn hC
theorem cb_512_59 (hd : 1 ≤ d) (hS : mz_extR S 342) (hR : mz_rok R 342)  (v1 : Int32) (v2 : Bool) (s : Int32 × mz_N) {C0 : (mz_N) → Prop} (hr : ∀ (N2 : mz_N), C0 N2 → Q (.inl none) (mz_k S R N2 b t)) {C1 : ((Int32 × mz_N) ⊕ (mz_N)) → Prop} (hc1 : ∀ s2, C1 (.inl s2) → mz_G (d, mz_X0 L xs, none, [], mk_512, 5, Q) 59 mt_512_59 [(0, .ref 232), (1, .int v1), (2, .int (mz_b01 v2)), (3, .int s2.1)] [] false (mz_k S R s2.2 b t)) (hx1 : ∀ z, C1 (.inr z) → C0 z) (hp : cd_512_59 v1 v2 s) (hC : C1 (cq_512_59 v1 v2 s)) : mz_G (d, mz_X0 L xs, none, [], mk_512, 5, Q) 59 mt_512_59 [(0, .ref 232), (1, .int v1), (2, .int (mz_b01 v2)), (3, .int s.1)] [] false (mz_k S R s.2 b t) := by
  unfold cq_512_59 at hC
  unfold cd_512_59 at hp
  refine g_iload_n rfl (g_bipush mzb_10 ?_)
  refine g_icge (tg := 121) rfl ms_512_121 hC (fun h1 hC => ?_) (fun h1 hC => ?_)
  · have hp := hp.1 h1
    refine g_aload_n rfl (g_getR (mz_at hS (Nat.le_of_ble_eq_true rfl) mzcS_232) mzcf_12_14 (mz_rb hR (Nat.le_of_ble_eq_true rfl) rfl mzcR_232_14) (g_iload_n rfl ?_))
    obtain ⟨h2, hp⟩ := hp
    refine g_iald hS.1 (mz_at hS (Nat.le_of_ble_eq_true rfl) mzcS_242) h2 (g_istore (Nat.le_of_ble_eq_true rfl) rfl (g_aload_n rfl (g_getR (mz_at hS (Nat.le_of_ble_eq_true rfl) mzcS_232) mzcf_12_38 (mz_rb hR (Nat.le_of_ble_eq_true rfl) rfl mzcR_232_38) (g_bipush mzb_36 (g_iload_n rfl (g_iadd (g_iload rfl ?_)))))))
    refine g_iflt (tg := 113) rfl ms_512_113 hC (fun h3 hC => ?_) (fun h3 hC => ?_)
    · have hp := hp.1 h3
      refine g_weak ?_ (g_cl (cg_512_113 hd hS hR (36 + s.1) v1 v2 s.1 s.2 hr hc1 hx1 hp hC))
      exact ⟨rfl, rfl, rfl, rfl, trivial⟩
    · have hp := hp.2 h3
      refine g_aload_n rfl (g_getR (mz_at hS (Nat.le_of_ble_eq_true rfl) mzcS_232) mzcf_12_158 (mz_rb hR (Nat.le_of_ble_eq_true rfl) rfl mzcR_232_158) (g_iload rfl ?_))
      obtain ⟨h4, hp⟩ := hp
      refine g_lald (mz_at hS (Nat.le_of_ble_eq_true rfl) mzcS_340) h4 (g_con3 (g_aload_n rfl (g_getR (mz_at hS (Nat.le_of_ble_eq_true rfl) mzcS_232) mzcf_12_9 (mz_rb hR (Nat.le_of_ble_eq_true rfl) rfl mzcR_232_9) (g_iload rfl ?_))))
      obtain ⟨h5, hp⟩ := hp
      refine g_iald hS.1 (mz_at hS (Nat.le_of_ble_eq_true rfl) mzcS_237) h5 (g_i2l (g_lmul (g_lcmp ?_)))
      refine g_lle (tg := 113) rfl ms_512_113 hC (fun h6 hC => ?_) (fun h6 hC => ?_)
      · have hp := hp.1 h6
        refine g_lconst mzl_1 (g_goto (tg := 114) rfl ms_512_114 ?_)
        refine g_weak ?_ (g_cl (cg_512_114 hd hS hR (36 + s.1) 1 v1 v2 s.1 s.2 hr hc1 hx1 hp hC))
        exact ⟨rfl, rfl, rfl, rfl, trivial⟩
      · have hp := hp.2 h6
        refine g_weak ?_ (g_cl (cg_512_113 hd hS hR (36 + s.1) v1 v2 s.1 s.2 hr hc1 hx1 hp hC))
        exact ⟨rfl, rfl, rfl, rfl, trivial⟩
  · have hp := hp.2 h1
    refine g_aload_n rfl (g_aload_n rfl (g_getR (mz_at hS (Nat.le_of_ble_eq_true rfl) mzcS_232) mzcf_12_40 (mz_rb hR (Nat.le_of_ble_eq_true rfl) rfl mzcR_232_40) ?_))
    obtain ⟨h7, hp⟩ := hp
    refine g_v2n (Nat.le_of_ble_eq_true rfl) (mz_at hS (Nat.le_of_ble_eq_true rfl) mzcS_232) (fun _ hq => cs_513 (Nat.le_trans (Nat.le_of_ble_eq_true rfl) hd) (hS.le (Nat.le_of_ble_eq_true rfl)) (hR.le (Nat.le_of_ble_eq_true rfl)) 260 (mz_at hS (Nat.le_of_ble_eq_true rfl) mzcS_260) s.2 h7 hq) (g_iconst mzi_0 (g_istore_n (Nat.le_of_ble_eq_true rfl) rfl ?_))
    refine g_weak ?_ (g_cl (cg_512_131 hd hS hR v1 v2 0 (cf_513_0 260 s.2) hr hp (hx1 _ hC)))
    exact ⟨rfl, rfl, rfl, rfl, trivial⟩
theorem cg_512_59 (hd : 1 ≤ d) (hS : mz_extR S 342) (hR : mz_rok R 342)  (v1 : Int32) (v2 : Bool) (v3 : Int32) (N : mz_N) {C0 : (mz_N) → Prop} (hr : ∀ (N2 : mz_N), C0 N2 → Q (.inl none) (mz_k S R N2 b t)) (hp : cp_512_59 v1 v2 v3 N) (hC : C0 (cf_512_59 v1 v2 v3 N)) : mz_G (d, mz_X0 L xs, none, [], mk_512, 5, Q) 59 mt_512_59 [(0, .ref 232), (1, .int v1), (2, .int (mz_b01 v2)), (3, .int v3)] [] false (mz_k S R N b t) := by
  obtain ⟨n, hn⟩ := hp
  exact g_loop (G := fun s => mz_G (d, mz_X0 L xs, none, [], mk_512, 5, Q) 59 mt_512_59 [(0, .ref 232), (1, .int v1), (2, .int (mz_b01 v2)), (3, .int s.1)] [] false (mz_k S R s.2 b t)) (C := C0) (fun C2 hc hx s hP hC => cb_512_59 hd hS hR v1 v2 s hr hc hx hP hC) n (v3, N) hn hC
theorem cg_512_45 (hd : 1 ≤ d) (hS : mz_extR S 342) (hR : mz_rok R 342)  (v1 : Int32) (v3 : Int32) (N : mz_N) {C0 : (mz_N) → Prop} (hr : ∀ (N2 : mz_N), C0 N2 → Q (.inl none) (mz_k S R N2 b t)) {C1 : ((Bool × Int32) ⊕ (mz_N)) → Prop} (hc1 : ∀ s2, C1 (.inl s2) → mz_G (d, mz_X0 L xs, none, [], mk_512, 5, Q) 12 mt_512_12 [(0, .ref 232), (1, .int v1), (2, .int (mz_b01 s2.1)), (3, .int s2.2)] [] false (mz_k S R N b t)) (hx1 : ∀ z, C1 (.inr z) → C0 z) (hp : cp_512_45 v1 v3 N) (hC : C1 (cf_512_45 v1 v3 N)) : mz_G (d, mz_X0 L xs, none, [], mk_512, 5, Q) 45 mt_512_45 [(0, .ref 232), (1, .int v1), (3, .int v3)] [] false (mz_k S R N b t) := by
  unfold cf_512_45 at hC
  unfold cp_512_45 at hp
  refine g_iconst mzi_1 (g_goto (tg := 50) rfl ms_512_50 ?_)
  refine g_weak ?_ (g_cl (cg_512_50 hd hS hR true v1 v3 N hr hc1 hx1 hp hC))
  exact ⟨rfl, rfl, rfl, trivial⟩
theorem cb_512_12 (hd : 1 ≤ d) (hS : mz_extR S 342) (hR : mz_rok R 342)  (v1 : Int32) (N : mz_N) (s : Bool × Int32) {C0 : (mz_N) → Prop} (hr : ∀ (N2 : mz_N), C0 N2 → Q (.inl none) (mz_k S R N2 b t)) {C1 : ((Bool × Int32) ⊕ (mz_N)) → Prop} (hc1 : ∀ s2, C1 (.inl s2) → mz_G (d, mz_X0 L xs, none, [], mk_512, 5, Q) 12 mt_512_12 [(0, .ref 232), (1, .int v1), (2, .int (mz_b01 s2.1)), (3, .int s2.2)] [] false (mz_k S R N b t)) (hx1 : ∀ z, C1 (.inr z) → C0 z) (hp : cd_512_12 v1 N s) (hC : C1 (cq_512_12 v1 N s)) : mz_G (d, mz_X0 L xs, none, [], mk_512, 5, Q) 12 mt_512_12 [(0, .ref 232), (1, .int v1), (2, .int (mz_b01 s.1)), (3, .int s.2)] [] false (mz_k S R N b t) := by
  unfold cq_512_12 at hC
  unfold cd_512_12 at hp
  refine g_iload_n rfl (g_aload_n rfl (g_getI (mz_at hS (Nat.le_of_ble_eq_true rfl) mzcS_232) mzcf_12_7 ?_))
  refine g_icge (tg := 57) rfl ms_512_57 hC (fun h1 hC => ?_) (fun h1 hC => ?_)
  · have hp := hp.1 h1
    refine g_iload_n rfl ?_
    refine g_zne (tg := 45) rfl ms_512_45 hC (fun h2 hC => ?_) (fun h2 hC => ?_)
    · have hp := hp.1 h2
      refine g_weak ?_ (g_cl (cg_512_45 hd hS hR v1 s.2 N hr hc1 hx1 hp hC))
      exact ⟨rfl, rfl, rfl, trivial⟩
    · have hp := hp.2 h2
      refine g_aload_n rfl (g_getR (mz_at hS (Nat.le_of_ble_eq_true rfl) mzcS_232) mzcf_12_158 (mz_rb hR (Nat.le_of_ble_eq_true rfl) rfl mzcR_232_158) (g_iload_n rfl ?_))
      obtain ⟨h3, hp⟩ := hp
      refine g_lald (mz_at hS (Nat.le_of_ble_eq_true rfl) mzcS_340) h3 (g_con3 (g_aload_n rfl (g_getR (mz_at hS (Nat.le_of_ble_eq_true rfl) mzcS_232) mzcf_12_9 (mz_rb hR (Nat.le_of_ble_eq_true rfl) rfl mzcR_232_9) (g_iload_n rfl ?_))))
      obtain ⟨h4, hp⟩ := hp
      refine g_iald hS.1 (mz_at hS (Nat.le_of_ble_eq_true rfl) mzcS_237) h4 (g_i2l (g_lmul (g_lcmp ?_)))
      refine g_lle (tg := 49) rfl ms_512_49 hC (fun h5 hC => ?_) (fun h5 hC => ?_)
      · have hp := hp.1 h5
        refine g_weak ?_ (g_cl (cg_512_45 hd hS hR v1 s.2 N hr hc1 hx1 hp hC))
        exact ⟨rfl, rfl, rfl, trivial⟩
      · have hp := hp.2 h5
        refine g_iconst mzi_0 ?_
        refine g_weak ?_ (g_cl (cg_512_50 hd hS hR false v1 s.2 N hr hc1 hx1 hp hC))
        exact ⟨rfl, rfl, rfl, trivial⟩
  · have hp := hp.2 h1
    refine g_iconst mzi_0 (g_istore_n (Nat.le_of_ble_eq_true rfl) rfl ?_)
    refine g_weak ?_ (g_cl (cg_512_59 hd hS hR v1 s.1 0 N hr hp (hx1 _ hC)))
    exact ⟨rfl, rfl, rfl, rfl, trivial⟩
theorem cg_512_12 (hd : 1 ≤ d) (hS : mz_extR S 342) (hR : mz_rok R 342)  (v1 : Int32) (v2 : Bool) (v3 : Int32) (N : mz_N) {C0 : (mz_N) → Prop} (hr : ∀ (N2 : mz_N), C0 N2 → Q (.inl none) (mz_k S R N2 b t)) (hp : cp_512_12 v1 v2 v3 N) (hC : C0 (cf_512_12 v1 v2 v3 N)) : mz_G (d, mz_X0 L xs, none, [], mk_512, 5, Q) 12 mt_512_12 [(0, .ref 232), (1, .int v1), (2, .int (mz_b01 v2)), (3, .int v3)] [] false (mz_k S R N b t) := by
  obtain ⟨n, hn⟩ := hp
  exact g_loop (G := fun s => mz_G (d, mz_X0 L xs, none, [], mk_512, 5, Q) 12 mt_512_12 [(0, .ref 232), (1, .int v1), (2, .int (mz_b01 s.1)), (3, .int s.2)] [] false (mz_k S R N b t)) (C := C0) (fun C2 hc hx s hP hC => cb_512_12 hd hS hR v1 N s hr hc hx hP hC) n (v2, v3) hn hC
theorem cg_512_0 (hd : 1 ≤ d) (hS : mz_extR S 342) (hR : mz_rok R 342)  (v1 : Int32) (N : mz_N) {C0 : (mz_N) → Prop} (hr : ∀ (N2 : mz_N), C0 N2 → Q (.inl none) (mz_k S R N2 b t)) (hp : cp_512_0 v1 N) (hC : C0 (cf_512_0 v1 N)) : mz_G (d, mz_X0 L xs, none, [], mk_512, 5, Q) 0 mk_512 [(0, .ref 232), (1, .int v1)] [] true (mz_k S R N b t) := by
  unfold cf_512_0 at hC
  unfold cp_512_0 at hp
  refine g_iconst mzi_0 (g_istore_n (Nat.le_of_ble_eq_true rfl) rfl (g_aload_n rfl (g_aload_n rfl (g_getR (mz_at hS (Nat.le_of_ble_eq_true rfl) mzcS_232) mzcf_12_45 (mz_rb hR (Nat.le_of_ble_eq_true rfl) rfl mzcR_232_45) ?_))))
  obtain ⟨h1, hp⟩ := hp
  refine g_v2n (Nat.le_of_ble_eq_true rfl) (mz_at hS (Nat.le_of_ble_eq_true rfl) mzcS_232) (fun _ hq => cs_513 (Nat.le_trans (Nat.le_of_ble_eq_true rfl) hd) (hS.le (Nat.le_of_ble_eq_true rfl)) (hR.le (Nat.le_of_ble_eq_true rfl)) 265 (mz_at hS (Nat.le_of_ble_eq_true rfl) mzcS_265) N h1 hq) (g_iconst mzi_0 (g_istore_n (Nat.le_of_ble_eq_true rfl) rfl ?_))
  refine g_weak ?_ (g_cl (cg_512_12 hd hS hR v1 false 0 (cf_513_0 265 N) hr hp hC))
  exact ⟨rfl, rfl, rfl, rfl, trivial⟩
theorem cs_512 (hd : 2 ≤ d) (hS : mz_extR S 342) (hR : mz_rok R 342)  (v1 : Int32) (N : mz_N) (hp : cp_512_0 v1 N) (hq : Q (.inl none) (mz_k S R (cf_512_0 v1 N) b t)) : mz_Ed (mz_X0 L xs) d 512 [.ref 232, .int v1] (mz_k S R N b t) Q :=
  by
  refine g_in mzq_512 (Nat.le_of_ble_eq_true rfl) (Nat.le_of_ble_eq_true rfl) (Nat.le_trans (Nat.le_of_ble_eq_true rfl) hd) ?_
  refine g_weak ?_ (cg_512_0 (d := d - 1) (by omega) hS hR v1 N (C0 := fun z => Q (.inl none) (mz_k S R z b t)) (fun _ h => h) hp hq)
  exact ⟨rfl, rfl, trivial⟩
/-! 515 KeptHouseModel.fit (J)J -/
theorem ms_515_0 : mz_sf mk_515 0 = mk_515 := mz_sf_zero _
theorem ms_515_14 : mz_sf mk_515 14 = mt_515_14 := mz_sf_add ms_515_0 (t := 14) rfl rfl
theorem ms_515_28 : mz_sf mk_515 28 = mt_515_28 := mz_sf_add ms_515_14 (t := 14) rfl rfl
theorem ms_515_29 : mz_sf mk_515 29 = mt_515_29 := mz_sf_add ms_515_28 (t := 1) rfl rfl
set_option maxRecDepth 100000 in
theorem mzq_515 : mz_PG0 515 = some (12, ⟨"KeptHouseModel", "fit", "(J)J"⟩, prog_14_method_73_code, 2, some .long, [], mk_515, []) := rfl
theorem cg_515_0 (hd : 0 ≤ d) (hS : mz_extR S 342) (hR : mz_rok R 342)  (v0 : Int64) {C0 : (Int64) → Prop} (hr : ∀ (w : Int64), C0 w → Q (.inl (some (.long w))) (mz_k S R N b t)) (hp : cp_515_0 v0) (hC : C0 (cf_515_0 v0)) : mz_G (d, mz_X0 L xs, some .long, [], mk_515, 2, Q) 0 mk_515 [(0, .long v0)] [] true (mz_k S R N b t) := by
  unfold cf_515_0 at hC
  unfold cp_515_0 at hp
  refine g_lload_n rfl (g_con3 (g_lcmp ?_))
  refine g_lle (tg := 14) rfl ms_515_14 hC (fun h1 hC => ?_) (fun h1 hC => ?_)
  · refine g_con3 (g_goto (tg := 29) rfl ms_515_29 ?_)
    exact g_lret rfl (hr _ hC)
  · refine g_lload_n rfl (g_con3 (g_lcmp ?_))
    refine g_lge (tg := 28) rfl ms_515_28 hC (fun h2 hC => ?_) (fun h2 hC => ?_)
    · refine g_con3 (g_goto (tg := 29) rfl ms_515_29 ?_)
      exact g_lret rfl (hr _ hC)
    · refine g_lload_n rfl ?_
      exact g_lret rfl (hr _ hC)
theorem cs_515 (hd : 1 ≤ d) (hS : mz_extR S 342) (hR : mz_rok R 342)  (v0 : Int64) (hp : cp_515_0 v0) (hq : Q (.inl (some (.long (cf_515_0 v0)))) (mz_k S R N b t)) : mz_Ed (mz_X0 L xs) d 515 [.long v0] (mz_k S R N b t) Q :=
  by
  refine g_in mzq_515 (Nat.le_of_ble_eq_true rfl) (Nat.le_of_ble_eq_true rfl) (Nat.le_trans (Nat.le_of_ble_eq_true rfl) hd) ?_
  refine g_weak ?_ (cg_515_0 (d := d - 1) (by omega) hS hR v0 (C0 := fun z => Q (.inl (some (.long z))) (mz_k S R N b t)) (fun _ h => h) hp hq)
  exact ⟨rfl, trivial⟩
/-! 514 KeptHouseModel.done (III)V -/
theorem ms_514_0 : mz_sf mk_514 0 = mk_514 := mz_sf_zero _
theorem ms_514_15 : mz_sf mk_514 15 = mt_514_15 := mz_sf_add ms_514_0 (t := 15) rfl rfl
theorem ms_514_16 : mz_sf mk_514 16 = mt_514_16 := mz_sf_add ms_514_15 (t := 1) rfl rfl
theorem ms_514_34 : mz_sf mk_514 34 = mt_514_34 := mz_sf_add ms_514_16 (t := 18) rfl rfl
theorem ms_514_35 : mz_sf mk_514 35 = mt_514_35 := mz_sf_add ms_514_34 (t := 1) rfl rfl
theorem ms_514_123 : mz_sf mk_514 123 = mt_514_123 := mz_sf_add ms_514_35 (t := 88) rfl rfl
theorem ms_514_144 : mz_sf mk_514 144 = mt_514_144 := mz_sf_add ms_514_123 (t := 21) rfl rfl
theorem ms_514_150 : mz_sf mk_514 150 = mt_514_150 := mz_sf_add ms_514_144 (t := 6) rfl rfl
theorem ms_514_154 : mz_sf mk_514 154 = mt_514_154 := mz_sf_add ms_514_150 (t := 4) rfl rfl
theorem ms_514_171 : mz_sf mk_514 171 = mt_514_171 := mz_sf_add ms_514_154 (t := 17) rfl rfl
theorem ms_514_196 : mz_sf mk_514 196 = mt_514_196 := mz_sf_add ms_514_171 (t := 25) rfl rfl
theorem ms_514_198 : mz_sf mk_514 198 = mt_514_198 := mz_sf_add ms_514_196 (t := 2) rfl rfl
theorem ms_514_202 : mz_sf mk_514 202 = mt_514_202 := mz_sf_add ms_514_198 (t := 4) rfl rfl
theorem ms_514_221 : mz_sf mk_514 221 = mt_514_221 := mz_sf_add ms_514_202 (t := 19) rfl rfl
theorem ms_514_240 : mz_sf mk_514 240 = mt_514_240 := mz_sf_add ms_514_221 (t := 19) rfl rfl
theorem ms_514_259 : mz_sf mk_514 259 = mt_514_259 := mz_sf_add ms_514_240 (t := 19) rfl rfl
theorem ms_514_278 : mz_sf mk_514 278 = mt_514_278 := mz_sf_add ms_514_259 (t := 19) rfl rfl
theorem ms_514_279 : mz_sf mk_514 279 = mt_514_279 := mz_sf_add ms_514_278 (t := 1) rfl rfl
theorem ms_514_283 : mz_sf mk_514 283 = mt_514_283 := mz_sf_add ms_514_279 (t := 4) rfl rfl
theorem ms_514_302 : mz_sf mk_514 302 = mt_514_302 := mz_sf_add ms_514_283 (t := 19) rfl rfl
theorem ms_514_303 : mz_sf mk_514 303 = mt_514_303 := mz_sf_add ms_514_302 (t := 1) rfl rfl
theorem ms_514_304 : mz_sf mk_514 304 = mt_514_304 := mz_sf_add ms_514_303 (t := 1) rfl rfl
set_option maxRecDepth 100000 in
theorem mzq_514 : mz_PG0 514 = some (12, ⟨"KeptHouseModel", "done", "(III)V"⟩, prog_14_method_74_code, 8, none, [], mk_514, []) := rfl
theorem cg_514_150 (hd : 1 ≤ d) (hS : mz_extR S 342) (hR : mz_rok R 342)  (s1 : Int32) (s2 : Int64) (N : mz_N) {C0 : (mz_N) → Prop} (hr : ∀ (N2 : mz_N), C0 N2 → Q (.inl none) (mz_k S R N2 b t)) (hp : cp_514_150 s1 s2 N) (hC : C0 (cf_514_150 s1 s2 N)) : mz_G (d, mz_X0 L xs, none, [], mk_514, 8, Q) 150 mt_514_150 [] [.long s2, .int s1, .ref 259] true (mz_k S R N b t) := by
  unfold cf_514_150 at hC
  unfold cp_514_150 at hp
  have h1 := hp
  refine g_last (mz_at hS (Nat.le_of_ble_eq_true rfl) mzcS_259) h1 (g_goto (tg := 304) rfl ms_514_304 ?_)
  exact g_vret rfl (hr _ hC)
theorem cg_514_279 (hd : 1 ≤ d) (hS : mz_extR S 342) (hR : mz_rok R 342)  (s1 : Int32) (s2 : Int64) (N : mz_N) {C0 : (mz_N) → Prop} (hr : ∀ (N2 : mz_N), C0 N2 → Q (.inl none) (mz_k S R N2 b t)) (hp : cp_514_279 s1 s2 N) (hC : C0 (cf_514_279 s1 s2 N)) : mz_G (d, mz_X0 L xs, none, [], mk_514, 8, Q) 279 mt_514_279 [] [.long s2, .int s1, .ref 259] true (mz_k S R N b t) := by
  unfold cf_514_279 at hC
  unfold cp_514_279 at hp
  have h1 := hp
  refine g_last (mz_at hS (Nat.le_of_ble_eq_true rfl) mzcS_259) h1 (g_goto (tg := 304) rfl ms_514_304 ?_)
  exact g_vret rfl (hr _ hC)
theorem cg_514_198 (hd : 1 ≤ d) (hS : mz_extR S 342) (hR : mz_rok R 342)  (s1 : Int32) (s2 : Int64) (N : mz_N) {C0 : (mz_N) → Prop} (hr : ∀ (N2 : mz_N), C0 N2 → Q (.inl none) (mz_k S R N2 b t)) (hp : cp_514_198 s1 s2 N) (hC : C0 (cf_514_198 s1 s2 N)) : mz_G (d, mz_X0 L xs, none, [], mk_514, 8, Q) 198 mt_514_198 [] [.long s2, .int s1, .ref 259] true (mz_k S R N b t) := by
  unfold cf_514_198 at hC
  unfold cp_514_198 at hp
  have h1 := hp
  refine g_last (mz_at hS (Nat.le_of_ble_eq_true rfl) mzcS_259) h1 (g_goto (tg := 304) rfl ms_514_304 ?_)
  exact g_vret rfl (hr _ hC)
theorem cg_514_303 (hd : 1 ≤ d) (hS : mz_extR S 342) (hR : mz_rok R 342)  (s1 : Int32) (s2 : Int64) (N : mz_N) {C0 : (mz_N) → Prop} (hr : ∀ (N2 : mz_N), C0 N2 → Q (.inl none) (mz_k S R N2 b t)) (hp : cp_514_303 s1 s2 N) (hC : C0 (cf_514_303 s1 s2 N)) : mz_G (d, mz_X0 L xs, none, [], mk_514, 8, Q) 303 mt_514_303 [] [.long s2, .int s1, .ref 259] true (mz_k S R N b t) := by
  unfold cf_514_303 at hC
  unfold cp_514_303 at hp
  have h1 := hp
  refine g_last (mz_at hS (Nat.le_of_ble_eq_true rfl) mzcS_259) h1 ?_
  exact g_vret rfl (hr _ hC)
theorem cg_514_35 (hd : 1 ≤ d) (hS : mz_extR S 342) (hR : mz_rok R 342)  (s0 : Int64) (v1 : Int32) (v2 : Int32) (v3 : Int32) (v4 : Int64) (N : mz_N) {C0 : (mz_N) → Prop} (hr : ∀ (N2 : mz_N), C0 N2 → Q (.inl none) (mz_k S R N2 b t)) (hp : cp_514_35 s0 v1 v2 v3 v4 N) (hC : C0 (cf_514_35 s0 v1 v2 v3 v4 N)) : mz_G (d, mz_X0 L xs, none, [], mk_514, 8, Q) 35 mt_514_35 [(0, .ref 232), (1, .int v1), (2, .int v2), (3, .int v3), (4, .long v4)] [.long s0] true (mz_k S R N b t) := by
  unfold cf_514_35 at hC
  unfold cp_514_35 at hp
  refine g_lstore (Nat.le_of_ble_eq_true rfl) rfl rfl (g_iload_n rfl ?_)
  refine mz_cs hC (fun h1 hC => ?_) (fun h1 hC => ?_)
  · have hp := hp.1 h1
    refine g_brn (tg := 112) (by rw [h1]; rfl) (by decide) rfl ?_
    refine g_aload_n rfl (g_getR (mz_at hS (Nat.le_of_ble_eq_true rfl) mzcS_232) mzcf_12_39 (mz_rb hR (Nat.le_of_ble_eq_true rfl) rfl mzcR_232_39) (g_iload_n rfl (g_iload_n rfl (g_i2l ?_))))
    have h24 := hp
    refine g_last (mz_at hS (Nat.le_of_ble_eq_true rfl) mzcS_259) h24 (g_goto (tg := 304) rfl ms_514_304 ?_)
    exact g_vret rfl (hr _ hC)
  · have hp := hp.2 h1
    refine mz_cs hC (fun h2 hC => ?_) (fun h2 hC => ?_)
    · have hp := hp.1 h2
      refine g_br (tg := 123) (by rw [h2]; rfl) ms_514_123 ?_
      refine g_aload_n rfl (g_getR (mz_at hS (Nat.le_of_ble_eq_true rfl) mzcS_232) mzcf_12_39 (mz_rb hR (Nat.le_of_ble_eq_true rfl) rfl mzcR_232_39) (g_iload_n rfl (g_iload_n rfl (g_bipush mzb_16 ?_))))
      refine g_icge (tg := 144) rfl ms_514_144 hC (fun h21 hC => ?_) (fun h21 hC => ?_)
      · have hp := hp.1 h21
        refine g_aload_n rfl (g_getR (mz_at hS (Nat.le_of_ble_eq_true rfl) mzcS_232) mzcf_12_37 (mz_rb hR (Nat.le_of_ble_eq_true rfl) rfl mzcR_232_37) (g_iload_n rfl ?_))
        obtain ⟨h22, hp⟩ := hp
        refine g_iald hS.1 (mz_at hS (Nat.le_of_ble_eq_true rfl) mzcS_257) h22 (g_i2l (g_goto (tg := 150) rfl ms_514_150 ?_))
        refine g_weak ?_ (cg_514_150 hd hS hR v3 ((mz_gI N 257 v2).toInt64) N hr hp hC)
        exact trivial
      · have hp := hp.2 h21
        refine g_aload_n rfl (g_getR (mz_at hS (Nat.le_of_ble_eq_true rfl) mzcS_232) mzcf_12_38 (mz_rb hR (Nat.le_of_ble_eq_true rfl) rfl mzcR_232_38) (g_iload_n rfl ?_))
        obtain ⟨h23, hp⟩ := hp
        refine g_lald (mz_at hS (Nat.le_of_ble_eq_true rfl) mzcS_258) h23 ?_
        refine g_weak ?_ (cg_514_150 hd hS hR v3 (mz_gL N 258 v2) N hr hp hC)
        exact trivial
    · have hp := hp.2 h2
      refine mz_cs hC (fun h3 hC => ?_) (fun h3 hC => ?_)
      · have hp := hp.1 h3
        refine g_br (tg := 154) (by rw [h3]; rfl) ms_514_154 ?_
        refine g_aload_n rfl (g_getR (mz_at hS (Nat.le_of_ble_eq_true rfl) mzcS_232) mzcf_12_39 (mz_rb hR (Nat.le_of_ble_eq_true rfl) rfl mzcR_232_39) (g_iload_n rfl (g_iconst mzi_1 (g_isub (g_lload rfl (g_lneg ?_))))))
        refine g_s1v (Nat.le_of_ble_eq_true rfl) (fun _ hq => cs_515 (Nat.le_trans (Nat.le_of_ble_eq_true rfl) hd) (hS.le (Nat.le_of_ble_eq_true rfl)) (hR.le (Nat.le_of_ble_eq_true rfl))  (-v4) trivial hq) ?_
        have h20 := hp
        refine g_last (mz_at hS (Nat.le_of_ble_eq_true rfl) mzcS_259) h20 (g_goto (tg := 304) rfl ms_514_304 ?_)
        exact g_vret rfl (hr _ hC)
      · have hp := hp.2 h3
        refine mz_cs hC (fun h4 hC => ?_) (fun h4 hC => ?_)
        · have hp := hp.1 h4
          refine g_br (tg := 171) (by rw [h4]; rfl) ms_514_171 ?_
          refine g_aload_n rfl (g_getR (mz_at hS (Nat.le_of_ble_eq_true rfl) mzcS_232) mzcf_12_39 (mz_rb hR (Nat.le_of_ble_eq_true rfl) rfl mzcR_232_39) (g_iload_n rfl (g_iconst mzi_3 (g_isub (g_aload_n rfl (g_getR (mz_at hS (Nat.le_of_ble_eq_true rfl) mzcS_232) mzcf_12_39 (mz_rb hR (Nat.le_of_ble_eq_true rfl) rfl mzcR_232_39) (g_iload_n rfl ?_)))))))
          refine g_iconst mzi_3 (g_isub ?_)
          obtain ⟨h17, hp⟩ := hp
          refine g_lald (mz_at hS (Nat.le_of_ble_eq_true rfl) mzcS_259) h17 (g_lconst mzl_0 (g_lcmp ?_))
          refine g_leq (tg := 196) rfl ms_514_196 hC (fun h18 hC => ?_) (fun h18 hC => ?_)
          · have hp := hp.1 h18
            refine g_lload rfl ?_
            refine g_weak ?_ (cg_514_198 hd hS hR (v3 - 3) v4 N hr hp hC)
            exact trivial
          · have hp := hp.2 h18
            refine g_lload rfl (g_goto (tg := 198) rfl ms_514_198 ?_)
            refine g_weak ?_ (cg_514_198 hd hS hR (v3 - 3) s0 N hr hp hC)
            exact trivial
        · have hp := hp.2 h4
          refine mz_cs hC (fun h5 hC => ?_) (fun h5 hC => ?_)
          · have hp := hp.1 h5
            refine g_br (tg := 202) (by rw [h5]; rfl) ms_514_202 ?_
            refine g_aload_n rfl (g_getR (mz_at hS (Nat.le_of_ble_eq_true rfl) mzcS_232) mzcf_12_39 (mz_rb hR (Nat.le_of_ble_eq_true rfl) rfl mzcR_232_39) (g_iload_n rfl (g_iconst mzi_2 (g_isub (g_lload rfl (g_lload rfl (g_lmul ?_)))))))
            refine g_s1v (Nat.le_of_ble_eq_true rfl) (fun _ hq => cs_515 (Nat.le_trans (Nat.le_of_ble_eq_true rfl) hd) (hS.le (Nat.le_of_ble_eq_true rfl)) (hR.le (Nat.le_of_ble_eq_true rfl))  (s0 * v4) trivial hq) ?_
            have h16 := hp
            refine g_last (mz_at hS (Nat.le_of_ble_eq_true rfl) mzcS_259) h16 (g_goto (tg := 304) rfl ms_514_304 ?_)
            exact g_vret rfl (hr _ hC)
          · have hp := hp.2 h5
            refine mz_cs hC (fun h6 hC => ?_) (fun h6 hC => ?_)
            · have hp := hp.1 h6
              refine g_br (tg := 221) (by rw [h6]; rfl) ms_514_221 ?_
              refine g_aload_n rfl (g_getR (mz_at hS (Nat.le_of_ble_eq_true rfl) mzcS_232) mzcf_12_39 (mz_rb hR (Nat.le_of_ble_eq_true rfl) rfl mzcR_232_39) (g_iload_n rfl (g_iconst mzi_2 (g_isub (g_lload rfl (g_lload rfl (g_ladd ?_)))))))
              refine g_s1v (Nat.le_of_ble_eq_true rfl) (fun _ hq => cs_515 (Nat.le_trans (Nat.le_of_ble_eq_true rfl) hd) (hS.le (Nat.le_of_ble_eq_true rfl)) (hR.le (Nat.le_of_ble_eq_true rfl))  (s0 + v4) trivial hq) ?_
              have h14 := hp
              refine g_last (mz_at hS (Nat.le_of_ble_eq_true rfl) mzcS_259) h14 (g_goto (tg := 304) rfl ms_514_304 ?_)
              exact g_vret rfl (hr _ hC)
            · have hp := hp.2 h6
              refine mz_cs hC (fun h7 hC => ?_) (fun h7 hC => ?_)
              · have hp := hp.1 h7
                refine g_br (tg := 240) (by rw [h7]; rfl) ms_514_240 ?_
                refine g_aload_n rfl (g_getR (mz_at hS (Nat.le_of_ble_eq_true rfl) mzcS_232) mzcf_12_39 (mz_rb hR (Nat.le_of_ble_eq_true rfl) rfl mzcR_232_39) (g_iload_n rfl (g_iconst mzi_2 (g_isub (g_lload rfl (g_lload rfl (g_lsub ?_)))))))
                refine g_s1v (Nat.le_of_ble_eq_true rfl) (fun _ hq => cs_515 (Nat.le_trans (Nat.le_of_ble_eq_true rfl) hd) (hS.le (Nat.le_of_ble_eq_true rfl)) (hR.le (Nat.le_of_ble_eq_true rfl))  (s0 - v4) trivial hq) ?_
                have h12 := hp
                refine g_last (mz_at hS (Nat.le_of_ble_eq_true rfl) mzcS_259) h12 (g_goto (tg := 304) rfl ms_514_304 ?_)
                exact g_vret rfl (hr _ hC)
              · have hp := hp.2 h7
                refine mz_cs hC (fun h8 hC => ?_) (fun h8 hC => ?_)
                · have hp := hp.1 h8
                  refine g_br (tg := 259) (by rw [h8]; rfl) ms_514_259 ?_
                  refine g_aload_n rfl (g_getR (mz_at hS (Nat.le_of_ble_eq_true rfl) mzcS_232) mzcf_12_39 (mz_rb hR (Nat.le_of_ble_eq_true rfl) rfl mzcR_232_39) (g_iload_n rfl (g_iconst mzi_2 (g_isub (g_lload rfl (g_lload rfl (g_lcmp ?_)))))))
                  refine g_lge (tg := 278) rfl ms_514_278 hC (fun h10 hC => ?_) (fun h10 hC => ?_)
                  · have hp := hp.1 h10
                    refine g_lconst mzl_1 (g_goto (tg := 279) rfl ms_514_279 ?_)
                    refine g_weak ?_ (cg_514_279 hd hS hR (v3 - 2) 1 N hr hp hC)
                    exact trivial
                  · have hp := hp.2 h10
                    refine g_lconst mzl_0 ?_
                    refine g_weak ?_ (cg_514_279 hd hS hR (v3 - 2) 0 N hr hp hC)
                    exact trivial
                · have hp := hp.2 h8
                  refine g_br (tg := 283) ((mz_lsw_d (l := [0, 1, 2, 3, 42, 43, 45, 60]) rfl (by intro x hx; simp [Op.lookupswitch.offset] at hx ⊢; omega) ⟨h1, h2, h3, h4, h5, h6, h7, h8, trivial⟩).trans (mz_tg_t rfl)) ms_514_283 ?_
                  refine g_aload_n rfl (g_getR (mz_at hS (Nat.le_of_ble_eq_true rfl) mzcS_232) mzcf_12_39 (mz_rb hR (Nat.le_of_ble_eq_true rfl) rfl mzcR_232_39) (g_iload_n rfl (g_iconst mzi_2 (g_isub (g_lload rfl (g_lload rfl (g_lcmp ?_)))))))
                  refine g_lle (tg := 302) rfl ms_514_302 hC (fun h9 hC => ?_) (fun h9 hC => ?_)
                  · have hp := hp.1 h9
                    refine g_lconst mzl_1 (g_goto (tg := 303) rfl ms_514_303 ?_)
                    refine g_weak ?_ (cg_514_303 hd hS hR (v3 - 2) 1 N hr hp hC)
                    exact trivial
                  · have hp := hp.2 h9
                    refine g_lconst mzl_0 ?_
                    refine g_weak ?_ (cg_514_303 hd hS hR (v3 - 2) 0 N hr hp hC)
                    exact trivial
theorem cg_514_16 (hd : 1 ≤ d) (hS : mz_extR S 342) (hR : mz_rok R 342)  (s0 : Int64) (v1 : Int32) (v2 : Int32) (v3 : Int32) (N : mz_N) {C0 : (mz_N) → Prop} (hr : ∀ (N2 : mz_N), C0 N2 → Q (.inl none) (mz_k S R N2 b t)) (hp : cp_514_16 s0 v1 v2 v3 N) (hC : C0 (cf_514_16 s0 v1 v2 v3 N)) : mz_G (d, mz_X0 L xs, none, [], mk_514, 8, Q) 16 mt_514_16 [(0, .ref 232), (1, .int v1), (2, .int v2), (3, .int v3)] [.long s0] true (mz_k S R N b t) := by
  unfold cf_514_16 at hC
  unfold cp_514_16 at hp
  refine g_lstore (Nat.le_of_ble_eq_true rfl) rfl rfl (g_iload_n rfl (g_iconst mzi_1 ?_))
  refine g_icle (tg := 34) rfl ms_514_34 hC (fun h1 hC => ?_) (fun h1 hC => ?_)
  · have hp := hp.1 h1
    refine g_aload_n rfl (g_getR (mz_at hS (Nat.le_of_ble_eq_true rfl) mzcS_232) mzcf_12_39 (mz_rb hR (Nat.le_of_ble_eq_true rfl) rfl mzcR_232_39) (g_iload_n rfl (g_iconst mzi_2 (g_isub ?_))))
    obtain ⟨h2, hp⟩ := hp
    refine g_lald (mz_at hS (Nat.le_of_ble_eq_true rfl) mzcS_259) h2 (g_goto (tg := 35) rfl ms_514_35 ?_)
    refine g_weak ?_ (cg_514_35 hd hS hR (mz_gL N 259 (v3 - 2)) v1 v2 v3 s0 N hr hp hC)
    exact ⟨rfl, rfl, rfl, rfl, rfl, trivial⟩
  · have hp := hp.2 h1
    refine g_lconst mzl_0 ?_
    refine g_weak ?_ (cg_514_35 hd hS hR 0 v1 v2 v3 s0 N hr hp hC)
    exact ⟨rfl, rfl, rfl, rfl, rfl, trivial⟩
theorem cg_514_0 (hd : 1 ≤ d) (hS : mz_extR S 342) (hR : mz_rok R 342)  (v1 : Int32) (v2 : Int32) (v3 : Int32) (N : mz_N) {C0 : (mz_N) → Prop} (hr : ∀ (N2 : mz_N), C0 N2 → Q (.inl none) (mz_k S R N2 b t)) (hp : cp_514_0 v1 v2 v3 N) (hC : C0 (cf_514_0 v1 v2 v3 N)) : mz_G (d, mz_X0 L xs, none, [], mk_514, 8, Q) 0 mk_514 [(0, .ref 232), (1, .int v1), (2, .int v2), (3, .int v3)] [] true (mz_k S R N b t) := by
  unfold cf_514_0 at hC
  unfold cp_514_0 at hp
  refine g_iload_n rfl ?_
  refine g_ifle (tg := 15) rfl ms_514_15 hC (fun h1 hC => ?_) (fun h1 hC => ?_)
  · have hp := hp.1 h1
    refine g_aload_n rfl (g_getR (mz_at hS (Nat.le_of_ble_eq_true rfl) mzcS_232) mzcf_12_39 (mz_rb hR (Nat.le_of_ble_eq_true rfl) rfl mzcR_232_39) (g_iload_n rfl (g_iconst mzi_1 (g_isub ?_))))
    obtain ⟨h2, hp⟩ := hp
    refine g_lald (mz_at hS (Nat.le_of_ble_eq_true rfl) mzcS_259) h2 (g_goto (tg := 16) rfl ms_514_16 ?_)
    refine g_weak ?_ (cg_514_16 hd hS hR (mz_gL N 259 (v3 - 1)) v1 v2 v3 N hr hp hC)
    exact ⟨rfl, rfl, rfl, rfl, trivial⟩
  · have hp := hp.2 h1
    refine g_lconst mzl_0 ?_
    refine g_weak ?_ (cg_514_16 hd hS hR 0 v1 v2 v3 N hr hp hC)
    exact ⟨rfl, rfl, rfl, rfl, trivial⟩
theorem cs_514 (hd : 2 ≤ d) (hS : mz_extR S 342) (hR : mz_rok R 342)  (v1 : Int32) (v2 : Int32) (v3 : Int32) (N : mz_N) (hp : cp_514_0 v1 v2 v3 N) (hq : Q (.inl none) (mz_k S R (cf_514_0 v1 v2 v3 N) b t)) : mz_Ed (mz_X0 L xs) d 514 [.ref 232, .int v1, .int v2, .int v3] (mz_k S R N b t) Q :=
  by
  refine g_in mzq_514 (Nat.le_of_ble_eq_true rfl) (Nat.le_of_ble_eq_true rfl) (Nat.le_trans (Nat.le_of_ble_eq_true rfl) hd) ?_
  refine g_weak ?_ (cg_514_0 (d := d - 1) (by omega) hS hR v1 v2 v3 N (C0 := fun z => Q (.inl none) (mz_k S R z b t)) (fun _ h => h) hp hq)
  exact ⟨rfl, rfl, rfl, rfl, trivial⟩
/-! 516 KeptHouseModel.change (I)I -/
theorem ms_516_0 : mz_sf mk_516 0 = mk_516 := mz_sf_zero _
theorem ms_516_9 : mz_sf mk_516 9 = mt_516_9 := mz_sf_add ms_516_0 (t := 9) rfl rfl
theorem ms_516_13 : mz_sf mk_516 13 = mt_516_13 := mz_sf_add ms_516_9 (t := 4) rfl rfl
theorem ms_516_22 : mz_sf mk_516 22 = mt_516_22 := mz_sf_add ms_516_13 (t := 9) rfl rfl
theorem ms_516_32 : mz_sf mk_516 32 = mt_516_32 := mz_sf_add ms_516_22 (t := 10) rfl rfl
theorem ms_516_33 : mz_sf mk_516 33 = mt_516_33 := mz_sf_add ms_516_32 (t := 1) rfl rfl
set_option maxRecDepth 100000 in
theorem mzq_516 : mz_PG0 516 = some (12, ⟨"KeptHouseModel", "change", "(I)I"⟩, prog_14_method_75_code, 1, some .int, [], mk_516, []) := rfl
theorem cg_516_0 (hd : 0 ≤ d) (hS : mz_extR S 342) (hR : mz_rok R 342)  (v0 : Int32) {C0 : (Int32) → Prop} (hr : ∀ (w : Int32), C0 w → Q (.inl (some (.int w))) (mz_k S R N b t)) (hp : cp_516_0 v0) (hC : C0 (cf_516_0 v0)) : mz_G (d, mz_X0 L xs, some .int, [], mk_516, 1, Q) 0 mk_516 [(0, .int v0)] [] true (mz_k S R N b t) := by
  unfold cf_516_0 at hC
  unfold cp_516_0 at hp
  refine g_iload_n rfl ?_
  refine g_ifeq (tg := 9) rfl ms_516_9 hC (fun h1 hC => ?_) (fun h1 hC => ?_)
  · refine g_iconst mzi_1 (g_goto (tg := 33) rfl ms_516_33 ?_)
    exact g_iret rfl (hr _ hC)
  · refine g_iload_n rfl (g_iconst mzi_1 ?_)
    refine g_icne (tg := 13) rfl ms_516_13 hC (fun h2 hC => ?_) (fun h2 hC => ?_)
    · refine g_iconst mzi_1 (g_goto (tg := 33) rfl ms_516_33 ?_)
      exact g_iret rfl (hr _ hC)
    · refine g_iload_n rfl (g_iconst mzi_2 ?_)
      refine g_icne (tg := 22) rfl ms_516_22 hC (fun h3 hC => ?_) (fun h3 hC => ?_)
      · refine g_iconst mzi_0 (g_goto (tg := 33) rfl ms_516_33 ?_)
        exact g_iret rfl (hr _ hC)
      · refine g_iload_n rfl (g_iconst mzi_3 ?_)
        refine g_icne (tg := 32) rfl ms_516_32 hC (fun h4 hC => ?_) (fun h4 hC => ?_)
        · refine g_bipush mzb_m2 (g_goto (tg := 33) rfl ms_516_33 ?_)
          exact g_iret rfl (hr _ hC)
        · refine g_iconst mzi_m1 ?_
          exact g_iret rfl (hr _ hC)
theorem cs_516 (hd : 1 ≤ d) (hS : mz_extR S 342) (hR : mz_rok R 342)  (v0 : Int32) (hp : cp_516_0 v0) (hq : Q (.inl (some (.int (cf_516_0 v0)))) (mz_k S R N b t)) : mz_Ed (mz_X0 L xs) d 516 [.int v0] (mz_k S R N b t) Q :=
  by
  refine g_in mzq_516 (Nat.le_of_ble_eq_true rfl) (Nat.le_of_ble_eq_true rfl) (Nat.le_trans (Nat.le_of_ble_eq_true rfl) hd) ?_
  refine g_weak ?_ (cg_516_0 (d := d - 1) (by omega) hS hR v0 (C0 := fun z => Q (.inl (some (.int z))) (mz_k S R N b t)) (fun _ h => h) hp hq)
  exact ⟨rfl, trivial⟩
/-! 517 KeptHouseModel.tell (IJ)V -/
theorem ms_517_0 : mz_sf mk_517 0 = mk_517 := mz_sf_zero _
theorem ms_517_24 : mz_sf mk_517 24 = mt_517_24 := mz_sf_add ms_517_0 (t := 24) rfl rfl
theorem ms_517_38 : mz_sf mk_517 38 = mt_517_38 := mz_sf_add ms_517_24 (t := 14) rfl rfl
theorem ms_517_40 : mz_sf mk_517 40 = mt_517_40 := mz_sf_add ms_517_38 (t := 2) rfl rfl
theorem ms_517_44 : mz_sf mk_517 44 = mt_517_44 := mz_sf_add ms_517_40 (t := 4) rfl rfl
theorem ms_517_65 : mz_sf mk_517 65 = mt_517_65 := mz_sf_add ms_517_44 (t := 21) rfl rfl
theorem ms_517_78 : mz_sf mk_517 78 = mt_517_78 := mz_sf_add ms_517_65 (t := 13) rfl rfl
theorem ms_517_80 : mz_sf mk_517 80 = mt_517_80 := mz_sf_add ms_517_78 (t := 2) rfl rfl
theorem ms_517_84 : mz_sf mk_517 84 = mt_517_84 := mz_sf_add ms_517_80 (t := 4) rfl rfl
theorem ms_517_99 : mz_sf mk_517 99 = mt_517_99 := mz_sf_add ms_517_84 (t := 15) rfl rfl
theorem ms_517_100 : mz_sf mk_517 100 = mt_517_100 := mz_sf_add ms_517_99 (t := 1) rfl rfl
theorem ms_517_101 : mz_sf mk_517 101 = mt_517_101 := mz_sf_add ms_517_100 (t := 1) rfl rfl
set_option maxRecDepth 100000 in
theorem mzq_517 : mz_PG0 517 = some (12, ⟨"KeptHouseModel", "tell", "(IJ)V"⟩, prog_14_method_76_code, 4, none, [], mk_517, []) := rfl
theorem cg_517_40 (hd : 0 ≤ d) (hS : mz_extR S 342) (hR : mz_rok R 342)  (s1 : Int32) (s2 : Int32) (N : mz_N) {C0 : (mz_N) → Prop} (hr : ∀ (N2 : mz_N), C0 N2 → Q (.inl none) (mz_k S R N2 b t)) (hp : cp_517_40 s1 s2 N) (hC : C0 (cf_517_40 s1 s2 N)) : mz_G (d, mz_X0 L xs, none, [], mk_517, 4, Q) 40 mt_517_40 [] [.int s2, .int s1, .ref 257] true (mz_k S R N b t) := by
  unfold cf_517_40 at hC
  unfold cp_517_40 at hp
  have h1 := hp
  refine g_iast (mz_at hS (Nat.le_of_ble_eq_true rfl) mzcS_257) h1 (g_goto (tg := 101) rfl ms_517_101 ?_)
  exact g_vret rfl (hr _ hC)
theorem cg_517_80 (hd : 0 ≤ d) (hS : mz_extR S 342) (hR : mz_rok R 342)  (s1 : Int32) (s2 : Int32) (N : mz_N) {C0 : (mz_N) → Prop} (hr : ∀ (N2 : mz_N), C0 N2 → Q (.inl none) (mz_k S R N2 b t)) (hp : cp_517_80 s1 s2 N) (hC : C0 (cf_517_80 s1 s2 N)) : mz_G (d, mz_X0 L xs, none, [], mk_517, 4, Q) 80 mt_517_80 [] [.int s2, .int s1, .ref 257] true (mz_k S R N b t) := by
  unfold cf_517_80 at hC
  unfold cp_517_80 at hp
  have h1 := hp
  refine g_iast (mz_at hS (Nat.le_of_ble_eq_true rfl) mzcS_257) h1 (g_goto (tg := 101) rfl ms_517_101 ?_)
  exact g_vret rfl (hr _ hC)
theorem cg_517_100 (hd : 0 ≤ d) (hS : mz_extR S 342) (hR : mz_rok R 342)  (s1 : Int32) (s2 : Bool) (N : mz_N) {C0 : (mz_N) → Prop} (hr : ∀ (N2 : mz_N), C0 N2 → Q (.inl none) (mz_k S R N2 b t)) (hp : cp_517_100 s1 s2 N) (hC : C0 (cf_517_100 s1 s2 N)) : mz_G (d, mz_X0 L xs, none, [], mk_517, 4, Q) 100 mt_517_100 [] [.int (mz_b01 s2), .int s1, .ref 257] true (mz_k S R N b t) := by
  unfold cf_517_100 at hC
  unfold cp_517_100 at hp
  have h1 := hp
  refine g_iast (mz_at hS (Nat.le_of_ble_eq_true rfl) mzcS_257) h1 ?_
  exact g_vret rfl (hr _ hC)
theorem cg_517_0 (hd : 0 ≤ d) (hS : mz_extR S 342) (hR : mz_rok R 342)  (v1 : Int32) (v2 : Int64) (N : mz_N) {C0 : (mz_N) → Prop} (hr : ∀ (N2 : mz_N), C0 N2 → Q (.inl none) (mz_k S R N2 b t)) (hp : cp_517_0 v1 v2 N) (hC : C0 (cf_517_0 v1 v2 N)) : mz_G (d, mz_X0 L xs, none, [], mk_517, 4, Q) 0 mk_517 [(0, .ref 232), (1, .int v1), (2, .long v2)] [] true (mz_k S R N b t) := by
  unfold cf_517_0 at hC
  unfold cp_517_0 at hp
  refine g_iload_n rfl (g_bipush mzb_10 ?_)
  refine g_icge (tg := 44) rfl ms_517_44 hC (fun h1 hC => ?_) (fun h1 hC => ?_)
  · have hp := hp.1 h1
    refine g_aload_n rfl (g_getR (mz_at hS (Nat.le_of_ble_eq_true rfl) mzcS_232) mzcf_12_37 (mz_rb hR (Nat.le_of_ble_eq_true rfl) rfl mzcR_232_37) (g_iload_n rfl (g_lload_n rfl (g_con3 (g_lcmp ?_)))))
    refine g_lge (tg := 24) rfl ms_517_24 hC (fun h2 hC => ?_) (fun h2 hC => ?_)
    · have hp := hp.1 h2
      refine g_bipush mzb_50 (g_goto (tg := 40) rfl ms_517_40 ?_)
      refine g_weak ?_ (cg_517_40 hd hS hR v1 50 N hr hp hC)
      exact trivial
    · have hp := hp.2 h2
      refine g_lload_n rfl (g_con3 (g_lcmp ?_))
      refine g_lle (tg := 38) rfl ms_517_38 hC (fun h3 hC => ?_) (fun h3 hC => ?_)
      · have hp := hp.1 h3
        refine g_sipush mzs_300 (g_goto (tg := 40) rfl ms_517_40 ?_)
        refine g_weak ?_ (cg_517_40 hd hS hR v1 300 N hr hp hC)
        exact trivial
      · have hp := hp.2 h3
        refine g_lload_n rfl (g_l2i ?_)
        refine g_weak ?_ (cg_517_40 hd hS hR v1 v2.toInt32 N hr hp hC)
        exact trivial
  · have hp := hp.2 h1
    refine g_iload_n rfl (g_bipush mzb_13 ?_)
    refine g_icne (tg := 84) rfl ms_517_84 hC (fun h4 hC => ?_) (fun h4 hC => ?_)
    · have hp := hp.1 h4
      refine g_aload_n rfl (g_getR (mz_at hS (Nat.le_of_ble_eq_true rfl) mzcS_232) mzcf_12_37 (mz_rb hR (Nat.le_of_ble_eq_true rfl) rfl mzcR_232_37) (g_iload_n rfl (g_lload_n rfl (g_lconst mzl_0 (g_lcmp ?_)))))
      refine g_lge (tg := 65) rfl ms_517_65 hC (fun h5 hC => ?_) (fun h5 hC => ?_)
      · have hp := hp.1 h5
        refine g_iconst mzi_0 (g_goto (tg := 80) rfl ms_517_80 ?_)
        refine g_weak ?_ (cg_517_80 hd hS hR v1 0 N hr hp hC)
        exact trivial
      · have hp := hp.2 h5
        refine g_lload_n rfl (g_con3 (g_lcmp ?_))
        refine g_lle (tg := 78) rfl ms_517_78 hC (fun h6 hC => ?_) (fun h6 hC => ?_)
        · have hp := hp.1 h6
          refine g_bipush mzb_9 (g_goto (tg := 80) rfl ms_517_80 ?_)
          refine g_weak ?_ (cg_517_80 hd hS hR v1 9 N hr hp hC)
          exact trivial
        · have hp := hp.2 h6
          refine g_lload_n rfl (g_l2i ?_)
          refine g_weak ?_ (cg_517_80 hd hS hR v1 v2.toInt32 N hr hp hC)
          exact trivial
    · have hp := hp.2 h4
      refine g_aload_n rfl (g_getR (mz_at hS (Nat.le_of_ble_eq_true rfl) mzcS_232) mzcf_12_37 (mz_rb hR (Nat.le_of_ble_eq_true rfl) rfl mzcR_232_37) (g_iload_n rfl (g_lload_n rfl (g_lconst mzl_0 (g_lcmp ?_)))))
      refine g_lne (tg := 99) rfl ms_517_99 hC (fun h7 hC => ?_) (fun h7 hC => ?_)
      · have hp := hp.1 h7
        refine g_iconst mzi_0 (g_goto (tg := 100) rfl ms_517_100 ?_)
        refine g_weak ?_ (cg_517_100 hd hS hR v1 false N hr hp hC)
        exact trivial
      · have hp := hp.2 h7
        refine g_iconst mzi_1 ?_
        refine g_weak ?_ (cg_517_100 hd hS hR v1 true N hr hp hC)
        exact trivial
theorem cs_517 (hd : 1 ≤ d) (hS : mz_extR S 342) (hR : mz_rok R 342)  (v1 : Int32) (v2 : Int64) (N : mz_N) (hp : cp_517_0 v1 v2 N) (hq : Q (.inl none) (mz_k S R (cf_517_0 v1 v2 N) b t)) : mz_Ed (mz_X0 L xs) d 517 [.ref 232, .int v1, .long v2] (mz_k S R N b t) Q :=
  by
  refine g_in mzq_517 (Nat.le_of_ble_eq_true rfl) (Nat.le_of_ble_eq_true rfl) (Nat.le_trans (Nat.le_of_ble_eq_true rfl) hd) ?_
  refine g_weak ?_ (cg_517_0 (d := d - 1) (by omega) hS hR v1 v2 N (C0 := fun z => Q (.inl none) (mz_k S R z b t)) (fun _ h => h) hp hq)
  exact ⟨rfl, rfl, rfl, trivial⟩
end Fn27
