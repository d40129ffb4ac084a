/-! THE FUNCTIONS: written by program: each method comes to its function. -/
section Fn21
variable {L : Nat} {xs : Nat → Int32} {d : Nat} {S : mz_S} {R : Nat → Nat → Option Nat} {Q : mz_Q} {N : mz_N} {b : Bool} {t : Nat}
/-! 424 KeptHouseModel.readMore (III)V -/
theorem ms_424_0 : mz_sf mk_424 0 = mk_424 := mz_sf_zero _
theorem ms_424_79 : mz_sf mk_424 79 = mt_424_79 := mz_sf_add ms_424_0 (t := 79) rfl rfl
theorem ms_424_107 : mz_sf mk_424 107 = mt_424_107 := mz_sf_add ms_424_79 (t := 28) rfl rfl
theorem ms_424_124 : mz_sf mk_424 124 = mt_424_124 := mz_sf_add ms_424_107 (t := 17) rfl rfl
theorem ms_424_151 : mz_sf mk_424 151 = mt_424_151 := mz_sf_add ms_424_124 (t := 27) rfl rfl
theorem ms_424_180 : mz_sf mk_424 180 = mt_424_180 := mz_sf_add ms_424_151 (t := 29) rfl rfl
theorem ms_424_195 : mz_sf mk_424 195 = mt_424_195 := mz_sf_add ms_424_180 (t := 15) rfl rfl
theorem ms_424_223 : mz_sf mk_424 223 = mt_424_223 := mz_sf_add ms_424_195 (t := 28) rfl rfl
theorem ms_424_237 : mz_sf mk_424 237 = mt_424_237 := mz_sf_add ms_424_223 (t := 14) rfl rfl
theorem ms_424_262 : mz_sf mk_424 262 = mt_424_262 := mz_sf_add ms_424_237 (t := 25) rfl rfl
theorem ms_424_268 : mz_sf mk_424 268 = mt_424_268 := mz_sf_add ms_424_262 (t := 6) rfl rfl
theorem ms_424_271 : mz_sf mk_424 271 = mt_424_271 := mz_sf_add ms_424_268 (t := 3) rfl rfl
theorem ms_424_296 : mz_sf mk_424 296 = mt_424_296 := mz_sf_add ms_424_271 (t := 25) rfl rfl
theorem ms_424_329 : mz_sf mk_424 329 = mt_424_329 := mz_sf_add ms_424_296 (t := 33) rfl rfl
theorem ms_424_330 : mz_sf mk_424 330 = mt_424_330 := mz_sf_add ms_424_329 (t := 1) rfl rfl
theorem ms_424_334 : mz_sf mk_424 334 = mt_424_334 := mz_sf_add ms_424_330 (t := 4) rfl rfl
theorem ms_424_353 : mz_sf mk_424 353 = mt_424_353 := mz_sf_add ms_424_334 (t := 19) rfl rfl
theorem ms_424_354 : mz_sf mk_424 354 = mt_424_354 := mz_sf_add ms_424_353 (t := 1) rfl rfl
theorem ms_424_379 : mz_sf mk_424 379 = mt_424_379 := mz_sf_add ms_424_354 (t := 25) rfl rfl
theorem ms_424_404 : mz_sf mk_424 404 = mt_424_404 := mz_sf_add ms_424_379 (t := 25) rfl rfl
theorem ms_424_425 : mz_sf mk_424 425 = mt_424_425 := mz_sf_add ms_424_404 (t := 21) rfl rfl
theorem ms_424_428 : mz_sf mk_424 428 = mt_424_428 := mz_sf_add ms_424_425 (t := 3) rfl rfl
theorem ms_424_447 : mz_sf mk_424 447 = mt_424_447 := mz_sf_add ms_424_428 (t := 19) rfl rfl
theorem ms_424_462 : mz_sf mk_424 462 = mt_424_462 := mz_sf_add ms_424_447 (t := 15) rfl rfl
theorem ms_424_481 : mz_sf mk_424 481 = mt_424_481 := mz_sf_add ms_424_462 (t := 19) rfl rfl
theorem ms_424_512 : mz_sf mk_424 512 = mt_424_512 := mz_sf_add ms_424_481 (t := 31) rfl rfl
theorem ms_424_513 : mz_sf mk_424 513 = mt_424_513 := mz_sf_add ms_424_512 (t := 1) rfl rfl
theorem ms_424_529 : mz_sf mk_424 529 = mt_424_529 := mz_sf_add ms_424_513 (t := 16) rfl rfl
theorem ms_424_548 : mz_sf mk_424 548 = mt_424_548 := mz_sf_add ms_424_529 (t := 19) rfl rfl
theorem ms_424_560 : mz_sf mk_424 560 = mt_424_560 := mz_sf_add ms_424_548 (t := 12) rfl rfl
set_option maxRecDepth 100000 in
theorem mzq_424 : mz_PG0 424 = some (12, ⟨"KeptHouseModel", "readMore", "(III)V"⟩, prog_14_method_193_code, 5, none, [], mk_424, []) := rfl
theorem cg_424_560 (hd : 2 ≤ d) (hS : mz_extR S 342) (hR : mz_rok R 342)  (N : mz_N) {C0 : (mz_N) → Prop} (hr : ∀ (N2 : mz_N), C0 N2 → Q (.inl none) (mz_k S R N2 b t)) (hp : cp_424_560 N) (hC : C0 (cf_424_560 N)) : mz_G (d, mz_X0 L xs, none, [], mk_424, 5, Q) 560 mt_424_560 [] [] false (mz_k S R N b t) := by
  unfold cf_424_560 at hC
  unfold cp_424_560 at hp
  exact g_vret rfl (hr _ hC)
theorem cg_424_513 (hd : 2 ≤ d) (hS : mz_extR S 342) (hR : mz_rok R 342)  (s1 : Int32) (s2 : Bool) (v2 : Int32) (v3 : Int32) (N : mz_N) {C0 : (mz_N) → Prop} (hr : ∀ (N2 : mz_N), C0 N2 → Q (.inl none) (mz_k S R N2 b t)) (hp : cp_424_513 s1 s2 v2 v3 N) (hC : C0 (cf_424_513 s1 s2 v2 v3 N)) : mz_G (d, mz_X0 L xs, none, [], mk_424, 5, Q) 513 mt_424_513 [(0, .ref 232), (2, .int v2), (3, .int v3)] [.int (mz_b01 s2), .int s1, .ref 315] false (mz_k S R N b t) := by
  unfold cf_424_513 at hC
  unfold cp_424_513 at hp
  obtain ⟨h1, hp⟩ := hp
  refine g_zast (z := s2) (mz_at hS (Nat.le_of_ble_eq_true rfl) mzcS_315) h1 (g_aload_n rfl (g_getR (mz_at hS (Nat.le_of_ble_eq_true rfl) mzcS_232) mzcf_12_107 (mz_rb hR (Nat.le_of_ble_eq_true rfl) rfl mzcR_232_107) (g_iload_n rfl (g_aload_n rfl (g_iload_n rfl (g_iconst mzi_4 ?_))))))
  obtain ⟨h2, hp⟩ := hp
  refine g_v3v (Nat.le_of_ble_eq_true rfl) (mz_at hS (Nat.le_of_ble_eq_true rfl) mzcS_232) (fun _ hq => cs_425 (Nat.le_trans (Nat.le_of_ble_eq_true rfl) hd) (hS.le (Nat.le_of_ble_eq_true rfl)) (hR.le (Nat.le_of_ble_eq_true rfl))  v3 4 (mz_wI N 315 s1 (mz_b01 s2)) h2 hq) ?_
  obtain ⟨h3, hp⟩ := hp
  refine g_iast (mz_at hS (Nat.le_of_ble_eq_true rfl) mzcS_312) h3 (g_goto (tg := 560) rfl ms_424_560 ?_)
  refine g_weak ?_ (g_cl (cg_424_560 hd hS hR (mz_wI (mz_wI N 315 s1 (mz_b01 s2)) 312 v2 (cf_425_0 v3 4 (mz_wI N 315 s1 (mz_b01 s2)))) hr hp hC))
  exact trivial
theorem cg_424_481 (hd : 2 ≤ d) (hS : mz_extR S 342) (hR : mz_rok R 342)  (v2 : Int32) (v3 : Int32) (N : mz_N) {C0 : (mz_N) → Prop} (hr : ∀ (N2 : mz_N), C0 N2 → Q (.inl none) (mz_k S R N2 b t)) (hp : cp_424_481 v2 v3 N) (hC : C0 (cf_424_481 v2 v3 N)) : mz_G (d, mz_X0 L xs, none, [], mk_424, 5, Q) 481 mt_424_481 [(0, .ref 232), (2, .int v2), (3, .int v3)] [] false (mz_k S R N b t) := by
  unfold cf_424_481 at hC
  unfold cp_424_481 at hp
  refine g_aload_n rfl (g_getR (mz_at hS (Nat.le_of_ble_eq_true rfl) mzcS_232) mzcf_12_109 (mz_rb hR (Nat.le_of_ble_eq_true rfl) rfl mzcR_232_109) (g_iload_n rfl (g_aload_n rfl (g_iload_n rfl (g_iconst mzi_2 ?_)))))
  obtain ⟨h1, hp⟩ := hp
  refine g_v3v (Nat.le_of_ble_eq_true rfl) (mz_at hS (Nat.le_of_ble_eq_true rfl) mzcS_232) (fun _ hq => cs_422 (Nat.le_trans (Nat.le_of_ble_eq_true rfl) hd) (hS.le (Nat.le_of_ble_eq_true rfl)) (hR.le (Nat.le_of_ble_eq_true rfl))  v3 2 N h1 hq) ?_
  obtain ⟨h2, hp⟩ := hp
  refine g_iast (mz_at hS (Nat.le_of_ble_eq_true rfl) mzcS_314) h2 (g_aload_n rfl (g_getR (mz_at hS (Nat.le_of_ble_eq_true rfl) mzcS_232) mzcf_12_110 (mz_rb hR (Nat.le_of_ble_eq_true rfl) rfl mzcR_232_110) (g_iload_n rfl (g_aload_n rfl (g_iload_n rfl (g_iconst mzi_3 ?_))))))
  obtain ⟨h3, hp⟩ := hp
  refine g_v3v (Nat.le_of_ble_eq_true rfl) (mz_at hS (Nat.le_of_ble_eq_true rfl) mzcS_232) (fun _ hq => cs_422 (Nat.le_trans (Nat.le_of_ble_eq_true rfl) hd) (hS.le (Nat.le_of_ble_eq_true rfl)) (hR.le (Nat.le_of_ble_eq_true rfl))  v3 3 (mz_wI N 314 v2 (cf_422_0 v3 2 N)) h3 hq) (g_iconst mzi_1 ?_)
  refine g_icne (tg := 512) rfl ms_424_512 hC (fun h4 hC => ?_) (fun h4 hC => ?_)
  · have hp := hp.1 h4
    refine g_iconst mzi_1 (g_goto (tg := 513) rfl ms_424_513 ?_)
    refine g_weak ?_ (g_cl (cg_424_513 hd hS hR v2 true v2 v3 (mz_wI N 314 v2 (cf_422_0 v3 2 N)) hr hp hC))
    exact ⟨rfl, rfl, rfl, trivial⟩
  · have hp := hp.2 h4
    refine g_iconst mzi_0 ?_
    refine g_weak ?_ (g_cl (cg_424_513 hd hS hR v2 false v2 v3 (mz_wI N 314 v2 (cf_422_0 v3 2 N)) hr hp hC))
    exact ⟨rfl, rfl, rfl, trivial⟩
theorem cg_424_404 (hd : 2 ≤ d) (hS : mz_extR S 342) (hR : mz_rok R 342)  (v2 : Int32) (v3 : Int32) (N : mz_N) {C0 : (mz_N) → Prop} (hr : ∀ (N2 : mz_N), C0 N2 → Q (.inl none) (mz_k S R N2 b t)) (hp : cp_424_404 v2 v3 N) (hC : C0 (cf_424_404 v2 v3 N)) : mz_G (d, mz_X0 L xs, none, [], mk_424, 5, Q) 404 mt_424_404 [(0, .ref 232), (2, .int v2), (3, .int v3)] [] false (mz_k S R N b t) := by
  unfold cf_424_404 at hC
  unfold cp_424_404 at hp
  refine g_aload_n rfl (g_getR (mz_at hS (Nat.le_of_ble_eq_true rfl) mzcS_232) mzcf_12_85 (mz_rb hR (Nat.le_of_ble_eq_true rfl) rfl mzcR_232_85) (g_iload_n rfl (g_aload_n rfl (g_iload_n rfl (g_bipush mzb_8 ?_)))))
  obtain ⟨h1, hp⟩ := hp
  refine g_v3v (Nat.le_of_ble_eq_true rfl) (mz_at hS (Nat.le_of_ble_eq_true rfl) mzcS_232) (fun _ hq => cs_425 (Nat.le_trans (Nat.le_of_ble_eq_true rfl) hd) (hS.le (Nat.le_of_ble_eq_true rfl)) (hR.le (Nat.le_of_ble_eq_true rfl))  v3 8 N h1 hq) (g_i2l ?_)
  obtain ⟨h2, hp⟩ := hp
  refine g_last (mz_at hS (Nat.le_of_ble_eq_true rfl) mzcS_292) h2 (g_aload_n rfl (g_getR (mz_at hS (Nat.le_of_ble_eq_true rfl) mzcS_232) mzcf_12_86 (mz_rb hR (Nat.le_of_ble_eq_true rfl) rfl mzcR_232_86) (g_iload_n rfl (g_iconst mzi_m1 ?_))))
  have h3 := hp
  refine g_iast (mz_at hS (Nat.le_of_ble_eq_true rfl) mzcS_293) h3 (g_goto (tg := 560) rfl ms_424_560 ?_)
  exact g_vret rfl (hr _ hC)
theorem cg_424_379 (hd : 2 ≤ d) (hS : mz_extR S 342) (hR : mz_rok R 342)  (v2 : Int32) (v3 : Int32) (N : mz_N) {C0 : (mz_N) → Prop} (hr : ∀ (N2 : mz_N), C0 N2 → Q (.inl none) (mz_k S R N2 b t)) (hp : cp_424_379 v2 v3 N) (hC : C0 (cf_424_379 v2 v3 N)) : mz_G (d, mz_X0 L xs, none, [], mk_424, 5, Q) 379 mt_424_379 [(0, .ref 232), (2, .int v2), (3, .int v3)] [] false (mz_k S R N b t) := by
  unfold cf_424_379 at hC
  unfold cp_424_379 at hp
  refine g_aload_n rfl (g_getR (mz_at hS (Nat.le_of_ble_eq_true rfl) mzcS_232) mzcf_12_83 (mz_rb hR (Nat.le_of_ble_eq_true rfl) rfl mzcR_232_83) (g_iload_n rfl (g_aload_n rfl (g_iload_n rfl (g_iconst mzi_3 ?_)))))
  obtain ⟨h1, hp⟩ := hp
  refine g_v3v (Nat.le_of_ble_eq_true rfl) (mz_at hS (Nat.le_of_ble_eq_true rfl) mzcS_232) (fun _ hq => cs_422 (Nat.le_trans (Nat.le_of_ble_eq_true rfl) hd) (hS.le (Nat.le_of_ble_eq_true rfl)) (hR.le (Nat.le_of_ble_eq_true rfl))  v3 3 N h1 hq) ?_
  obtain ⟨h2, hp⟩ := hp
  refine g_iast (mz_at hS (Nat.le_of_ble_eq_true rfl) mzcS_290) h2 (g_aload_n rfl (g_getR (mz_at hS (Nat.le_of_ble_eq_true rfl) mzcS_232) mzcf_12_84 (mz_rb hR (Nat.le_of_ble_eq_true rfl) rfl mzcR_232_84) (g_iload_n rfl (g_aload_n rfl (g_iload_n rfl (g_iconst mzi_4 ?_))))))
  obtain ⟨h3, hp⟩ := hp
  refine g_v3v (Nat.le_of_ble_eq_true rfl) (mz_at hS (Nat.le_of_ble_eq_true rfl) mzcS_232) (fun _ hq => cs_425 (Nat.le_trans (Nat.le_of_ble_eq_true rfl) hd) (hS.le (Nat.le_of_ble_eq_true rfl)) (hR.le (Nat.le_of_ble_eq_true rfl))  v3 4 (mz_wI N 290 v2 (cf_422_0 v3 3 N)) h3 hq) (g_i2l ?_)
  obtain ⟨h4, hp⟩ := hp
  refine g_last (mz_at hS (Nat.le_of_ble_eq_true rfl) mzcS_291) h4 ?_
  refine g_weak ?_ (g_cl (cg_424_404 hd hS hR v2 v3 (mz_wL (mz_wI N 290 v2 (cf_422_0 v3 3 N)) 291 v2 ((cf_425_0 v3 4 (mz_wI N 290 v2 (cf_422_0 v3 3 N))).toInt64)) hr hp hC))
  exact ⟨rfl, rfl, rfl, trivial⟩
theorem cg_424_354 (hd : 2 ≤ d) (hS : mz_extR S 342) (hR : mz_rok R 342)  (s1 : Int32) (s2 : Bool) (v2 : Int32) (v3 : Int32) (N : mz_N) {C0 : (mz_N) → Prop} (hr : ∀ (N2 : mz_N), C0 N2 → Q (.inl none) (mz_k S R N2 b t)) (hp : cp_424_354 s1 s2 v2 v3 N) (hC : C0 (cf_424_354 s1 s2 v2 v3 N)) : mz_G (d, mz_X0 L xs, none, [], mk_424, 5, Q) 354 mt_424_354 [(0, .ref 232), (2, .int v2), (3, .int v3)] [.int (mz_b01 s2), .int s1, .ref 287] false (mz_k S R N b t) := by
  unfold cf_424_354 at hC
  unfold cp_424_354 at hp
  obtain ⟨h1, hp⟩ := hp
  refine g_zast (z := s2) (mz_at hS (Nat.le_of_ble_eq_true rfl) mzcS_287) h1 (g_aload_n rfl (g_getR (mz_at hS (Nat.le_of_ble_eq_true rfl) mzcS_232) mzcf_12_81 (mz_rb hR (Nat.le_of_ble_eq_true rfl) rfl mzcR_232_81) (g_iload_n rfl (g_aload_n rfl (g_iload_n rfl (g_iconst mzi_1 ?_))))))
  obtain ⟨h2, hp⟩ := hp
  refine g_v3v (Nat.le_of_ble_eq_true rfl) (mz_at hS (Nat.le_of_ble_eq_true rfl) mzcS_232) (fun _ hq => cs_422 (Nat.le_trans (Nat.le_of_ble_eq_true rfl) hd) (hS.le (Nat.le_of_ble_eq_true rfl)) (hR.le (Nat.le_of_ble_eq_true rfl))  v3 1 (mz_wI N 287 s1 (mz_b01 s2)) h2 hq) ?_
  obtain ⟨h3, hp⟩ := hp
  refine g_iast (mz_at hS (Nat.le_of_ble_eq_true rfl) mzcS_288) h3 (g_aload_n rfl (g_getR (mz_at hS (Nat.le_of_ble_eq_true rfl) mzcS_232) mzcf_12_82 (mz_rb hR (Nat.le_of_ble_eq_true rfl) rfl mzcR_232_82) (g_iload_n rfl (g_aload_n rfl (g_iload_n rfl (g_iconst mzi_2 ?_))))))
  obtain ⟨h4, hp⟩ := hp
  refine g_v3v (Nat.le_of_ble_eq_true rfl) (mz_at hS (Nat.le_of_ble_eq_true rfl) mzcS_232) (fun _ hq => cs_422 (Nat.le_trans (Nat.le_of_ble_eq_true rfl) hd) (hS.le (Nat.le_of_ble_eq_true rfl)) (hR.le (Nat.le_of_ble_eq_true rfl))  v3 2 (mz_wI (mz_wI N 287 s1 (mz_b01 s2)) 288 v2 (cf_422_0 v3 1 (mz_wI N 287 s1 (mz_b01 s2)))) h4 hq) ?_
  obtain ⟨h5, hp⟩ := hp
  refine g_iast (mz_at hS (Nat.le_of_ble_eq_true rfl) mzcS_289) h5 ?_
  refine g_weak ?_ (g_cl (cg_424_379 hd hS hR v2 v3 (mz_wI (mz_wI (mz_wI N 287 s1 (mz_b01 s2)) 288 v2 (cf_422_0 v3 1 (mz_wI N 287 s1 (mz_b01 s2)))) 289 v2 (cf_422_0 v3 2 (mz_wI (mz_wI N 287 s1 (mz_b01 s2)) 288 v2 (cf_422_0 v3 1 (mz_wI N 287 s1 (mz_b01 s2)))))) hr hp hC))
  exact ⟨rfl, rfl, rfl, trivial⟩
theorem cg_424_548 (hd : 2 ≤ d) (hS : mz_extR S 342) (hR : mz_rok R 342)  (v2 : Int32) (v3 : Int32) (N : mz_N) {C0 : (mz_N) → Prop} (hr : ∀ (N2 : mz_N), C0 N2 → Q (.inl none) (mz_k S R N2 b t)) (hp : cp_424_548 v2 v3 N) (hC : C0 (cf_424_548 v2 v3 N)) : mz_G (d, mz_X0 L xs, none, [], mk_424, 5, Q) 548 mt_424_548 [(0, .ref 232), (2, .int v2), (3, .int v3)] [] false (mz_k S R N b t) := by
  unfold cf_424_548 at hC
  unfold cp_424_548 at hp
  refine g_aload_n rfl (g_getR (mz_at hS (Nat.le_of_ble_eq_true rfl) mzcS_232) mzcf_12_77 (mz_rb hR (Nat.le_of_ble_eq_true rfl) rfl mzcR_232_77) (g_iload_n rfl (g_aload_n rfl (g_iload_n rfl (g_iconst mzi_2 ?_)))))
  obtain ⟨h1, hp⟩ := hp
  refine g_v3v (Nat.le_of_ble_eq_true rfl) (mz_at hS (Nat.le_of_ble_eq_true rfl) mzcS_232) (fun _ hq => cs_422 (Nat.le_trans (Nat.le_of_ble_eq_true rfl) hd) (hS.le (Nat.le_of_ble_eq_true rfl)) (hR.le (Nat.le_of_ble_eq_true rfl))  v3 2 N h1 hq) ?_
  obtain ⟨h2, hp⟩ := hp
  refine g_iast (mz_at hS (Nat.le_of_ble_eq_true rfl) mzcS_284) h2 ?_
  refine g_weak ?_ (g_cl (cg_424_560 hd hS hR (mz_wI N 284 v2 (cf_422_0 v3 2 N)) hr hp hC))
  exact trivial
theorem cg_424_330 (hd : 2 ≤ d) (hS : mz_extR S 342) (hR : mz_rok R 342)  (s1 : Int32) (s2 : Bool) (N : mz_N) {C0 : (mz_N) → Prop} (hr : ∀ (N2 : mz_N), C0 N2 → Q (.inl none) (mz_k S R N2 b t)) (hp : cp_424_330 s1 s2 N) (hC : C0 (cf_424_330 s1 s2 N)) : mz_G (d, mz_X0 L xs, none, [], mk_424, 5, Q) 330 mt_424_330 [] [.int (mz_b01 s2), .int s1, .ref 307] false (mz_k S R N b t) := by
  unfold cf_424_330 at hC
  unfold cp_424_330 at hp
  have h1 := hp
  refine g_zast (z := s2) (mz_at hS (Nat.le_of_ble_eq_true rfl) mzcS_307) h1 (g_goto (tg := 560) rfl ms_424_560 ?_)
  exact g_vret rfl (hr _ hC)
theorem cg_424_296 (hd : 2 ≤ d) (hS : mz_extR S 342) (hR : mz_rok R 342)  (v2 : Int32) (v3 : Int32) (N : mz_N) {C0 : (mz_N) → Prop} (hr : ∀ (N2 : mz_N), C0 N2 → Q (.inl none) (mz_k S R N2 b t)) (hp : cp_424_296 v2 v3 N) (hC : C0 (cf_424_296 v2 v3 N)) : mz_G (d, mz_X0 L xs, none, [], mk_424, 5, Q) 296 mt_424_296 [(0, .ref 232), (2, .int v2), (3, .int v3)] [] false (mz_k S R N b t) := by
  unfold cf_424_296 at hC
  unfold cp_424_296 at hp
  refine g_aload_n rfl (g_getR (mz_at hS (Nat.le_of_ble_eq_true rfl) mzcS_232) mzcf_12_101 (mz_rb hR (Nat.le_of_ble_eq_true rfl) rfl mzcR_232_101) (g_iload_n rfl (g_aload_n rfl (g_iload_n rfl (g_bipush mzb_8 ?_)))))
  obtain ⟨h1, hp⟩ := hp
  refine g_v3v (Nat.le_of_ble_eq_true rfl) (mz_at hS (Nat.le_of_ble_eq_true rfl) mzcS_232) (fun _ hq => cs_425 (Nat.le_trans (Nat.le_of_ble_eq_true rfl) hd) (hS.le (Nat.le_of_ble_eq_true rfl)) (hR.le (Nat.le_of_ble_eq_true rfl))  v3 8 N h1 hq) ?_
  obtain ⟨h2, hp⟩ := hp
  refine g_iast (mz_at hS (Nat.le_of_ble_eq_true rfl) mzcS_306) h2 (g_aload_n rfl (g_getR (mz_at hS (Nat.le_of_ble_eq_true rfl) mzcS_232) mzcf_12_102 (mz_rb hR (Nat.le_of_ble_eq_true rfl) rfl mzcR_232_102) (g_iload_n rfl (g_aload_n rfl (g_iload_n rfl (g_bipush mzb_12 ?_))))))
  obtain ⟨h3, hp⟩ := hp
  refine g_v3v (Nat.le_of_ble_eq_true rfl) (mz_at hS (Nat.le_of_ble_eq_true rfl) mzcS_232) (fun _ hq => cs_422 (Nat.le_trans (Nat.le_of_ble_eq_true rfl) hd) (hS.le (Nat.le_of_ble_eq_true rfl)) (hR.le (Nat.le_of_ble_eq_true rfl))  v3 12 (mz_wI N 306 v2 (cf_425_0 v3 8 N)) h3 hq) (g_iconst mzi_1 ?_)
  refine g_icne (tg := 329) rfl ms_424_329 hC (fun h4 hC => ?_) (fun h4 hC => ?_)
  · have hp := hp.1 h4
    refine g_iconst mzi_1 (g_goto (tg := 330) rfl ms_424_330 ?_)
    refine g_weak ?_ (g_cl (cg_424_330 hd hS hR v2 true (mz_wI N 306 v2 (cf_425_0 v3 8 N)) hr hp hC))
    exact trivial
  · have hp := hp.2 h4
    refine g_iconst mzi_0 ?_
    refine g_weak ?_ (g_cl (cg_424_330 hd hS hR v2 false (mz_wI N 306 v2 (cf_425_0 v3 8 N)) hr hp hC))
    exact trivial
theorem cg_424_447 (hd : 2 ≤ d) (hS : mz_extR S 342) (hR : mz_rok R 342)  (v2 : Int32) (v3 : Int32) (N : mz_N) {C0 : (mz_N) → Prop} (hr : ∀ (N2 : mz_N), C0 N2 → Q (.inl none) (mz_k S R N2 b t)) (hp : cp_424_447 v2 v3 N) (hC : C0 (cf_424_447 v2 v3 N)) : mz_G (d, mz_X0 L xs, none, [], mk_424, 5, Q) 447 mt_424_447 [(0, .ref 232), (2, .int v2), (3, .int v3)] [] false (mz_k S R N b t) := by
  unfold cf_424_447 at hC
  unfold cp_424_447 at hp
  refine g_aload_n rfl (g_getR (mz_at hS (Nat.le_of_ble_eq_true rfl) mzcS_232) mzcf_12_105 (mz_rb hR (Nat.le_of_ble_eq_true rfl) rfl mzcR_232_105) (g_iload_n rfl (g_aload_n rfl (g_iload_n rfl (g_iconst mzi_2 ?_)))))
  obtain ⟨h1, hp⟩ := hp
  refine g_v3v (Nat.le_of_ble_eq_true rfl) (mz_at hS (Nat.le_of_ble_eq_true rfl) mzcS_232) (fun _ hq => cs_422 (Nat.le_trans (Nat.le_of_ble_eq_true rfl) hd) (hS.le (Nat.le_of_ble_eq_true rfl)) (hR.le (Nat.le_of_ble_eq_true rfl))  v3 2 N h1 hq) ?_
  have h2 := hp
  refine g_iast (mz_at hS (Nat.le_of_ble_eq_true rfl) mzcS_310) h2 (g_goto (tg := 560) rfl ms_424_560 ?_)
  exact g_vret rfl (hr _ hC)
theorem cg_424_107 (hd : 2 ≤ d) (hS : mz_extR S 342) (hR : mz_rok R 342)  (v2 : Int32) (v3 : Int32) (N : mz_N) {C0 : (mz_N) → Prop} (hr : ∀ (N2 : mz_N), C0 N2 → Q (.inl none) (mz_k S R N2 b t)) (hp : cp_424_107 v2 v3 N) (hC : C0 (cf_424_107 v2 v3 N)) : mz_G (d, mz_X0 L xs, none, [], mk_424, 5, Q) 107 mt_424_107 [(0, .ref 232), (2, .int v2), (3, .int v3)] [] false (mz_k S R N b t) := by
  unfold cf_424_107 at hC
  unfold cp_424_107 at hp
  refine g_aload_n rfl (g_getR (mz_at hS (Nat.le_of_ble_eq_true rfl) mzcS_232) mzcf_12_119 (mz_rb hR (Nat.le_of_ble_eq_true rfl) rfl mzcR_232_119) (g_iload_n rfl (g_aload_n rfl (g_iload_n rfl (g_bipush mzb_24 ?_)))))
  obtain ⟨h1, hp⟩ := hp
  refine g_v3v (Nat.le_of_ble_eq_true rfl) (mz_at hS (Nat.le_of_ble_eq_true rfl) mzcS_232) (fun _ hq => cs_425 (Nat.le_trans (Nat.le_of_ble_eq_true rfl) hd) (hS.le (Nat.le_of_ble_eq_true rfl)) (hR.le (Nat.le_of_ble_eq_true rfl))  v3 24 N h1 hq) (g_i2l ?_)
  have h2 := hp
  refine g_last (mz_at hS (Nat.le_of_ble_eq_true rfl) mzcS_323) h2 (g_goto (tg := 560) rfl ms_424_560 ?_)
  exact g_vret rfl (hr _ hC)
theorem cg_424_79 (hd : 2 ≤ d) (hS : mz_extR S 342) (hR : mz_rok R 342)  (v2 : Int32) (v3 : Int32) (N : mz_N) {C0 : (mz_N) → Prop} (hr : ∀ (N2 : mz_N), C0 N2 → Q (.inl none) (mz_k S R N2 b t)) (hp : cp_424_79 v2 v3 N) (hC : C0 (cf_424_79 v2 v3 N)) : mz_G (d, mz_X0 L xs, none, [], mk_424, 5, Q) 79 mt_424_79 [(0, .ref 232), (2, .int v2), (3, .int v3)] [] false (mz_k S R N b t) := by
  unfold cf_424_79 at hC
  unfold cp_424_79 at hp
  refine g_aload_n rfl (g_getR (mz_at hS (Nat.le_of_ble_eq_true rfl) mzcS_232) mzcf_12_117 (mz_rb hR (Nat.le_of_ble_eq_true rfl) rfl mzcR_232_117) (g_iload_n rfl (g_aload_n rfl (g_iload_n rfl (g_bipush mzb_16 ?_)))))
  obtain ⟨h1, hp⟩ := hp
  refine g_v3v (Nat.le_of_ble_eq_true rfl) (mz_at hS (Nat.le_of_ble_eq_true rfl) mzcS_232) (fun _ hq => cs_425 (Nat.le_trans (Nat.le_of_ble_eq_true rfl) hd) (hS.le (Nat.le_of_ble_eq_true rfl)) (hR.le (Nat.le_of_ble_eq_true rfl))  v3 16 N h1 hq) (g_i2l ?_)
  obtain ⟨h2, hp⟩ := hp
  refine g_last (mz_at hS (Nat.le_of_ble_eq_true rfl) mzcS_321) h2 (g_aload_n rfl (g_getR (mz_at hS (Nat.le_of_ble_eq_true rfl) mzcS_232) mzcf_12_118 (mz_rb hR (Nat.le_of_ble_eq_true rfl) rfl mzcR_232_118) (g_iload_n rfl (g_aload_n rfl (g_iload_n rfl (g_bipush mzb_20 ?_))))))
  obtain ⟨h3, hp⟩ := hp
  refine g_v3v (Nat.le_of_ble_eq_true rfl) (mz_at hS (Nat.le_of_ble_eq_true rfl) mzcS_232) (fun _ hq => cs_425 (Nat.le_trans (Nat.le_of_ble_eq_true rfl) hd) (hS.le (Nat.le_of_ble_eq_true rfl)) (hR.le (Nat.le_of_ble_eq_true rfl))  v3 20 (mz_wL N 321 v2 ((cf_425_0 v3 16 N).toInt64)) h3 hq) (g_i2l ?_)
  obtain ⟨h4, hp⟩ := hp
  refine g_last (mz_at hS (Nat.le_of_ble_eq_true rfl) mzcS_322) h4 ?_
  refine g_weak ?_ (g_cl (cg_424_107 hd hS hR v2 v3 (mz_wL (mz_wL N 321 v2 ((cf_425_0 v3 16 N).toInt64)) 322 v2 ((cf_425_0 v3 20 (mz_wL N 321 v2 ((cf_425_0 v3 16 N).toInt64))).toInt64)) hr hp hC))
  exact ⟨rfl, rfl, rfl, trivial⟩
theorem cg_424_180 (hd : 2 ≤ d) (hS : mz_extR S 342) (hR : mz_rok R 342)  (v3 : Int32) (N : mz_N) {C0 : (mz_N) → Prop} (hr : ∀ (N2 : mz_N), C0 N2 → Q (.inl none) (mz_k S R N2 b t)) (hp : cp_424_180 v3 N) (hC : C0 (cf_424_180 v3 N)) : mz_G (d, mz_X0 L xs, none, [], mk_424, 5, Q) 180 mt_424_180 [(0, .ref 232), (3, .int v3)] [] false (mz_k S R N b t) := by
  unfold cf_424_180 at hC
  unfold cp_424_180 at hp
  refine g_aload_n rfl (g_aload_n rfl (g_iload_n rfl (g_bipush mzb_24 ?_)))
  have h1 := hp
  refine g_v3v (Nat.le_of_ble_eq_true rfl) (mz_at hS (Nat.le_of_ble_eq_true rfl) mzcS_232) (fun _ hq => cs_425 (Nat.le_trans (Nat.le_of_ble_eq_true rfl) hd) (hS.le (Nat.le_of_ble_eq_true rfl)) (hR.le (Nat.le_of_ble_eq_true rfl))  v3 24 N h1 hq) (g_i2l (g_putL (mz_at hS (Nat.le_of_ble_eq_true rfl) mzcS_232) mzcf_12_125 (g_goto (tg := 560) rfl ms_424_560 ?_)))
  exact g_vret rfl (hr _ hC)
theorem cg_424_151 (hd : 2 ≤ d) (hS : mz_extR S 342) (hR : mz_rok R 342)  (v3 : Int32) (N : mz_N) {C0 : (mz_N) → Prop} (hr : ∀ (N2 : mz_N), C0 N2 → Q (.inl none) (mz_k S R N2 b t)) (hp : cp_424_151 v3 N) (hC : C0 (cf_424_151 v3 N)) : mz_G (d, mz_X0 L xs, none, [], mk_424, 5, Q) 151 mt_424_151 [(0, .ref 232), (3, .int v3)] [] false (mz_k S R N b t) := by
  unfold cf_424_151 at hC
  unfold cp_424_151 at hp
  refine g_aload_n rfl (g_aload_n rfl (g_getR (mz_at hS (Nat.le_of_ble_eq_true rfl) mzcS_232) mzcf_12_131 (mz_rb hR (Nat.le_of_ble_eq_true rfl) rfl mzcR_232_131) (g_iload_n rfl (g_bipush mzb_12 (g_iadd (g_bipush mzb_8 ?_))))))
  obtain ⟨h1, hp⟩ := hp
  refine g_s3v (Nat.le_of_ble_eq_true rfl) (fun _ hq => cs_423 (Nat.le_trans (Nat.le_of_ble_eq_true rfl) hd) (hS.le (Nat.le_of_ble_eq_true rfl)) (hR.le (Nat.le_of_ble_eq_true rfl)) 331 3780 (mz_at hS (Nat.le_of_ble_eq_true rfl) mzcS_331) (v3 + 12) 8 N h1 hq) (g_putL (mz_at hS (Nat.le_of_ble_eq_true rfl) mzcS_232) mzcf_12_123 (g_aload_n rfl (g_aload_n rfl (g_iload_n rfl (g_bipush mzb_20 ?_)))))
  obtain ⟨h2, hp⟩ := hp
  refine g_v3v (Nat.le_of_ble_eq_true rfl) (mz_at hS (Nat.le_of_ble_eq_true rfl) mzcS_232) (fun _ hq => cs_425 (Nat.le_trans (Nat.le_of_ble_eq_true rfl) hd) (hS.le (Nat.le_of_ble_eq_true rfl)) (hR.le (Nat.le_of_ble_eq_true rfl))  v3 20 (mz_pL N 232 123 (cf_423_0 331 3780 (v3 + 12) 8 N)) h2 hq) (g_i2l (g_putL (mz_at hS (Nat.le_of_ble_eq_true rfl) mzcS_232) mzcf_12_124 ?_))
  refine g_weak ?_ (g_cl (cg_424_180 hd hS hR v3 (mz_pL (mz_pL N 232 123 (cf_423_0 331 3780 (v3 + 12) 8 N)) 232 124 ((cf_425_0 v3 20 (mz_pL N 232 123 (cf_423_0 331 3780 (v3 + 12) 8 N))).toInt64)) hr hp hC))
  exact ⟨rfl, rfl, trivial⟩
theorem cb_424_237 (hd : 2 ≤ d) (hS : mz_extR S 342) (hR : mz_rok R 342)  (v3 : Int32) (s : Int32 × mz_N) {C0 : (mz_N) → Prop} (hr : ∀ (N2 : mz_N), C0 N2 → Q (.inl none) (mz_k S R N2 b t)) {C1 : ((Int32 × mz_N) ⊕ (mz_N)) → Prop} (hc1 : ∀ s2, C1 (.inl s2) → mz_G (d, mz_X0 L xs, none, [], mk_424, 5, Q) 237 mt_424_237 [(0, .ref 232), (3, .int v3), (4, .int s2.1)] [] false (mz_k S R s2.2 b t)) (hx1 : ∀ z, C1 (.inr z) → C0 z) (hp : cd_424_237 v3 s) (hC : C1 (cq_424_237 v3 s)) : mz_G (d, mz_X0 L xs, none, [], mk_424, 5, Q) 237 mt_424_237 [(0, .ref 232), (3, .int v3), (4, .int s.1)] [] false (mz_k S R s.2 b t) := by
  unfold cq_424_237 at hC
  unfold cd_424_237 at hp
  refine g_iload rfl (g_iconst mzi_3 ?_)
  refine g_icge (tg := 268) rfl ms_424_268 hC (fun h1 hC => ?_) (fun h1 hC => ?_)
  · have hp := hp.1 h1
    refine g_aload_n rfl (g_getR (mz_at hS (Nat.le_of_ble_eq_true rfl) mzcS_232) mzcf_12_22 (mz_rb hR (Nat.le_of_ble_eq_true rfl) rfl mzcR_232_22) (g_iload rfl (g_aload_n rfl (g_iload_n rfl (g_bipush mzb_12 (g_iconst mzi_4 (g_iload rfl ?_)))))))
    refine g_imul (g_iadd ?_)
    obtain ⟨h2, hp⟩ := hp
    refine g_v3v (Nat.le_of_ble_eq_true rfl) (mz_at hS (Nat.le_of_ble_eq_true rfl) mzcS_232) (fun _ hq => cs_425 (Nat.le_trans (Nat.le_of_ble_eq_true rfl) hd) (hS.le (Nat.le_of_ble_eq_true rfl)) (hR.le (Nat.le_of_ble_eq_true rfl))  v3 (12 + (4 * s.1)) s.2 h2 hq) ?_
    have h3 := hp
    refine g_iast (mz_at hS (Nat.le_of_ble_eq_true rfl) mzcS_249) h3 (g_iinc rfl mzi_1 (Nat.le_of_ble_eq_true rfl) rfl (g_goto (tg := 237) rfl ms_424_237 ?_))
    refine g_weak ?_ (g_cl (hc1 ((s.1 + 1), mz_wI s.2 249 s.1 (cf_425_0 v3 (12 + (4 * s.1)) s.2)) hC))
    exact ⟨rfl, rfl, rfl, trivial⟩
  · have hp := hp.2 h1
    refine g_goto (tg := 560) rfl ms_424_560 ?_
    exact g_vret rfl (hr _ (hx1 _ hC))
theorem cg_424_237 (hd : 2 ≤ d) (hS : mz_extR S 342) (hR : mz_rok R 342)  (v3 : Int32) (v4 : Int32) (N : mz_N) {C0 : (mz_N) → Prop} (hr : ∀ (N2 : mz_N), C0 N2 → Q (.inl none) (mz_k S R N2 b t)) (hp : cp_424_237 v3 v4 N) (hC : C0 (cf_424_237 v3 v4 N)) : mz_G (d, mz_X0 L xs, none, [], mk_424, 5, Q) 237 mt_424_237 [(0, .ref 232), (3, .int v3), (4, .int v4)] [] false (mz_k S R N b t) := by
  obtain ⟨n, hn⟩ := hp
  exact g_loop (G := fun s => mz_G (d, mz_X0 L xs, none, [], mk_424, 5, Q) 237 mt_424_237 [(0, .ref 232), (3, .int v3), (4, .int s.1)] [] false (mz_k S R s.2 b t)) (C := C0) (fun C2 hc hx s hP hC => cb_424_237 hd hS hR v3 s hr hc hx hP hC) n (v4, N) hn hC
theorem cg_424_223 (hd : 2 ≤ d) (hS : mz_extR S 342) (hR : mz_rok R 342)  (v3 : Int32) (N : mz_N) {C0 : (mz_N) → Prop} (hr : ∀ (N2 : mz_N), C0 N2 → Q (.inl none) (mz_k S R N2 b t)) (hp : cp_424_223 v3 N) (hC : C0 (cf_424_223 v3 N)) : mz_G (d, mz_X0 L xs, none, [], mk_424, 5, Q) 223 mt_424_223 [(0, .ref 232), (3, .int v3)] [] false (mz_k S R N b t) := by
  unfold cf_424_223 at hC
  unfold cp_424_223 at hp
  refine g_aload_n rfl (g_aload_n rfl (g_iload_n rfl (g_bipush mzb_8 ?_)))
  obtain ⟨h1, hp⟩ := hp
  refine g_v3v (Nat.le_of_ble_eq_true rfl) (mz_at hS (Nat.le_of_ble_eq_true rfl) mzcS_232) (fun _ hq => cs_425 (Nat.le_trans (Nat.le_of_ble_eq_true rfl) hd) (hS.le (Nat.le_of_ble_eq_true rfl)) (hR.le (Nat.le_of_ble_eq_true rfl))  v3 8 N h1 hq) (g_putI (mz_at hS (Nat.le_of_ble_eq_true rfl) mzcS_232) mzcf_12_21 (g_iconst mzi_0 (g_istore (Nat.le_of_ble_eq_true rfl) rfl ?_)))
  refine g_weak ?_ (g_cl (cg_424_237 hd hS hR v3 0 (mz_pI N 232 21 (cf_425_0 v3 8 N)) hr hp hC))
  exact ⟨rfl, rfl, rfl, trivial⟩
theorem cg_424_0 (hd : 2 ≤ d) (hS : mz_extR S 342) (hR : mz_rok R 342)  (v1 : Int32) (v2 : Int32) (v3 : Int32) (N : mz_N) {C0 : (mz_N) → Prop} (hr : ∀ (N2 : mz_N), C0 N2 → Q (.inl none) (mz_k S R N2 b t)) (hp : cp_424_0 v1 v2 v3 N) (hC : C0 (cf_424_0 v1 v2 v3 N)) : mz_G (d, mz_X0 L xs, none, [], mk_424, 5, Q) 0 mk_424 [(0, .ref 232), (1, .int v1), (2, .int v2), (3, .int v3)] [] true (mz_k S R N b t) := by
  unfold cf_424_0 at hC
  unfold cp_424_0 at hp
  refine g_iload_n rfl ?_
  refine mz_cs hC (fun h1 hC => ?_) (fun h1 hC => ?_)
  · have hp := hp.1 h1
    refine g_brn (tg := 44) (by rw [h1]; rfl) (by decide) rfl ?_
    refine g_aload_n rfl (g_getR (mz_at hS (Nat.le_of_ble_eq_true rfl) mzcS_232) mzcf_12_120 (mz_rb hR (Nat.le_of_ble_eq_true rfl) rfl mzcR_232_120) (g_iload_n rfl (g_aload_n rfl (g_getR (mz_at hS (Nat.le_of_ble_eq_true rfl) mzcS_232) mzcf_12_131 (mz_rb hR (Nat.le_of_ble_eq_true rfl) rfl mzcR_232_131) (g_iload_n rfl (g_bipush mzb_8 ?_))))))
    obtain ⟨h27, hp⟩ := hp
    refine g_s3v (Nat.le_of_ble_eq_true rfl) (fun _ hq => cs_423 (Nat.le_trans (Nat.le_of_ble_eq_true rfl) hd) (hS.le (Nat.le_of_ble_eq_true rfl)) (hR.le (Nat.le_of_ble_eq_true rfl)) 331 3780 (mz_at hS (Nat.le_of_ble_eq_true rfl) mzcS_331) v3 8 N h27 hq) ?_
    obtain ⟨h28, hp⟩ := hp
    refine g_last (mz_at hS (Nat.le_of_ble_eq_true rfl) mzcS_324) h28 (g_aload_n rfl (g_getR (mz_at hS (Nat.le_of_ble_eq_true rfl) mzcS_232) mzcf_12_121 (mz_rb hR (Nat.le_of_ble_eq_true rfl) rfl mzcR_232_121) (g_iload_n rfl (g_aload_n rfl (g_getR (mz_at hS (Nat.le_of_ble_eq_true rfl) mzcS_232) mzcf_12_131 (mz_rb hR (Nat.le_of_ble_eq_true rfl) rfl mzcR_232_131) (g_iload_n rfl (g_bipush mzb_8 ?_)))))))
    refine g_iadd (g_bipush mzb_8 ?_)
    obtain ⟨h29, hp⟩ := hp
    refine g_s3v (Nat.le_of_ble_eq_true rfl) (fun _ hq => cs_423 (Nat.le_trans (Nat.le_of_ble_eq_true rfl) hd) (hS.le (Nat.le_of_ble_eq_true rfl)) (hR.le (Nat.le_of_ble_eq_true rfl)) 331 3780 (mz_at hS (Nat.le_of_ble_eq_true rfl) mzcS_331) (v3 + 8) 8 (mz_wL N 324 v2 (cf_423_0 331 3780 v3 8 N)) h29 hq) ?_
    obtain ⟨h30, hp⟩ := hp
    refine g_last (mz_at hS (Nat.le_of_ble_eq_true rfl) mzcS_325) h30 ?_
    refine g_weak ?_ (g_cl (cg_424_79 hd hS hR v2 v3 (mz_wL (mz_wL N 324 v2 (cf_423_0 331 3780 v3 8 N)) 325 v2 (cf_423_0 331 3780 (v3 + 8) 8 (mz_wL N 324 v2 (cf_423_0 331 3780 v3 8 N)))) hr hp hC))
    exact ⟨rfl, rfl, rfl, trivial⟩
  · have hp := hp.2 h1
    refine mz_cs hC (fun h2 hC => ?_) (fun h2 hC => ?_)
    · have hp := hp.1 h2
      refine g_br (tg := 124) (by rw [h2]; rfl) ms_424_124 ?_
      refine g_aload_n rfl (g_aload_n rfl (g_iload_n rfl (g_iconst mzi_0 ?_)))
      obtain ⟨h25, hp⟩ := hp
      refine g_v3v (Nat.le_of_ble_eq_true rfl) (mz_at hS (Nat.le_of_ble_eq_true rfl) mzcS_232) (fun _ hq => cs_425 (Nat.le_trans (Nat.le_of_ble_eq_true rfl) hd) (hS.le (Nat.le_of_ble_eq_true rfl)) (hR.le (Nat.le_of_ble_eq_true rfl))  v3 0 N h25 hq) (g_i2l (g_putL (mz_at hS (Nat.le_of_ble_eq_true rfl) mzcS_232) mzcf_12_2 (g_aload_n rfl (g_aload_n rfl (g_getR (mz_at hS (Nat.le_of_ble_eq_true rfl) mzcS_232) mzcf_12_131 (mz_rb hR (Nat.le_of_ble_eq_true rfl) rfl mzcR_232_131) (g_iload_n rfl (g_iconst mzi_4 ?_)))))))
      refine g_iadd (g_bipush mzb_8 ?_)
      obtain ⟨h26, hp⟩ := hp
      refine g_s3v (Nat.le_of_ble_eq_true rfl) (fun _ hq => cs_423 (Nat.le_trans (Nat.le_of_ble_eq_true rfl) hd) (hS.le (Nat.le_of_ble_eq_true rfl)) (hR.le (Nat.le_of_ble_eq_true rfl)) 331 3780 (mz_at hS (Nat.le_of_ble_eq_true rfl) mzcS_331) (v3 + 4) 8 (mz_pL N 232 2 ((cf_425_0 v3 0 N).toInt64)) h26 hq) (g_putL (mz_at hS (Nat.le_of_ble_eq_true rfl) mzcS_232) mzcf_12_122 ?_)
      refine g_weak ?_ (g_cl (cg_424_151 hd hS hR v3 (mz_pL (mz_pL N 232 2 ((cf_425_0 v3 0 N).toInt64)) 232 122 (cf_423_0 331 3780 (v3 + 4) 8 (mz_pL N 232 2 ((cf_425_0 v3 0 N).toInt64)))) hr hp hC))
      exact ⟨rfl, rfl, trivial⟩
    · have hp := hp.2 h2
      refine mz_cs hC (fun h3 hC => ?_) (fun h3 hC => ?_)
      · have hp := hp.1 h3
        refine g_br (tg := 195) (by rw [h3]; rfl) ms_424_195 ?_
        refine g_aload_n rfl (g_getR (mz_at hS (Nat.le_of_ble_eq_true rfl) mzcS_232) mzcf_12_118 (mz_rb hR (Nat.le_of_ble_eq_true rfl) rfl mzcR_232_118) (g_bipush mzb_10 (g_aload_n rfl (g_iload_n rfl (g_iconst mzi_0 ?_)))))
        obtain ⟨h23, hp⟩ := hp
        refine g_v3v (Nat.le_of_ble_eq_true rfl) (mz_at hS (Nat.le_of_ble_eq_true rfl) mzcS_232) (fun _ hq => cs_425 (Nat.le_trans (Nat.le_of_ble_eq_true rfl) hd) (hS.le (Nat.le_of_ble_eq_true rfl)) (hR.le (Nat.le_of_ble_eq_true rfl))  v3 0 N h23 hq) (g_i2l (g_last (mz_at hS (Nat.le_of_ble_eq_true rfl) mzcS_322) (mz_ibd (by decide)) (g_aload_n rfl (g_getR (mz_at hS (Nat.le_of_ble_eq_true rfl) mzcS_232) mzcf_12_117 (mz_rb hR (Nat.le_of_ble_eq_true rfl) rfl mzcR_232_117) (g_bipush mzb_10 (g_aload_n rfl (g_iload_n rfl ?_)))))))
        refine g_iconst mzi_4 ?_
        obtain ⟨h24, hp⟩ := hp
        refine g_v3v (Nat.le_of_ble_eq_true rfl) (mz_at hS (Nat.le_of_ble_eq_true rfl) mzcS_232) (fun _ hq => cs_425 (Nat.le_trans (Nat.le_of_ble_eq_true rfl) hd) (hS.le (Nat.le_of_ble_eq_true rfl)) (hR.le (Nat.le_of_ble_eq_true rfl))  v3 4 (mz_wL N 322 10 ((cf_425_0 v3 0 N).toInt64)) h24 hq) (g_i2l (g_last (mz_at hS (Nat.le_of_ble_eq_true rfl) mzcS_321) (mz_ibd (by decide)) ?_))
        refine g_weak ?_ (g_cl (cg_424_223 hd hS hR v3 (mz_wL (mz_wL N 322 10 ((cf_425_0 v3 0 N).toInt64)) 321 10 ((cf_425_0 v3 4 (mz_wL N 322 10 ((cf_425_0 v3 0 N).toInt64))).toInt64)) hr hp hC))
        exact ⟨rfl, rfl, trivial⟩
      · have hp := hp.2 h3
        refine mz_cs hC (fun h4 hC => ?_) (fun h4 hC => ?_)
        · have hp := hp.1 h4
          refine g_br (tg := 271) (by rw [h4]; rfl) ms_424_271 ?_
          refine g_aload_n rfl (g_getR (mz_at hS (Nat.le_of_ble_eq_true rfl) mzcS_232) mzcf_12_23 (mz_rb hR (Nat.le_of_ble_eq_true rfl) rfl mzcR_232_23) (g_iload_n rfl (g_aload_n rfl (g_iload_n rfl (g_iconst mzi_0 ?_)))))
          obtain ⟨h19, hp⟩ := hp
          refine g_v3v (Nat.le_of_ble_eq_true rfl) (mz_at hS (Nat.le_of_ble_eq_true rfl) mzcS_232) (fun _ hq => cs_425 (Nat.le_trans (Nat.le_of_ble_eq_true rfl) hd) (hS.le (Nat.le_of_ble_eq_true rfl)) (hR.le (Nat.le_of_ble_eq_true rfl))  v3 0 N h19 hq) ?_
          obtain ⟨h20, hp⟩ := hp
          refine g_iast (mz_at hS (Nat.le_of_ble_eq_true rfl) mzcS_250) h20 (g_aload_n rfl (g_getR (mz_at hS (Nat.le_of_ble_eq_true rfl) mzcS_232) mzcf_12_100 (mz_rb hR (Nat.le_of_ble_eq_true rfl) rfl mzcR_232_100) (g_iload_n rfl (g_aload_n rfl (g_iload_n rfl (g_iconst mzi_4 ?_))))))
          obtain ⟨h21, hp⟩ := hp
          refine g_v3v (Nat.le_of_ble_eq_true rfl) (mz_at hS (Nat.le_of_ble_eq_true rfl) mzcS_232) (fun _ hq => cs_425 (Nat.le_trans (Nat.le_of_ble_eq_true rfl) hd) (hS.le (Nat.le_of_ble_eq_true rfl)) (hR.le (Nat.le_of_ble_eq_true rfl))  v3 4 (mz_wI N 250 v2 (cf_425_0 v3 0 N)) h21 hq) (g_i2l ?_)
          obtain ⟨h22, hp⟩ := hp
          refine g_last (mz_at hS (Nat.le_of_ble_eq_true rfl) mzcS_305) h22 ?_
          refine g_weak ?_ (g_cl (cg_424_296 hd hS hR v2 v3 (mz_wL (mz_wI N 250 v2 (cf_425_0 v3 0 N)) 305 v2 ((cf_425_0 v3 4 (mz_wI N 250 v2 (cf_425_0 v3 0 N))).toInt64)) hr hp hC))
          exact ⟨rfl, rfl, rfl, trivial⟩
        · have hp := hp.2 h4
          refine mz_cs hC (fun h5 hC => ?_) (fun h5 hC => ?_)
          · have hp := hp.1 h5
            refine g_br (tg := 334) (by rw [h5]; rfl) ms_424_334 ?_
            refine g_aload_n rfl (g_getR (mz_at hS (Nat.le_of_ble_eq_true rfl) mzcS_232) mzcf_12_80 (mz_rb hR (Nat.le_of_ble_eq_true rfl) rfl mzcR_232_80) (g_iload_n rfl (g_aload_n rfl (g_iload_n rfl (g_iconst mzi_0 ?_)))))
            obtain ⟨h17, hp⟩ := hp
            refine g_v3v (Nat.le_of_ble_eq_true rfl) (mz_at hS (Nat.le_of_ble_eq_true rfl) mzcS_232) (fun _ hq => cs_422 (Nat.le_trans (Nat.le_of_ble_eq_true rfl) hd) (hS.le (Nat.le_of_ble_eq_true rfl)) (hR.le (Nat.le_of_ble_eq_true rfl))  v3 0 N h17 hq) (g_iconst mzi_1 ?_)
            refine g_icne (tg := 353) rfl ms_424_353 hC (fun h18 hC => ?_) (fun h18 hC => ?_)
            · have hp := hp.1 h18
              refine g_iconst mzi_1 (g_goto (tg := 354) rfl ms_424_354 ?_)
              refine g_weak ?_ (g_cl (cg_424_354 hd hS hR v2 true v2 v3 N hr hp hC))
              exact ⟨rfl, rfl, rfl, trivial⟩
            · have hp := hp.2 h18
              refine g_iconst mzi_0 ?_
              refine g_weak ?_ (g_cl (cg_424_354 hd hS hR v2 false v2 v3 N hr hp hC))
              exact ⟨rfl, rfl, rfl, trivial⟩
          · have hp := hp.2 h5
            refine mz_cs hC (fun h6 hC => ?_) (fun h6 hC => ?_)
            · have hp := hp.1 h6
              refine g_br (tg := 428) (by rw [h6]; rfl) ms_424_428 ?_
              refine g_aload_n rfl (g_getR (mz_at hS (Nat.le_of_ble_eq_true rfl) mzcS_232) mzcf_12_103 (mz_rb hR (Nat.le_of_ble_eq_true rfl) rfl mzcR_232_103) (g_iload_n rfl (g_iconst mzi_1 ?_)))
              obtain ⟨h14, hp⟩ := hp
              refine g_zast (z := true) (mz_at hS (Nat.le_of_ble_eq_true rfl) mzcS_308) h14 (g_aload_n rfl (g_getR (mz_at hS (Nat.le_of_ble_eq_true rfl) mzcS_232) mzcf_12_104 (mz_rb hR (Nat.le_of_ble_eq_true rfl) rfl mzcR_232_104) (g_iload_n rfl (g_aload_n rfl (g_iload_n rfl (g_iconst mzi_1 ?_))))))
              obtain ⟨h15, hp⟩ := hp
              refine g_v3v (Nat.le_of_ble_eq_true rfl) (mz_at hS (Nat.le_of_ble_eq_true rfl) mzcS_232) (fun _ hq => cs_422 (Nat.le_trans (Nat.le_of_ble_eq_true rfl) hd) (hS.le (Nat.le_of_ble_eq_true rfl)) (hR.le (Nat.le_of_ble_eq_true rfl))  v3 1 (mz_wI N 308 v2 (mz_b01 true)) h15 hq) ?_
              obtain ⟨h16, hp⟩ := hp
              refine g_iast (mz_at hS (Nat.le_of_ble_eq_true rfl) mzcS_309) h16 ?_
              refine g_weak ?_ (g_cl (cg_424_447 hd hS hR v2 v3 (mz_wI (mz_wI N 308 v2 (mz_b01 true)) 309 v2 (cf_422_0 v3 1 (mz_wI N 308 v2 (mz_b01 true)))) hr hp hC))
              exact ⟨rfl, rfl, rfl, trivial⟩
            · have hp := hp.2 h6
              refine mz_cs hC (fun h7 hC => ?_) (fun h7 hC => ?_)
              · have hp := hp.1 h7
                refine g_br (tg := 462) (by rw [h7]; rfl) ms_424_462 ?_
                refine g_aload_n rfl (g_getR (mz_at hS (Nat.le_of_ble_eq_true rfl) mzcS_232) mzcf_12_106 (mz_rb hR (Nat.le_of_ble_eq_true rfl) rfl mzcR_232_106) (g_iload_n rfl (g_iconst mzi_1 ?_)))
                obtain ⟨h11, hp⟩ := hp
                refine g_zast (z := true) (mz_at hS (Nat.le_of_ble_eq_true rfl) mzcS_311) h11 (g_aload_n rfl (g_getR (mz_at hS (Nat.le_of_ble_eq_true rfl) mzcS_232) mzcf_12_108 (mz_rb hR (Nat.le_of_ble_eq_true rfl) rfl mzcR_232_108) (g_iload_n rfl (g_aload_n rfl (g_iload_n rfl (g_iconst mzi_1 ?_))))))
                obtain ⟨h12, hp⟩ := hp
                refine g_v3v (Nat.le_of_ble_eq_true rfl) (mz_at hS (Nat.le_of_ble_eq_true rfl) mzcS_232) (fun _ hq => cs_422 (Nat.le_trans (Nat.le_of_ble_eq_true rfl) hd) (hS.le (Nat.le_of_ble_eq_true rfl)) (hR.le (Nat.le_of_ble_eq_true rfl))  v3 1 (mz_wI N 311 v2 (mz_b01 true)) h12 hq) ?_
                obtain ⟨h13, hp⟩ := hp
                refine g_iast (mz_at hS (Nat.le_of_ble_eq_true rfl) mzcS_313) h13 ?_
                refine g_weak ?_ (g_cl (cg_424_481 hd hS hR v2 v3 (mz_wI (mz_wI N 311 v2 (mz_b01 true)) 313 v2 (cf_422_0 v3 1 (mz_wI N 311 v2 (mz_b01 true)))) hr hp hC))
                exact ⟨rfl, rfl, rfl, trivial⟩
              · have hp := hp.2 h7
                refine g_br (tg := 529) ((mz_tsw_d (l := [8, 9, 10, 11, 12, 13, 14]) (mz_rng 8 6) ⟨h1, h2, h3, h4, h5, h6, h7, trivial⟩).trans (mz_tg_t rfl)) ms_424_529 ?_
                refine g_aload_n rfl (g_getR (mz_at hS (Nat.le_of_ble_eq_true rfl) mzcS_232) mzcf_12_75 (mz_rb hR (Nat.le_of_ble_eq_true rfl) rfl mzcR_232_75) (g_iload_n rfl (g_iconst mzi_1 ?_)))
                obtain ⟨h8, hp⟩ := hp
                refine g_zast (z := true) (mz_at hS (Nat.le_of_ble_eq_true rfl) mzcS_282) h8 (g_aload_n rfl (g_getR (mz_at hS (Nat.le_of_ble_eq_true rfl) mzcS_232) mzcf_12_76 (mz_rb hR (Nat.le_of_ble_eq_true rfl) rfl mzcR_232_76) (g_iload_n rfl (g_aload_n rfl (g_iload_n rfl (g_iconst mzi_1 ?_))))))
                obtain ⟨h9, hp⟩ := hp
                refine g_v3v (Nat.le_of_ble_eq_true rfl) (mz_at hS (Nat.le_of_ble_eq_true rfl) mzcS_232) (fun _ hq => cs_422 (Nat.le_trans (Nat.le_of_ble_eq_true rfl) hd) (hS.le (Nat.le_of_ble_eq_true rfl)) (hR.le (Nat.le_of_ble_eq_true rfl))  v3 1 (mz_wI N 282 v2 (mz_b01 true)) h9 hq) ?_
                obtain ⟨h10, hp⟩ := hp
                refine g_iast (mz_at hS (Nat.le_of_ble_eq_true rfl) mzcS_283) h10 ?_
                refine g_weak ?_ (g_cl (cg_424_548 hd hS hR v2 v3 (mz_wI (mz_wI N 282 v2 (mz_b01 true)) 283 v2 (cf_422_0 v3 1 (mz_wI N 282 v2 (mz_b01 true)))) hr hp hC))
                exact ⟨rfl, rfl, rfl, trivial⟩
theorem cs_424 (hd : 3 ≤ d) (hS : mz_extR S 342) (hR : mz_rok R 342)  (v1 : Int32) (v2 : Int32) (v3 : Int32) (N : mz_N) (hp : cp_424_0 v1 v2 v3 N) (hq : Q (.inl none) (mz_k S R (cf_424_0 v1 v2 v3 N) b t)) : mz_Ed (mz_X0 L xs) d 424 [.ref 232, .int v1, .int v2, .int v3] (mz_k S R N b t) Q :=
  by
  refine g_in mzq_424 (Nat.le_of_ble_eq_true rfl) (Nat.le_of_ble_eq_true rfl) (Nat.le_trans (Nat.le_of_ble_eq_true rfl) hd) ?_
  refine g_weak ?_ (cg_424_0 (d := d - 1) (by omega) hS hR v1 v2 v3 N (C0 := fun z => Q (.inl none) (mz_k S R z b t)) (fun _ h => h) hp hq)
  exact ⟨rfl, rfl, rfl, rfl, trivial⟩
/-! 421 KeptHouseModel.read (III)V -/
theorem ms_421_0 : mz_sf mk_421 0 = mk_421 := mz_sf_zero _
theorem ms_421_47 : mz_sf mk_421 47 = mt_421_47 := mz_sf_add ms_421_0 (t := 47) rfl rfl
theorem ms_421_84 : mz_sf mk_421 84 = mt_421_84 := mz_sf_add ms_421_47 (t := 37) rfl rfl
theorem ms_421_90 : mz_sf mk_421 90 = mt_421_90 := mz_sf_add ms_421_84 (t := 6) rfl rfl
theorem ms_421_93 : mz_sf mk_421 93 = mt_421_93 := mz_sf_add ms_421_90 (t := 3) rfl rfl
theorem ms_421_96 : mz_sf mk_421 96 = mt_421_96 := mz_sf_add ms_421_93 (t := 3) rfl rfl
theorem ms_421_134 : mz_sf mk_421 134 = mt_421_134 := mz_sf_add ms_421_96 (t := 38) rfl rfl
theorem ms_421_140 : mz_sf mk_421 140 = mt_421_140 := mz_sf_add ms_421_134 (t := 6) rfl rfl
theorem ms_421_143 : mz_sf mk_421 143 = mt_421_143 := mz_sf_add ms_421_140 (t := 3) rfl rfl
theorem ms_421_146 : mz_sf mk_421 146 = mt_421_146 := mz_sf_add ms_421_143 (t := 3) rfl rfl
theorem ms_421_172 : mz_sf mk_421 172 = mt_421_172 := mz_sf_add ms_421_146 (t := 26) rfl rfl
theorem ms_421_178 : mz_sf mk_421 178 = mt_421_178 := mz_sf_add ms_421_172 (t := 6) rfl rfl
theorem ms_421_181 : mz_sf mk_421 181 = mt_421_181 := mz_sf_add ms_421_178 (t := 3) rfl rfl
theorem ms_421_184 : mz_sf mk_421 184 = mt_421_184 := mz_sf_add ms_421_181 (t := 3) rfl rfl
theorem ms_421_219 : mz_sf mk_421 219 = mt_421_219 := mz_sf_add ms_421_184 (t := 35) rfl rfl
theorem ms_421_225 : mz_sf mk_421 225 = mt_421_225 := mz_sf_add ms_421_219 (t := 6) rfl rfl
theorem ms_421_228 : mz_sf mk_421 228 = mt_421_228 := mz_sf_add ms_421_225 (t := 3) rfl rfl
theorem ms_421_231 : mz_sf mk_421 231 = mt_421_231 := mz_sf_add ms_421_228 (t := 3) rfl rfl
theorem ms_421_257 : mz_sf mk_421 257 = mt_421_257 := mz_sf_add ms_421_231 (t := 26) rfl rfl
theorem ms_421_263 : mz_sf mk_421 263 = mt_421_263 := mz_sf_add ms_421_257 (t := 6) rfl rfl
theorem ms_421_266 : mz_sf mk_421 266 = mt_421_266 := mz_sf_add ms_421_263 (t := 3) rfl rfl
theorem ms_421_269 : mz_sf mk_421 269 = mt_421_269 := mz_sf_add ms_421_266 (t := 3) rfl rfl
theorem ms_421_301 : mz_sf mk_421 301 = mt_421_301 := mz_sf_add ms_421_269 (t := 32) rfl rfl
theorem ms_421_307 : mz_sf mk_421 307 = mt_421_307 := mz_sf_add ms_421_301 (t := 6) rfl rfl
theorem ms_421_323 : mz_sf mk_421 323 = mt_421_323 := mz_sf_add ms_421_307 (t := 16) rfl rfl
theorem ms_421_327 : mz_sf mk_421 327 = mt_421_327 := mz_sf_add ms_421_323 (t := 4) rfl rfl
theorem ms_421_333 : mz_sf mk_421 333 = mt_421_333 := mz_sf_add ms_421_327 (t := 6) rfl rfl
theorem ms_421_336 : mz_sf mk_421 336 = mt_421_336 := mz_sf_add ms_421_333 (t := 3) rfl rfl
theorem ms_421_371 : mz_sf mk_421 371 = mt_421_371 := mz_sf_add ms_421_336 (t := 35) rfl rfl
theorem ms_421_378 : mz_sf mk_421 378 = mt_421_378 := mz_sf_add ms_421_371 (t := 7) rfl rfl
theorem ms_421_400 : mz_sf mk_421 400 = mt_421_400 := mz_sf_add ms_421_378 (t := 22) rfl rfl
theorem ms_421_407 : mz_sf mk_421 407 = mt_421_407 := mz_sf_add ms_421_400 (t := 7) rfl rfl
theorem ms_421_414 : mz_sf mk_421 414 = mt_421_414 := mz_sf_add ms_421_407 (t := 7) rfl rfl
theorem ms_421_417 : mz_sf mk_421 417 = mt_421_417 := mz_sf_add ms_421_414 (t := 3) rfl rfl
theorem ms_421_424 : mz_sf mk_421 424 = mt_421_424 := mz_sf_add ms_421_417 (t := 7) rfl rfl
set_option maxRecDepth 100000 in
theorem mzq_421 : mz_PG0 421 = some (12, ⟨"KeptHouseModel", "read", "(III)V"⟩, prog_14_method_192_code, 5, none, [], mk_421, []) := rfl
theorem cg_421_134 (hd : 3 ≤ d) (hS : mz_extR S 342) (hR : mz_rok R 342)  (v2 : Int32) (v3 : Int32) (v4 : Int32) (N : mz_N) {C0 : (mz_N) → Prop} (hr : ∀ (N2 : mz_N), C0 N2 → Q (.inl none) (mz_k S R N2 b t)) {C1 : ((Int32 × mz_N) ⊕ (mz_N)) → Prop} (hc1 : ∀ s2, C1 (.inl s2) → mz_G (d, mz_X0 L xs, none, [], mk_421, 5, Q) 96 mt_421_96 [(0, .ref 232), (2, .int v2), (3, .int v3), (4, .int s2.1)] [] false (mz_k S R s2.2 b t)) (hx1 : ∀ z, C1 (.inr z) → C0 z) (hp : cp_421_134 v2 v3 v4 N) (hC : C1 (cf_421_134 v2 v3 v4 N)) : mz_G (d, mz_X0 L xs, none, [], mk_421, 5, Q) 134 mt_421_134 [(0, .ref 232), (2, .int v2), (3, .int v3), (4, .int v4)] [] false (mz_k S R N b t) := by
  unfold cf_421_134 at hC
  unfold cp_421_134 at hp
  refine g_iinc rfl mzi_1 (Nat.le_of_ble_eq_true rfl) rfl (g_goto (tg := 96) rfl ms_421_96 ?_)
  refine g_weak ?_ (g_cl (hc1 ((v4 + 1), N) hC))
  exact ⟨rfl, rfl, rfl, rfl, trivial⟩
theorem cb_421_96 (hd : 3 ≤ d) (hS : mz_extR S 342) (hR : mz_rok R 342)  (v2 : Int32) (v3 : Int32) (s : Int32 × mz_N) {C0 : (mz_N) → Prop} (hr : ∀ (N2 : mz_N), C0 N2 → Q (.inl none) (mz_k S R N2 b t)) {C1 : ((Int32 × mz_N) ⊕ (mz_N)) → Prop} (hc1 : ∀ s2, C1 (.inl s2) → mz_G (d, mz_X0 L xs, none, [], mk_421, 5, Q) 96 mt_421_96 [(0, .ref 232), (2, .int v2), (3, .int v3), (4, .int s2.1)] [] false (mz_k S R s2.2 b t)) (hx1 : ∀ z, C1 (.inr z) → C0 z) (hp : cd_421_96 v2 v3 s) (hC : C1 (cq_421_96 v2 v3 s)) : mz_G (d, mz_X0 L xs, none, [], mk_421, 5, Q) 96 mt_421_96 [(0, .ref 232), (2, .int v2), (3, .int v3), (4, .int s.1)] [] false (mz_k S R s.2 b t) := by
  unfold cq_421_96 at hC
  unfold cd_421_96 at hp
  refine g_iload rfl (g_bipush mzb_48 ?_)
  refine g_icge (tg := 140) rfl ms_421_140 hC (fun h1 hC => ?_) (fun h1 hC => ?_)
  · have hp := hp.1 h1
    refine g_aload_n rfl (g_getR (mz_at hS (Nat.le_of_ble_eq_true rfl) mzcS_232) mzcf_12_5 (mz_rb hR (Nat.le_of_ble_eq_true rfl) rfl mzcR_232_5) (g_bipush mzb_48 (g_iload_n rfl (g_imul (g_iload rfl (g_iadd (g_aload_n rfl ?_)))))))
    refine g_iload_n rfl (g_iload rfl (g_iconst mzi_2 (g_idiv (by decide) ?_)))
    obtain ⟨h2, hp⟩ := hp
    refine g_v3v (Nat.le_of_ble_eq_true rfl) (mz_at hS (Nat.le_of_ble_eq_true rfl) mzcS_232) (fun _ hq => cs_422 (Nat.le_trans (Nat.le_of_ble_eq_true rfl) hd) (hS.le (Nat.le_of_ble_eq_true rfl)) (hR.le (Nat.le_of_ble_eq_true rfl))  v3 (s.1 / 2) s.2 h2 hq) (g_iconst mzi_4 (g_iload rfl (g_iconst mzi_2 (g_irem (by decide) (g_imul (g_ishr (g_bipush mzb_15 ?_)))))))
    refine g_iand ?_
    obtain ⟨h3, hp⟩ := hp
    refine g_iast (mz_at hS (Nat.le_of_ble_eq_true rfl) mzcS_234) h3 ?_
    refine g_weak ?_ (g_cl (cg_421_134 hd hS hR v2 v3 s.1 (mz_wI s.2 234 ((48 * v2) + s.1) ((mz_ishr (cf_422_0 v3 (s.1 / 2) s.2) (4 * (mz_irem s.1 2))) &&& 15)) hr hc1 hx1 hp hC))
    exact ⟨rfl, rfl, rfl, rfl, trivial⟩
  · have hp := hp.2 h1
    refine g_goto (tg := 424) rfl ms_421_424 ?_
    exact g_vret rfl (hr _ (hx1 _ hC))
theorem cg_421_96 (hd : 3 ≤ d) (hS : mz_extR S 342) (hR : mz_rok R 342)  (v2 : Int32) (v3 : Int32) (v4 : Int32) (N : mz_N) {C0 : (mz_N) → Prop} (hr : ∀ (N2 : mz_N), C0 N2 → Q (.inl none) (mz_k S R N2 b t)) (hp : cp_421_96 v2 v3 v4 N) (hC : C0 (cf_421_96 v2 v3 v4 N)) : mz_G (d, mz_X0 L xs, none, [], mk_421, 5, Q) 96 mt_421_96 [(0, .ref 232), (2, .int v2), (3, .int v3), (4, .int v4)] [] false (mz_k S R N b t) := by
  obtain ⟨n, hn⟩ := hp
  exact g_loop (G := fun s => mz_G (d, mz_X0 L xs, none, [], mk_421, 5, Q) 96 mt_421_96 [(0, .ref 232), (2, .int v2), (3, .int v3), (4, .int s.1)] [] false (mz_k S R s.2 b t)) (C := C0) (fun C2 hc hx s hP hC => cb_421_96 hd hS hR v2 v3 s hr hc hx hP hC) n (v4, N) hn hC
theorem cb_421_231 (hd : 3 ≤ d) (hS : mz_extR S 342) (hR : mz_rok R 342)  (v2 : Int32) (v3 : Int32) (s : Int32 × mz_N) {C0 : (mz_N) → Prop} (hr : ∀ (N2 : mz_N), C0 N2 → Q (.inl none) (mz_k S R N2 b t)) {C1 : ((Int32 × mz_N) ⊕ (mz_N)) → Prop} (hc1 : ∀ s2, C1 (.inl s2) → mz_G (d, mz_X0 L xs, none, [], mk_421, 5, Q) 231 mt_421_231 [(0, .ref 232), (2, .int v2), (3, .int v3), (4, .int s2.1)] [] false (mz_k S R s2.2 b t)) (hx1 : ∀ z, C1 (.inr z) → C0 z) (hp : cd_421_231 v2 v3 s) (hC : C1 (cq_421_231 v2 v3 s)) : mz_G (d, mz_X0 L xs, none, [], mk_421, 5, Q) 231 mt_421_231 [(0, .ref 232), (2, .int v2), (3, .int v3), (4, .int s.1)] [] false (mz_k S R s.2 b t) := by
  unfold cq_421_231 at hC
  unfold cd_421_231 at hp
  refine g_iload rfl (g_bipush mzb_24 ?_)
  refine g_icge (tg := 263) rfl ms_421_263 hC (fun h1 hC => ?_) (fun h1 hC => ?_)
  · have hp := hp.1 h1
    refine g_aload_n rfl (g_getR (mz_at hS (Nat.le_of_ble_eq_true rfl) mzcS_232) mzcf_12_18 (mz_rb hR (Nat.le_of_ble_eq_true rfl) rfl mzcR_232_18) (g_bipush mzb_24 (g_iload_n rfl (g_imul (g_iload rfl (g_iadd (g_aload_n rfl ?_)))))))
    refine g_iload_n rfl (g_iload rfl ?_)
    obtain ⟨h2, hp⟩ := hp
    refine g_v3v (Nat.le_of_ble_eq_true rfl) (mz_at hS (Nat.le_of_ble_eq_true rfl) mzcS_232) (fun _ hq => cs_422 (Nat.le_trans (Nat.le_of_ble_eq_true rfl) hd) (hS.le (Nat.le_of_ble_eq_true rfl)) (hR.le (Nat.le_of_ble_eq_true rfl))  v3 s.1 s.2 h2 hq) ?_
    have h3 := hp
    refine g_iast (mz_at hS (Nat.le_of_ble_eq_true rfl) mzcS_246) h3 (g_iinc rfl mzi_1 (Nat.le_of_ble_eq_true rfl) rfl (g_goto (tg := 231) rfl ms_421_231 ?_))
    refine g_weak ?_ (g_cl (hc1 ((s.1 + 1), mz_wI s.2 246 ((24 * v2) + s.1) (cf_422_0 v3 s.1 s.2)) hC))
    exact ⟨rfl, rfl, rfl, rfl, trivial⟩
  · have hp := hp.2 h1
    refine g_goto (tg := 424) rfl ms_421_424 ?_
    exact g_vret rfl (hr _ (hx1 _ hC))
theorem cg_421_231 (hd : 3 ≤ d) (hS : mz_extR S 342) (hR : mz_rok R 342)  (v2 : Int32) (v3 : Int32) (v4 : Int32) (N : mz_N) {C0 : (mz_N) → Prop} (hr : ∀ (N2 : mz_N), C0 N2 → Q (.inl none) (mz_k S R N2 b t)) (hp : cp_421_231 v2 v3 v4 N) (hC : C0 (cf_421_231 v2 v3 v4 N)) : mz_G (d, mz_X0 L xs, none, [], mk_421, 5, Q) 231 mt_421_231 [(0, .ref 232), (2, .int v2), (3, .int v3), (4, .int v4)] [] false (mz_k S R N b t) := by
  obtain ⟨n, hn⟩ := hp
  exact g_loop (G := fun s => mz_G (d, mz_X0 L xs, none, [], mk_421, 5, Q) 231 mt_421_231 [(0, .ref 232), (2, .int v2), (3, .int v3), (4, .int s.1)] [] false (mz_k S R s.2 b t)) (C := C0) (fun C2 hc hx s hP hC => cb_421_231 hd hS hR v2 v3 s hr hc hx hP hC) n (v4, N) hn hC
theorem cg_421_327 (hd : 3 ≤ d) (hS : mz_extR S 342) (hR : mz_rok R 342)  (s1 : Int32) (N : mz_N) {C0 : (mz_N) → Prop} (hr : ∀ (N2 : mz_N), C0 N2 → Q (.inl none) (mz_k S R N2 b t)) (hp : cp_421_327 s1 N) (hC : C0 (cf_421_327 s1 N)) : mz_G (d, mz_X0 L xs, none, [], mk_421, 5, Q) 327 mt_421_327 [] [.int s1, .ref 232] false (mz_k S R N b t) := by
  unfold cf_421_327 at hC
  unfold cp_421_327 at hp
  refine g_putI (mz_at hS (Nat.le_of_ble_eq_true rfl) mzcS_232) mzcf_12_27 (g_goto (tg := 424) rfl ms_421_424 ?_)
  exact g_vret rfl (hr _ hC)
theorem cg_421_307 (hd : 3 ≤ d) (hS : mz_extR S 342) (hR : mz_rok R 342)  (v2 : Int32) (v3 : Int32) (N : mz_N) {C0 : (mz_N) → Prop} (hr : ∀ (N2 : mz_N), C0 N2 → Q (.inl none) (mz_k S R N2 b t)) (hp : cp_421_307 v2 v3 N) (hC : C0 (cf_421_307 v2 v3 N)) : mz_G (d, mz_X0 L xs, none, [], mk_421, 5, Q) 307 mt_421_307 [(0, .ref 232), (2, .int v2), (3, .int v3)] [] false (mz_k S R N b t) := by
  unfold cf_421_307 at hC
  unfold cp_421_307 at hp
  refine g_aload_n rfl (g_iload_n rfl (g_bipush mzb_7 ?_))
  refine g_icne (tg := 323) rfl ms_421_323 hC (fun h1 hC => ?_) (fun h1 hC => ?_)
  · have hp := hp.1 h1
    refine g_aload_n rfl (g_iload_n rfl (g_iconst mzi_0 ?_))
    obtain ⟨h2, hp⟩ := hp
    refine g_v3v (Nat.le_of_ble_eq_true rfl) (mz_at hS (Nat.le_of_ble_eq_true rfl) mzcS_232) (fun _ hq => cs_422 (Nat.le_trans (Nat.le_of_ble_eq_true rfl) hd) (hS.le (Nat.le_of_ble_eq_true rfl)) (hR.le (Nat.le_of_ble_eq_true rfl))  v3 0 N h2 hq) (g_goto (tg := 327) rfl ms_421_327 ?_)
    refine g_weak ?_ (g_cl (cg_421_327 hd hS hR (cf_422_0 v3 0 N) N hr hp hC))
    exact trivial
  · have hp := hp.2 h1
    refine g_aload_n rfl (g_getI (mz_at hS (Nat.le_of_ble_eq_true rfl) mzcS_232) mzcf_12_27 ?_)
    refine g_weak ?_ (g_cl (cg_421_327 hd hS hR (N.1 232 27) N hr hp hC))
    exact trivial
theorem cb_421_269 (hd : 3 ≤ d) (hS : mz_extR S 342) (hR : mz_rok R 342)  (v2 : Int32) (v3 : Int32) (s : Int32 × mz_N) {C0 : (mz_N) → Prop} (hr : ∀ (N2 : mz_N), C0 N2 → Q (.inl none) (mz_k S R N2 b t)) {C1 : ((Int32 × mz_N) ⊕ (mz_N)) → Prop} (hc1 : ∀ s2, C1 (.inl s2) → mz_G (d, mz_X0 L xs, none, [], mk_421, 5, Q) 269 mt_421_269 [(0, .ref 232), (2, .int v2), (3, .int v3), (4, .int s2.1)] [] false (mz_k S R s2.2 b t)) (hx1 : ∀ z, C1 (.inr z) → C0 z) (hp : cd_421_269 v2 v3 s) (hC : C1 (cq_421_269 v2 v3 s)) : mz_G (d, mz_X0 L xs, none, [], mk_421, 5, Q) 269 mt_421_269 [(0, .ref 232), (2, .int v2), (3, .int v3), (4, .int s.1)] [] false (mz_k S R s.2 b t) := by
  unfold cq_421_269 at hC
  unfold cd_421_269 at hp
  refine g_iload rfl (g_bipush mzb_28 ?_)
  refine g_icge (tg := 307) rfl ms_421_307 hC (fun h1 hC => ?_) (fun h1 hC => ?_)
  · have hp := hp.1 h1
    refine g_iload_n rfl (g_bipush mzb_7 ?_)
    refine g_icge (tg := 307) rfl ms_421_307 hC (fun h2 hC => ?_) (fun h2 hC => ?_)
    · have hp := hp.1 h2
      refine g_aload_n rfl (g_getR (mz_at hS (Nat.le_of_ble_eq_true rfl) mzcS_232) mzcf_12_26 (mz_rb hR (Nat.le_of_ble_eq_true rfl) rfl mzcR_232_26) (g_bipush mzb_28 (g_iload_n rfl (g_imul (g_iload rfl (g_iadd (g_aload_n rfl ?_)))))))
      refine g_iload_n rfl (g_iload rfl ?_)
      obtain ⟨h3, hp⟩ := hp
      refine g_v3v (Nat.le_of_ble_eq_true rfl) (mz_at hS (Nat.le_of_ble_eq_true rfl) mzcS_232) (fun _ hq => cs_422 (Nat.le_trans (Nat.le_of_ble_eq_true rfl) hd) (hS.le (Nat.le_of_ble_eq_true rfl)) (hR.le (Nat.le_of_ble_eq_true rfl))  v3 s.1 s.2 h3 hq) ?_
      have h4 := hp
      refine g_iast (mz_at hS (Nat.le_of_ble_eq_true rfl) mzcS_252) h4 (g_iinc rfl mzi_1 (Nat.le_of_ble_eq_true rfl) rfl (g_goto (tg := 269) rfl ms_421_269 ?_))
      refine g_weak ?_ (g_cl (hc1 ((s.1 + 1), mz_wI s.2 252 ((28 * v2) + s.1) (cf_422_0 v3 s.1 s.2)) hC))
      exact ⟨rfl, rfl, rfl, rfl, trivial⟩
    · have hp := hp.2 h2
      refine g_weak ?_ (g_cl (cg_421_307 hd hS hR v2 v3 s.2 hr hp (hx1 _ hC)))
      exact ⟨rfl, rfl, rfl, trivial⟩
  · have hp := hp.2 h1
    refine g_weak ?_ (g_cl (cg_421_307 hd hS hR v2 v3 s.2 hr hp (hx1 _ hC)))
    exact ⟨rfl, rfl, rfl, trivial⟩
theorem cg_421_269 (hd : 3 ≤ d) (hS : mz_extR S 342) (hR : mz_rok R 342)  (v2 : Int32) (v3 : Int32) (v4 : Int32) (N : mz_N) {C0 : (mz_N) → Prop} (hr : ∀ (N2 : mz_N), C0 N2 → Q (.inl none) (mz_k S R N2 b t)) (hp : cp_421_269 v2 v3 v4 N) (hC : C0 (cf_421_269 v2 v3 v4 N)) : mz_G (d, mz_X0 L xs, none, [], mk_421, 5, Q) 269 mt_421_269 [(0, .ref 232), (2, .int v2), (3, .int v3), (4, .int v4)] [] false (mz_k S R N b t) := by
  obtain ⟨n, hn⟩ := hp
  exact g_loop (G := fun s => mz_G (d, mz_X0 L xs, none, [], mk_421, 5, Q) 269 mt_421_269 [(0, .ref 232), (2, .int v2), (3, .int v3), (4, .int s.1)] [] false (mz_k S R s.2 b t)) (C := C0) (fun C2 hc hx s hP hC => cb_421_269 hd hS hR v2 v3 s hr hc hx hP hC) n (v4, N) hn hC
theorem cg_421_84 (hd : 3 ≤ d) (hS : mz_extR S 342) (hR : mz_rok R 342)  (v2 : Int32) (v3 : Int32) (v4 : Int32) (N : mz_N) {C0 : (mz_N) → Prop} (hr : ∀ (N2 : mz_N), C0 N2 → Q (.inl none) (mz_k S R N2 b t)) {C1 : ((Int32 × mz_N) ⊕ (mz_N)) → Prop} (hc1 : ∀ s2, C1 (.inl s2) → mz_G (d, mz_X0 L xs, none, [], mk_421, 5, Q) 47 mt_421_47 [(0, .ref 232), (2, .int v2), (3, .int v3), (4, .int s2.1)] [] false (mz_k S R s2.2 b t)) (hx1 : ∀ z, C1 (.inr z) → C0 z) (hp : cp_421_84 v2 v3 v4 N) (hC : C1 (cf_421_84 v2 v3 v4 N)) : mz_G (d, mz_X0 L xs, none, [], mk_421, 5, Q) 84 mt_421_84 [(0, .ref 232), (2, .int v2), (3, .int v3), (4, .int v4)] [] false (mz_k S R N b t) := by
  unfold cf_421_84 at hC
  unfold cp_421_84 at hp
  refine g_iinc rfl mzi_1 (Nat.le_of_ble_eq_true rfl) rfl (g_goto (tg := 47) rfl ms_421_47 ?_)
  refine g_weak ?_ (g_cl (hc1 ((v4 + 1), N) hC))
  exact ⟨rfl, rfl, rfl, rfl, trivial⟩
theorem cb_421_47 (hd : 3 ≤ d) (hS : mz_extR S 342) (hR : mz_rok R 342)  (v2 : Int32) (v3 : Int32) (s : Int32 × mz_N) {C0 : (mz_N) → Prop} (hr : ∀ (N2 : mz_N), C0 N2 → Q (.inl none) (mz_k S R N2 b t)) {C1 : ((Int32 × mz_N) ⊕ (mz_N)) → Prop} (hc1 : ∀ s2, C1 (.inl s2) → mz_G (d, mz_X0 L xs, none, [], mk_421, 5, Q) 47 mt_421_47 [(0, .ref 232), (2, .int v2), (3, .int v3), (4, .int s2.1)] [] false (mz_k S R s2.2 b t)) (hx1 : ∀ z, C1 (.inr z) → C0 z) (hp : cd_421_47 v2 v3 s) (hC : C1 (cq_421_47 v2 v3 s)) : mz_G (d, mz_X0 L xs, none, [], mk_421, 5, Q) 47 mt_421_47 [(0, .ref 232), (2, .int v2), (3, .int v3), (4, .int s.1)] [] false (mz_k S R s.2 b t) := by
  unfold cq_421_47 at hC
  unfold cd_421_47 at hp
  refine g_iload rfl (g_bipush mzb_110 ?_)
  refine g_icge (tg := 90) rfl ms_421_90 hC (fun h1 hC => ?_) (fun h1 hC => ?_)
  · have hp := hp.1 h1
    refine g_aload_n rfl (g_getR (mz_at hS (Nat.le_of_ble_eq_true rfl) mzcS_232) mzcf_12_3 (mz_rb hR (Nat.le_of_ble_eq_true rfl) rfl mzcR_232_3) (g_bipush mzb_110 (g_iload_n rfl (g_imul (g_iload rfl (g_iadd (g_aload_n rfl ?_)))))))
    refine g_iload_n rfl (g_iload rfl (g_iconst mzi_4 (g_idiv (by decide) ?_)))
    obtain ⟨h2, hp⟩ := hp
    refine g_v3v (Nat.le_of_ble_eq_true rfl) (mz_at hS (Nat.le_of_ble_eq_true rfl) mzcS_232) (fun _ hq => cs_422 (Nat.le_trans (Nat.le_of_ble_eq_true rfl) hd) (hS.le (Nat.le_of_ble_eq_true rfl)) (hR.le (Nat.le_of_ble_eq_true rfl))  v3 (s.1 / 4) s.2 h2 hq) (g_iconst mzi_2 (g_iload rfl (g_iconst mzi_4 (g_irem (by decide) (g_imul (g_ishr (g_iconst mzi_3 ?_)))))))
    refine g_iand ?_
    obtain ⟨h3, hp⟩ := hp
    refine g_iast (mz_at hS (Nat.le_of_ble_eq_true rfl) mzcS_233) h3 ?_
    refine g_weak ?_ (g_cl (cg_421_84 hd hS hR v2 v3 s.1 (mz_wI s.2 233 ((110 * v2) + s.1) ((mz_ishr (cf_422_0 v3 (s.1 / 4) s.2) (2 * (mz_irem s.1 4))) &&& 3)) hr hc1 hx1 hp hC))
    exact ⟨rfl, rfl, rfl, rfl, trivial⟩
  · have hp := hp.2 h1
    refine g_goto (tg := 424) rfl ms_421_424 ?_
    exact g_vret rfl (hr _ (hx1 _ hC))
theorem cg_421_47 (hd : 3 ≤ d) (hS : mz_extR S 342) (hR : mz_rok R 342)  (v2 : Int32) (v3 : Int32) (v4 : Int32) (N : mz_N) {C0 : (mz_N) → Prop} (hr : ∀ (N2 : mz_N), C0 N2 → Q (.inl none) (mz_k S R N2 b t)) (hp : cp_421_47 v2 v3 v4 N) (hC : C0 (cf_421_47 v2 v3 v4 N)) : mz_G (d, mz_X0 L xs, none, [], mk_421, 5, Q) 47 mt_421_47 [(0, .ref 232), (2, .int v2), (3, .int v3), (4, .int v4)] [] false (mz_k S R N b t) := by
  obtain ⟨n, hn⟩ := hp
  exact g_loop (G := fun s => mz_G (d, mz_X0 L xs, none, [], mk_421, 5, Q) 47 mt_421_47 [(0, .ref 232), (2, .int v2), (3, .int v3), (4, .int s.1)] [] false (mz_k S R s.2 b t)) (C := C0) (fun C2 hc hx s hP hC => cb_421_47 hd hS hR v2 v3 s hr hc hx hP hC) n (v4, N) hn hC
theorem cg_421_407 (hd : 3 ≤ d) (hS : mz_extR S 342) (hR : mz_rok R 342)  (s1 : Int32) (s2 : Int32) (v2 : Int32) (v3 : Int32) (v4 : Int32) (N : mz_N) {C0 : (mz_N) → Prop} (hr : ∀ (N2 : mz_N), C0 N2 → Q (.inl none) (mz_k S R N2 b t)) {C1 : ((Int32 × mz_N) ⊕ (mz_N)) → Prop} (hc1 : ∀ s2, C1 (.inl s2) → mz_G (d, mz_X0 L xs, none, [], mk_421, 5, Q) 336 mt_421_336 [(0, .ref 232), (2, .int v2), (3, .int v3), (4, .int s2.1)] [] false (mz_k S R s2.2 b t)) (hx1 : ∀ z, C1 (.inr z) → C0 z) (hp : cp_421_407 s1 s2 v2 v3 v4 N) (hC : C1 (cf_421_407 s1 s2 v2 v3 v4 N)) : mz_G (d, mz_X0 L xs, none, [], mk_421, 5, Q) 407 mt_421_407 [(0, .ref 232), (2, .int v2), (3, .int v3), (4, .int v4)] [.int s2, .int s1, .ref 248] false (mz_k S R N b t) := by
  unfold cf_421_407 at hC
  unfold cp_421_407 at hp
  have h1 := hp
  refine g_iast (mz_at hS (Nat.le_of_ble_eq_true rfl) mzcS_248) h1 (g_iinc rfl mzi_1 (Nat.le_of_ble_eq_true rfl) rfl (g_goto (tg := 336) rfl ms_421_336 ?_))
  refine g_weak ?_ (g_cl (hc1 ((v4 + 1), mz_wI N 248 s1 s2) hC))
  exact ⟨rfl, rfl, rfl, rfl, trivial⟩
theorem cg_421_378 (hd : 3 ≤ d) (hS : mz_extR S 342) (hR : mz_rok R 342)  (s1 : Int32) (s2 : Int32) (v2 : Int32) (v3 : Int32) (v4 : Int32) (N : mz_N) {C0 : (mz_N) → Prop} (hr : ∀ (N2 : mz_N), C0 N2 → Q (.inl none) (mz_k S R N2 b t)) {C1 : ((Int32 × mz_N) ⊕ (mz_N)) → Prop} (hc1 : ∀ s2, C1 (.inl s2) → mz_G (d, mz_X0 L xs, none, [], mk_421, 5, Q) 336 mt_421_336 [(0, .ref 232), (2, .int v2), (3, .int v3), (4, .int s2.1)] [] false (mz_k S R s2.2 b t)) (hx1 : ∀ z, C1 (.inr z) → C0 z) (hp : cp_421_378 s1 s2 v2 v3 v4 N) (hC : C1 (cf_421_378 s1 s2 v2 v3 v4 N)) : mz_G (d, mz_X0 L xs, none, [], mk_421, 5, Q) 378 mt_421_378 [(0, .ref 232), (2, .int v2), (3, .int v3), (4, .int v4)] [.int s2, .int s1, .ref 247] false (mz_k S R N b t) := by
  unfold cf_421_378 at hC
  unfold cp_421_378 at hp
  obtain ⟨h1, hp⟩ := hp
  refine g_iast (mz_at hS (Nat.le_of_ble_eq_true rfl) mzcS_247) h1 (g_aload_n rfl (g_getR (mz_at hS (Nat.le_of_ble_eq_true rfl) mzcS_232) mzcf_12_20 (mz_rb hR (Nat.le_of_ble_eq_true rfl) rfl mzcR_232_20) (g_iload rfl (g_iload_n rfl (g_iconst mzi_1 ?_)))))
  refine g_icne (tg := 400) rfl ms_421_400 hC (fun h2 hC => ?_) (fun h2 hC => ?_)
  · have hp := hp.1 h2
    refine g_aload_n rfl (g_iload_n rfl (g_iload rfl ?_))
    obtain ⟨h3, hp⟩ := hp
    refine g_v3v (Nat.le_of_ble_eq_true rfl) (mz_at hS (Nat.le_of_ble_eq_true rfl) mzcS_232) (fun _ hq => cs_422 (Nat.le_trans (Nat.le_of_ble_eq_true rfl) hd) (hS.le (Nat.le_of_ble_eq_true rfl)) (hR.le (Nat.le_of_ble_eq_true rfl))  v3 v4 (mz_wI N 247 s1 s2) h3 hq) (g_goto (tg := 407) rfl ms_421_407 ?_)
    refine g_weak ?_ (g_cl (cg_421_407 hd hS hR v4 (cf_422_0 v3 v4 (mz_wI N 247 s1 s2)) v2 v3 v4 (mz_wI N 247 s1 s2) hr hc1 hx1 hp hC))
    exact ⟨rfl, rfl, rfl, rfl, trivial⟩
  · have hp := hp.2 h2
    refine g_aload_n rfl (g_getR (mz_at hS (Nat.le_of_ble_eq_true rfl) mzcS_232) mzcf_12_20 (mz_rb hR (Nat.le_of_ble_eq_true rfl) rfl mzcR_232_20) (g_iload rfl ?_))
    obtain ⟨h4, hp⟩ := hp
    refine g_iald hS.1 (mz_at hS (Nat.le_of_ble_eq_true rfl) mzcS_248) h4 ?_
    refine g_weak ?_ (g_cl (cg_421_407 hd hS hR v4 (mz_gI (mz_wI N 247 s1 s2) 248 v4) v2 v3 v4 (mz_wI N 247 s1 s2) hr hc1 hx1 hp hC))
    exact ⟨rfl, rfl, rfl, rfl, trivial⟩
theorem cb_421_336 (hd : 3 ≤ d) (hS : mz_extR S 342) (hR : mz_rok R 342)  (v2 : Int32) (v3 : Int32) (s : Int32 × mz_N) {C0 : (mz_N) → Prop} (hr : ∀ (N2 : mz_N), C0 N2 → Q (.inl none) (mz_k S R N2 b t)) {C1 : ((Int32 × mz_N) ⊕ (mz_N)) → Prop} (hc1 : ∀ s2, C1 (.inl s2) → mz_G (d, mz_X0 L xs, none, [], mk_421, 5, Q) 336 mt_421_336 [(0, .ref 232), (2, .int v2), (3, .int v3), (4, .int s2.1)] [] false (mz_k S R s2.2 b t)) (hx1 : ∀ z, C1 (.inr z) → C0 z) (hp : cd_421_336 v2 v3 s) (hC : C1 (cq_421_336 v2 v3 s)) : mz_G (d, mz_X0 L xs, none, [], mk_421, 5, Q) 336 mt_421_336 [(0, .ref 232), (2, .int v2), (3, .int v3), (4, .int s.1)] [] false (mz_k S R s.2 b t) := by
  unfold cq_421_336 at hC
  unfold cd_421_336 at hp
  refine g_iload rfl (g_bipush mzb_11 ?_)
  refine g_icge (tg := 414) rfl ms_421_414 hC (fun h1 hC => ?_) (fun h1 hC => ?_)
  · have hp := hp.1 h1
    refine g_aload_n rfl (g_getR (mz_at hS (Nat.le_of_ble_eq_true rfl) mzcS_232) mzcf_12_19 (mz_rb hR (Nat.le_of_ble_eq_true rfl) rfl mzcR_232_19) (g_iload rfl (g_iload_n rfl ?_)))
    refine g_ifne (tg := 371) rfl ms_421_371 hC (fun h2 hC => ?_) (fun h2 hC => ?_)
    · have hp := hp.1 h2
      refine g_aload_n rfl (g_getR (mz_at hS (Nat.le_of_ble_eq_true rfl) mzcS_232) mzcf_12_131 (mz_rb hR (Nat.le_of_ble_eq_true rfl) rfl mzcR_232_131) (g_iload_n rfl (g_iconst mzi_2 (g_iload rfl (g_imul (g_iadd (g_iconst mzi_2 ?_)))))))
      obtain ⟨h3, hp⟩ := hp
      refine g_s3v (Nat.le_of_ble_eq_true rfl) (fun _ hq => cs_423 (Nat.le_trans (Nat.le_of_ble_eq_true rfl) hd) (hS.le (Nat.le_of_ble_eq_true rfl)) (hR.le (Nat.le_of_ble_eq_true rfl)) 331 3780 (mz_at hS (Nat.le_of_ble_eq_true rfl) mzcS_331) (v3 + (2 * s.1)) 2 s.2 h3 hq) (g_l2i (g_goto (tg := 378) rfl ms_421_378 ?_))
      refine g_weak ?_ (g_cl (cg_421_378 hd hS hR s.1 ((cf_423_0 331 3780 (v3 + (2 * s.1)) 2 s.2).toInt32) v2 v3 s.1 s.2 hr hc1 hx1 hp hC))
      exact ⟨rfl, rfl, rfl, rfl, trivial⟩
    · have hp := hp.2 h2
      refine g_aload_n rfl (g_getR (mz_at hS (Nat.le_of_ble_eq_true rfl) mzcS_232) mzcf_12_19 (mz_rb hR (Nat.le_of_ble_eq_true rfl) rfl mzcR_232_19) (g_iload rfl ?_))
      obtain ⟨h4, hp⟩ := hp
      refine g_iald hS.1 (mz_at hS (Nat.le_of_ble_eq_true rfl) mzcS_247) h4 ?_
      refine g_weak ?_ (g_cl (cg_421_378 hd hS hR s.1 (mz_gI s.2 247 s.1) v2 v3 s.1 s.2 hr hc1 hx1 hp hC))
      exact ⟨rfl, rfl, rfl, rfl, trivial⟩
  · have hp := hp.2 h1
    refine g_goto (tg := 424) rfl ms_421_424 ?_
    exact g_vret rfl (hr _ (hx1 _ hC))
theorem cg_421_336 (hd : 3 ≤ d) (hS : mz_extR S 342) (hR : mz_rok R 342)  (v2 : Int32) (v3 : Int32) (v4 : Int32) (N : mz_N) {C0 : (mz_N) → Prop} (hr : ∀ (N2 : mz_N), C0 N2 → Q (.inl none) (mz_k S R N2 b t)) (hp : cp_421_336 v2 v3 v4 N) (hC : C0 (cf_421_336 v2 v3 v4 N)) : mz_G (d, mz_X0 L xs, none, [], mk_421, 5, Q) 336 mt_421_336 [(0, .ref 232), (2, .int v2), (3, .int v3), (4, .int v4)] [] false (mz_k S R N b t) := by
  obtain ⟨n, hn⟩ := hp
  exact g_loop (G := fun s => mz_G (d, mz_X0 L xs, none, [], mk_421, 5, Q) 336 mt_421_336 [(0, .ref 232), (2, .int v2), (3, .int v3), (4, .int s.1)] [] false (mz_k S R s.2 b t)) (C := C0) (fun C2 hc hx s hP hC => cb_421_336 hd hS hR v2 v3 s hr hc hx hP hC) n (v4, N) hn hC
theorem cb_421_146 (hd : 3 ≤ d) (hS : mz_extR S 342) (hR : mz_rok R 342)  (v2 : Int32) (v3 : Int32) (s : Int32 × mz_N) {C0 : (mz_N) → Prop} (hr : ∀ (N2 : mz_N), C0 N2 → Q (.inl none) (mz_k S R N2 b t)) {C1 : ((Int32 × mz_N) ⊕ (mz_N)) → Prop} (hc1 : ∀ s2, C1 (.inl s2) → mz_G (d, mz_X0 L xs, none, [], mk_421, 5, Q) 146 mt_421_146 [(0, .ref 232), (2, .int v2), (3, .int v3), (4, .int s2.1)] [] false (mz_k S R s2.2 b t)) (hx1 : ∀ z, C1 (.inr z) → C0 z) (hp : cd_421_146 v2 v3 s) (hC : C1 (cq_421_146 v2 v3 s)) : mz_G (d, mz_X0 L xs, none, [], mk_421, 5, Q) 146 mt_421_146 [(0, .ref 232), (2, .int v2), (3, .int v3), (4, .int s.1)] [] false (mz_k S R s.2 b t) := by
  unfold cq_421_146 at hC
  unfold cd_421_146 at hp
  refine g_iload rfl (g_bipush mzb_24 ?_)
  refine g_icge (tg := 178) rfl ms_421_178 hC (fun h1 hC => ?_) (fun h1 hC => ?_)
  · have hp := hp.1 h1
    refine g_aload_n rfl (g_getR (mz_at hS (Nat.le_of_ble_eq_true rfl) mzcS_232) mzcf_12_16 (mz_rb hR (Nat.le_of_ble_eq_true rfl) rfl mzcR_232_16) (g_bipush mzb_24 (g_iload_n rfl (g_imul (g_iload rfl (g_iadd (g_aload_n rfl ?_)))))))
    refine g_iload_n rfl (g_iload rfl ?_)
    obtain ⟨h2, hp⟩ := hp
    refine g_v3v (Nat.le_of_ble_eq_true rfl) (mz_at hS (Nat.le_of_ble_eq_true rfl) mzcS_232) (fun _ hq => cs_422 (Nat.le_trans (Nat.le_of_ble_eq_true rfl) hd) (hS.le (Nat.le_of_ble_eq_true rfl)) (hR.le (Nat.le_of_ble_eq_true rfl))  v3 s.1 s.2 h2 hq) ?_
    have h3 := hp
    refine g_iast (mz_at hS (Nat.le_of_ble_eq_true rfl) mzcS_244) h3 (g_iinc rfl mzi_1 (Nat.le_of_ble_eq_true rfl) rfl (g_goto (tg := 146) rfl ms_421_146 ?_))
    refine g_weak ?_ (g_cl (hc1 ((s.1 + 1), mz_wI s.2 244 ((24 * v2) + s.1) (cf_422_0 v3 s.1 s.2)) hC))
    exact ⟨rfl, rfl, rfl, rfl, trivial⟩
  · have hp := hp.2 h1
    refine g_goto (tg := 424) rfl ms_421_424 ?_
    exact g_vret rfl (hr _ (hx1 _ hC))
theorem cg_421_146 (hd : 3 ≤ d) (hS : mz_extR S 342) (hR : mz_rok R 342)  (v2 : Int32) (v3 : Int32) (v4 : Int32) (N : mz_N) {C0 : (mz_N) → Prop} (hr : ∀ (N2 : mz_N), C0 N2 → Q (.inl none) (mz_k S R N2 b t)) (hp : cp_421_146 v2 v3 v4 N) (hC : C0 (cf_421_146 v2 v3 v4 N)) : mz_G (d, mz_X0 L xs, none, [], mk_421, 5, Q) 146 mt_421_146 [(0, .ref 232), (2, .int v2), (3, .int v3), (4, .int v4)] [] false (mz_k S R N b t) := by
  obtain ⟨n, hn⟩ := hp
  exact g_loop (G := fun s => mz_G (d, mz_X0 L xs, none, [], mk_421, 5, Q) 146 mt_421_146 [(0, .ref 232), (2, .int v2), (3, .int v3), (4, .int s.1)] [] false (mz_k S R s.2 b t)) (C := C0) (fun C2 hc hx s hP hC => cb_421_146 hd hS hR v2 v3 s hr hc hx hP hC) n (v4, N) hn hC
theorem cg_421_219 (hd : 3 ≤ d) (hS : mz_extR S 342) (hR : mz_rok R 342)  (v2 : Int32) (v3 : Int32) (v4 : Int32) (N : mz_N) {C0 : (mz_N) → Prop} (hr : ∀ (N2 : mz_N), C0 N2 → Q (.inl none) (mz_k S R N2 b t)) {C1 : ((Int32 × mz_N) ⊕ (mz_N)) → Prop} (hc1 : ∀ s2, C1 (.inl s2) → mz_G (d, mz_X0 L xs, none, [], mk_421, 5, Q) 184 mt_421_184 [(0, .ref 232), (2, .int v2), (3, .int v3), (4, .int s2.1)] [] false (mz_k S R s2.2 b t)) (hx1 : ∀ z, C1 (.inr z) → C0 z) (hp : cp_421_219 v2 v3 v4 N) (hC : C1 (cf_421_219 v2 v3 v4 N)) : mz_G (d, mz_X0 L xs, none, [], mk_421, 5, Q) 219 mt_421_219 [(0, .ref 232), (2, .int v2), (3, .int v3), (4, .int v4)] [] false (mz_k S R N b t) := by
  unfold cf_421_219 at hC
  unfold cp_421_219 at hp
  refine g_iinc rfl mzi_1 (Nat.le_of_ble_eq_true rfl) rfl (g_goto (tg := 184) rfl ms_421_184 ?_)
  refine g_weak ?_ (g_cl (hc1 ((v4 + 1), N) hC))
  exact ⟨rfl, rfl, rfl, rfl, trivial⟩
theorem cb_421_184 (hd : 3 ≤ d) (hS : mz_extR S 342) (hR : mz_rok R 342)  (v2 : Int32) (v3 : Int32) (s : Int32 × mz_N) {C0 : (mz_N) → Prop} (hr : ∀ (N2 : mz_N), C0 N2 → Q (.inl none) (mz_k S R N2 b t)) {C1 : ((Int32 × mz_N) ⊕ (mz_N)) → Prop} (hc1 : ∀ s2, C1 (.inl s2) → mz_G (d, mz_X0 L xs, none, [], mk_421, 5, Q) 184 mt_421_184 [(0, .ref 232), (2, .int v2), (3, .int v3), (4, .int s2.1)] [] false (mz_k S R s2.2 b t)) (hx1 : ∀ z, C1 (.inr z) → C0 z) (hp : cd_421_184 v2 v3 s) (hC : C1 (cq_421_184 v2 v3 s)) : mz_G (d, mz_X0 L xs, none, [], mk_421, 5, Q) 184 mt_421_184 [(0, .ref 232), (2, .int v2), (3, .int v3), (4, .int s.1)] [] false (mz_k S R s.2 b t) := by
  unfold cq_421_184 at hC
  unfold cd_421_184 at hp
  refine g_iload rfl (g_bipush mzb_12 ?_)
  refine g_icge (tg := 225) rfl ms_421_225 hC (fun h1 hC => ?_) (fun h1 hC => ?_)
  · have hp := hp.1 h1
    refine g_aload_n rfl (g_getR (mz_at hS (Nat.le_of_ble_eq_true rfl) mzcS_232) mzcf_12_17 (mz_rb hR (Nat.le_of_ble_eq_true rfl) rfl mzcR_232_17) (g_bipush mzb_12 (g_iload_n rfl (g_imul (g_iload rfl (g_iadd (g_aload_n rfl ?_)))))))
    refine g_getR (mz_at hS (Nat.le_of_ble_eq_true rfl) mzcS_232) mzcf_12_131 (mz_rb hR (Nat.le_of_ble_eq_true rfl) rfl mzcR_232_131) (g_iload_n rfl (g_iconst mzi_2 (g_iload rfl (g_imul (g_iadd (g_iconst mzi_2 ?_))))))
    obtain ⟨h2, hp⟩ := hp
    refine g_s3v (Nat.le_of_ble_eq_true rfl) (fun _ hq => cs_423 (Nat.le_trans (Nat.le_of_ble_eq_true rfl) hd) (hS.le (Nat.le_of_ble_eq_true rfl)) (hR.le (Nat.le_of_ble_eq_true rfl)) 331 3780 (mz_at hS (Nat.le_of_ble_eq_true rfl) mzcS_331) (v3 + (2 * s.1)) 2 s.2 h2 hq) (g_l2i (g_i2s ?_))
    obtain ⟨h3, hp⟩ := hp
    refine g_iast (mz_at hS (Nat.le_of_ble_eq_true rfl) mzcS_245) h3 ?_
    refine g_weak ?_ (g_cl (cg_421_219 hd hS hR v2 v3 s.1 (mz_wI s.2 245 ((12 * v2) + s.1) (mz_i2s ((cf_423_0 331 3780 (v3 + (2 * s.1)) 2 s.2).toInt32))) hr hc1 hx1 hp hC))
    exact ⟨rfl, rfl, rfl, rfl, trivial⟩
  · have hp := hp.2 h1
    refine g_goto (tg := 424) rfl ms_421_424 ?_
    exact g_vret rfl (hr _ (hx1 _ hC))
theorem cg_421_184 (hd : 3 ≤ d) (hS : mz_extR S 342) (hR : mz_rok R 342)  (v2 : Int32) (v3 : Int32) (v4 : Int32) (N : mz_N) {C0 : (mz_N) → Prop} (hr : ∀ (N2 : mz_N), C0 N2 → Q (.inl none) (mz_k S R N2 b t)) (hp : cp_421_184 v2 v3 v4 N) (hC : C0 (cf_421_184 v2 v3 v4 N)) : mz_G (d, mz_X0 L xs, none, [], mk_421, 5, Q) 184 mt_421_184 [(0, .ref 232), (2, .int v2), (3, .int v3), (4, .int v4)] [] false (mz_k S R N b t) := by
  obtain ⟨n, hn⟩ := hp
  exact g_loop (G := fun s => mz_G (d, mz_X0 L xs, none, [], mk_421, 5, Q) 184 mt_421_184 [(0, .ref 232), (2, .int v2), (3, .int v3), (4, .int s.1)] [] false (mz_k S R s.2 b t)) (C := C0) (fun C2 hc hx s hP hC => cb_421_184 hd hS hR v2 v3 s hr hc hx hP hC) n (v4, N) hn hC
theorem cg_421_0 (hd : 3 ≤ d) (hS : mz_extR S 342) (hR : mz_rok R 342)  (v1 : Int32) (v2 : Int32) (v3 : Int32) (N : mz_N) {C0 : (mz_N) → Prop} (hr : ∀ (N2 : mz_N), C0 N2 → Q (.inl none) (mz_k S R N2 b t)) (hp : cp_421_0 v1 v2 v3 N) (hC : C0 (cf_421_0 v1 v2 v3 N)) : mz_G (d, mz_X0 L xs, none, [], mk_421, 5, Q) 0 mk_421 [(0, .ref 232), (1, .int v1), (2, .int v2), (3, .int v3)] [] true (mz_k S R N b t) := by
  unfold cf_421_0 at hC
  unfold cp_421_0 at hp
  refine g_iload_n rfl ?_
  refine mz_cs hC (fun h1 hC => ?_) (fun h1 hC => ?_)
  · have hp := hp.1 h1
    refine g_brn (tg := 44) (by rw [h1]; rfl) (by decide) rfl ?_
    refine g_iconst mzi_0 (g_istore (Nat.le_of_ble_eq_true rfl) rfl ?_)
    refine g_weak ?_ (g_cl (cg_421_47 hd hS hR v2 v3 0 N hr hp hC))
    exact ⟨rfl, rfl, rfl, rfl, trivial⟩
  · have hp := hp.2 h1
    refine mz_cs hC (fun h2 hC => ?_) (fun h2 hC => ?_)
    · have hp := hp.1 h2
      refine g_br (tg := 93) (by rw [h2]; rfl) ms_421_93 ?_
      refine g_iconst mzi_0 (g_istore (Nat.le_of_ble_eq_true rfl) rfl ?_)
      refine g_weak ?_ (g_cl (cg_421_96 hd hS hR v2 v3 0 N hr hp hC))
      exact ⟨rfl, rfl, rfl, rfl, trivial⟩
    · have hp := hp.2 h2
      refine mz_cs hC (fun h3 hC => ?_) (fun h3 hC => ?_)
      · have hp := hp.1 h3
        refine g_br (tg := 143) (by rw [h3]; rfl) ms_421_143 ?_
        refine g_iconst mzi_0 (g_istore (Nat.le_of_ble_eq_true rfl) rfl ?_)
        refine g_weak ?_ (g_cl (cg_421_146 hd hS hR v2 v3 0 N hr hp hC))
        exact ⟨rfl, rfl, rfl, rfl, trivial⟩
      · have hp := hp.2 h3
        refine mz_cs hC (fun h4 hC => ?_) (fun h4 hC => ?_)
        · have hp := hp.1 h4
          refine g_br (tg := 181) (by rw [h4]; rfl) ms_421_181 ?_
          refine g_iconst mzi_0 (g_istore (Nat.le_of_ble_eq_true rfl) rfl ?_)
          refine g_weak ?_ (g_cl (cg_421_184 hd hS hR v2 v3 0 N hr hp hC))
          exact ⟨rfl, rfl, rfl, rfl, trivial⟩
        · have hp := hp.2 h4
          refine mz_cs hC (fun h5 hC => ?_) (fun h5 hC => ?_)
          · have hp := hp.1 h5
            refine g_br (tg := 228) (by rw [h5]; rfl) ms_421_228 ?_
            refine g_iconst mzi_0 (g_istore (Nat.le_of_ble_eq_true rfl) rfl ?_)
            refine g_weak ?_ (g_cl (cg_421_231 hd hS hR v2 v3 0 N hr hp hC))
            exact ⟨rfl, rfl, rfl, rfl, trivial⟩
          · have hp := hp.2 h5
            refine mz_cs hC (fun h6 hC => ?_) (fun h6 hC => ?_)
            · have hp := hp.1 h6
              refine g_br (tg := 266) (by rw [h6]; rfl) ms_421_266 ?_
              refine g_iconst mzi_0 (g_istore (Nat.le_of_ble_eq_true rfl) rfl ?_)
              refine g_weak ?_ (g_cl (cg_421_269 hd hS hR v2 v3 0 N hr hp hC))
              exact ⟨rfl, rfl, rfl, rfl, trivial⟩
            · have hp := hp.2 h6
              refine mz_cs hC (fun h7 hC => ?_) (fun h7 hC => ?_)
              · have hp := hp.1 h7
                refine g_br (tg := 333) (by rw [h7]; rfl) ms_421_333 ?_
                refine g_iconst mzi_0 (g_istore (Nat.le_of_ble_eq_true rfl) rfl ?_)
                refine g_weak ?_ (g_cl (cg_421_336 hd hS hR v2 v3 0 N hr hp hC))
                exact ⟨rfl, rfl, rfl, rfl, trivial⟩
              · have hp := hp.2 h7
                refine g_br (tg := 417) ((mz_tsw_d (l := [1, 2, 3, 4, 5, 6, 7]) (mz_rng 1 6) ⟨h1, h2, h3, h4, h5, h6, h7, trivial⟩).trans (mz_tg_t rfl)) ms_421_417 ?_
                refine g_aload_n rfl (g_iload_n rfl (g_iload_n rfl (g_iload_n rfl ?_)))
                have h8 := hp
                refine g_v4n (Nat.le_of_ble_eq_true rfl) (mz_at hS (Nat.le_of_ble_eq_true rfl) mzcS_232) (fun _ hq => cs_424 (Nat.le_trans (Nat.le_of_ble_eq_true rfl) hd) (hS.le (Nat.le_of_ble_eq_true rfl)) (hR.le (Nat.le_of_ble_eq_true rfl))  v1 v2 v3 N h8 hq) ?_
                exact g_vret rfl (hr _ hC)
theorem cs_421 (hd : 4 ≤ d) (hS : mz_extR S 342) (hR : mz_rok R 342)  (v1 : Int32) (v2 : Int32) (v3 : Int32) (N : mz_N) (hp : cp_421_0 v1 v2 v3 N) (hq : Q (.inl none) (mz_k S R (cf_421_0 v1 v2 v3 N) b t)) : mz_Ed (mz_X0 L xs) d 421 [.ref 232, .int v1, .int v2, .int v3] (mz_k S R N b t) Q :=
  by
  refine g_in mzq_421 (Nat.le_of_ble_eq_true rfl) (Nat.le_of_ble_eq_true rfl) (Nat.le_trans (Nat.le_of_ble_eq_true rfl) hd) ?_
  refine g_weak ?_ (cg_421_0 (d := d - 1) (by omega) hS hR v1 v2 v3 N (C0 := fun z => Q (.inl none) (mz_k S R z b t)) (fun _ h => h) hp hq)
  exact ⟨rfl, rfl, rfl, rfl, trivial⟩
/-! 426 KeptHouseModel.copyPlan (II)V -/
theorem ms_426_0 : mz_sf mk_426 0 = mk_426 := mz_sf_zero _
theorem ms_426_2 : mz_sf mk_426 2 = mt_426_2 := mz_sf_add ms_426_0 (t := 2) rfl rfl
theorem ms_426_33 : mz_sf mk_426 33 = mt_426_33 := mz_sf_add ms_426_2 (t := 31) rfl rfl
theorem ms_426_39 : mz_sf mk_426 39 = mt_426_39 := mz_sf_add ms_426_33 (t := 6) rfl rfl
set_option maxRecDepth 100000 in
theorem mzq_426 : mz_PG0 426 = some (12, ⟨"KeptHouseModel", "copyPlan", "(II)V"⟩, prog_14_method_22_code, 4, none, [], mk_426, []) := rfl
theorem cb_426_2 (hd : 0 ≤ d) (hS : mz_extR S 342) (hR : mz_rok R 342)  (v1 : Int32) (v2 : Int32) (s : Int32 × mz_N) {C0 : (mz_N) → Prop} (hr : ∀ (N2 : mz_N), C0 N2 → Q (.inl none) (mz_k S R N2 b t)) {C1 : ((Int32 × mz_N) ⊕ (mz_N)) → Prop} (hc1 : ∀ s2, C1 (.inl s2) → mz_G (d, mz_X0 L xs, none, [], mk_426, 4, Q) 2 mt_426_2 [(0, .ref 232), (1, .int v1), (2, .int v2), (3, .int s2.1)] [] false (mz_k S R s2.2 b t)) (hx1 : ∀ z, C1 (.inr z) → C0 z) (hp : cd_426_2 v1 v2 s) (hC : C1 (cq_426_2 v1 v2 s)) : mz_G (d, mz_X0 L xs, none, [], mk_426, 4, Q) 2 mt_426_2 [(0, .ref 232), (1, .int v1), (2, .int v2), (3, .int s.1)] [] false (mz_k S R s.2 b t) := by
  unfold cq_426_2 at hC
  unfold cd_426_2 at hp
  refine g_iload_n rfl (g_sipush mzs_550 ?_)
  refine g_icge (tg := 39) rfl ms_426_39 hC (fun h1 hC => ?_) (fun h1 hC => ?_)
  · have hp := hp.1 h1
    refine g_aload_n rfl (g_getR (mz_at hS (Nat.le_of_ble_eq_true rfl) mzcS_232) mzcf_12_3 (mz_rb hR (Nat.le_of_ble_eq_true rfl) rfl mzcR_232_3) (g_sipush mzs_550 (g_iload_n rfl (g_imul (g_iload_n rfl (g_iadd (g_aload_n rfl ?_)))))))
    refine g_getR (mz_at hS (Nat.le_of_ble_eq_true rfl) mzcS_232) mzcf_12_3 (mz_rb hR (Nat.le_of_ble_eq_true rfl) rfl mzcR_232_3) (g_sipush mzs_550 (g_iload_n rfl (g_imul (g_iload_n rfl (g_iadd ?_)))))
    obtain ⟨h2, hp⟩ := hp
    refine g_iald hS.1 (mz_at hS (Nat.le_of_ble_eq_true rfl) mzcS_233) h2 ?_
    have h3 := hp
    refine g_iast (mz_at hS (Nat.le_of_ble_eq_true rfl) mzcS_233) h3 (g_iinc rfl mzi_1 (Nat.le_of_ble_eq_true rfl) rfl (g_goto (tg := 2) rfl ms_426_2 ?_))
    refine g_weak ?_ (g_cl (hc1 ((s.1 + 1), mz_wI s.2 233 ((550 * v2) + s.1) (mz_gI s.2 233 ((550 * v1) + s.1))) hC))
    exact ⟨rfl, rfl, rfl, rfl, trivial⟩
  · have hp := hp.2 h1
    exact g_vret rfl (hr _ (hx1 _ hC))
theorem cg_426_2 (hd : 0 ≤ d) (hS : mz_extR S 342) (hR : mz_rok R 342)  (v1 : Int32) (v2 : Int32) (v3 : Int32) (N : mz_N) {C0 : (mz_N) → Prop} (hr : ∀ (N2 : mz_N), C0 N2 → Q (.inl none) (mz_k S R N2 b t)) (hp : cp_426_2 v1 v2 v3 N) (hC : C0 (cf_426_2 v1 v2 v3 N)) : mz_G (d, mz_X0 L xs, none, [], mk_426, 4, Q) 2 mt_426_2 [(0, .ref 232), (1, .int v1), (2, .int v2), (3, .int v3)] [] false (mz_k S R N b t) := by
  obtain ⟨n, hn⟩ := hp
  exact g_loop (G := fun s => mz_G (d, mz_X0 L xs, none, [], mk_426, 4, Q) 2 mt_426_2 [(0, .ref 232), (1, .int v1), (2, .int v2), (3, .int s.1)] [] false (mz_k S R s.2 b t)) (C := C0) (fun C2 hc hx s hP hC => cb_426_2 hd hS hR v1 v2 s hr hc hx hP hC) n (v3, N) hn hC
theorem cg_426_0 (hd : 0 ≤ d) (hS : mz_extR S 342) (hR : mz_rok R 342)  (v1 : Int32) (v2 : Int32) (N : mz_N) {C0 : (mz_N) → Prop} (hr : ∀ (N2 : mz_N), C0 N2 → Q (.inl none) (mz_k S R N2 b t)) (hp : cp_426_0 v1 v2 N) (hC : C0 (cf_426_0 v1 v2 N)) : mz_G (d, mz_X0 L xs, none, [], mk_426, 4, Q) 0 mk_426 [(0, .ref 232), (1, .int v1), (2, .int v2)] [] true (mz_k S R N b t) := by
  unfold cf_426_0 at hC
  unfold cp_426_0 at hp
  refine g_iconst mzi_0 (g_istore_n (Nat.le_of_ble_eq_true rfl) rfl ?_)
  refine g_weak ?_ (g_cl (cg_426_2 hd hS hR v1 v2 0 N hr hp hC))
  exact ⟨rfl, rfl, rfl, rfl, trivial⟩
theorem cs_426 (hd : 1 ≤ d) (hS : mz_extR S 342) (hR : mz_rok R 342)  (v1 : Int32) (v2 : Int32) (N : mz_N) (hp : cp_426_0 v1 v2 N) (hq : Q (.inl none) (mz_k S R (cf_426_0 v1 v2 N) b t)) : mz_Ed (mz_X0 L xs) d 426 [.ref 232, .int v1, .int v2] (mz_k S R N b t) Q :=
  by
  refine g_in mzq_426 (Nat.le_of_ble_eq_true rfl) (Nat.le_of_ble_eq_true rfl) (Nat.le_trans (Nat.le_of_ble_eq_true rfl) hd) ?_
  refine g_weak ?_ (cg_426_0 (d := d - 1) (by omega) hS hR v1 v2 N (C0 := fun z => Q (.inl none) (mz_k S R z b t)) (fun _ h => h) hp hq)
  exact ⟨rfl, rfl, rfl, trivial⟩
/-! 431 KeptHouseModel.edgeOf (II)I -/
theorem ms_431_0 : mz_sf mk_431 0 = mk_431 := mz_sf_zero _
theorem ms_431_17 : mz_sf mk_431 17 = mt_431_17 := mz_sf_add ms_431_0 (t := 17) rfl rfl
theorem ms_431_21 : mz_sf mk_431 21 = mt_431_21 := mz_sf_add ms_431_17 (t := 4) rfl rfl
theorem ms_431_32 : mz_sf mk_431 32 = mt_431_32 := mz_sf_add ms_431_21 (t := 11) rfl rfl
theorem ms_431_44 : mz_sf mk_431 44 = mt_431_44 := mz_sf_add ms_431_32 (t := 12) rfl rfl
theorem ms_431_48 : mz_sf mk_431 48 = mt_431_48 := mz_sf_add ms_431_44 (t := 4) rfl rfl
set_option maxRecDepth 100000 in
theorem mzq_431 : mz_PG0 431 = some (12, ⟨"KeptHouseModel", "edgeOf", "(II)I"⟩, prog_14_method_10_code, 3, some .int, [], mk_431, []) := rfl
theorem cg_431_0 (hd : 0 ≤ d) (hS : mz_extR S 342) (hR : mz_rok R 342)  (v0 : Int32) (v1 : Int32) {C0 : (Int32) → Prop} (hr : ∀ (w : Int32), C0 w → Q (.inl (some (.int w))) (mz_k S R N b t)) (hp : cp_431_0 v0 v1) (hC : C0 (cf_431_0 v0 v1)) : mz_G (d, mz_X0 L xs, some .int, [], mk_431, 3, Q) 0 mk_431 [(0, .int v0), (1, .int v1)] [] true (mz_k S R N b t) := by
  unfold cf_431_0 at hC
  unfold cp_431_0 at hp
  refine g_bipush mzb_9 (g_iload_n rfl (g_bipush mzb_8 (g_idiv (by decide) (g_imul (g_iload_n rfl (g_bipush mzb_8 (g_irem (by decide) ?_)))))))
  refine g_iadd (g_istore_n (Nat.le_of_ble_eq_true rfl) rfl (g_iload_n rfl ?_))
  refine g_ifne (tg := 21) rfl ms_431_21 hC (fun h1 hC => ?_) (fun h1 hC => ?_)
  · refine g_iload_n rfl (g_goto (tg := 48) rfl ms_431_48 ?_)
    exact g_iret rfl (hr _ hC)
  · refine g_iload_n rfl (g_iconst mzi_1 ?_)
    refine g_icne (tg := 32) rfl ms_431_32 hC (fun h2 hC => ?_) (fun h2 hC => ?_)
    · refine g_iload_n rfl (g_iconst mzi_1 (g_iadd (g_goto (tg := 48) rfl ms_431_48 ?_)))
      exact g_iret rfl (hr _ hC)
    · refine g_iload_n rfl (g_iconst mzi_2 ?_)
      refine g_icne (tg := 44) rfl ms_431_44 hC (fun h3 hC => ?_) (fun h3 hC => ?_)
      · refine g_bipush mzb_54 (g_iload_n rfl (g_iadd (g_goto (tg := 48) rfl ms_431_48 ?_)))
        exact g_iret rfl (hr _ hC)
      · refine g_bipush mzb_62 (g_iload_n rfl (g_iadd ?_))
        exact g_iret rfl (hr _ hC)
theorem cs_431 (hd : 1 ≤ d) (hS : mz_extR S 342) (hR : mz_rok R 342)  (v0 : Int32) (v1 : Int32) (hp : cp_431_0 v0 v1) (hq : Q (.inl (some (.int (cf_431_0 v0 v1)))) (mz_k S R N b t)) : mz_Ed (mz_X0 L xs) d 431 [.int v0, .int v1] (mz_k S R N b t) Q :=
  by
  refine g_in mzq_431 (Nat.le_of_ble_eq_true rfl) (Nat.le_of_ble_eq_true rfl) (Nat.le_trans (Nat.le_of_ble_eq_true rfl) hd) ?_
  refine g_weak ?_ (cg_431_0 (d := d - 1) (by omega) hS hR v0 v1 (C0 := fun z => Q (.inl (some (.int z))) (mz_k S R N b t)) (fun _ h => h) hp hq)
  exact ⟨rfl, rfl, trivial⟩
/-! 432 KeptHouseModel.cellBefore (I)I -/
theorem ms_432_0 : mz_sf mk_432 0 = mk_432 := mz_sf_zero _
theorem ms_432_17 : mz_sf mk_432 17 = mt_432_17 := mz_sf_add ms_432_0 (t := 17) rfl rfl
theorem ms_432_31 : mz_sf mk_432 31 = mt_432_31 := mz_sf_add ms_432_17 (t := 14) rfl rfl
theorem ms_432_32 : mz_sf mk_432 32 = mt_432_32 := mz_sf_add ms_432_31 (t := 1) rfl rfl
theorem ms_432_42 : mz_sf mk_432 42 = mt_432_42 := mz_sf_add ms_432_32 (t := 10) rfl rfl
theorem ms_432_46 : mz_sf mk_432 46 = mt_432_46 := mz_sf_add ms_432_42 (t := 4) rfl rfl
set_option maxRecDepth 100000 in
theorem mzq_432 : mz_PG0 432 = some (12, ⟨"KeptHouseModel", "cellBefore", "(I)I"⟩, prog_14_method_8_code, 1, some .int, [], mk_432, []) := rfl
theorem cg_432_0 (hd : 0 ≤ d) (hS : mz_extR S 342) (hR : mz_rok R 342)  (v0 : Int32) {C0 : (Int32) → Prop} (hr : ∀ (w : Int32), C0 w → Q (.inl (some (.int w))) (mz_k S R N b t)) (hp : cp_432_0 v0) (hC : C0 (cf_432_0 v0)) : mz_G (d, mz_X0 L xs, some .int, [], mk_432, 1, Q) 0 mk_432 [(0, .int v0)] [] true (mz_k S R N b t) := by
  unfold cf_432_0 at hC
  unfold cp_432_0 at hp
  refine g_iload_n rfl (g_bipush mzb_54 ?_)
  refine g_icge (tg := 32) rfl ms_432_32 hC (fun h1 hC => ?_) (fun h1 hC => ?_)
  · refine g_iload_n rfl (g_bipush mzb_9 (g_irem (by decide) ?_))
    refine g_ifne (tg := 17) rfl ms_432_17 hC (fun h2 hC => ?_) (fun h2 hC => ?_)
    · refine g_iconst mzi_m1 (g_goto (tg := 31) rfl ms_432_31 ?_)
      exact g_iret rfl (hr _ hC)
    · refine g_bipush mzb_8 (g_iload_n rfl (g_bipush mzb_9 (g_idiv (by decide) (g_imul (g_iload_n rfl (g_bipush mzb_9 (g_irem (by decide) ?_)))))))
      refine g_iadd (g_iconst mzi_1 (g_isub ?_))
      exact g_iret rfl (hr _ hC)
  · refine g_iload_n rfl (g_bipush mzb_62 ?_)
    refine g_icge (tg := 42) rfl ms_432_42 hC (fun h3 hC => ?_) (fun h3 hC => ?_)
    · refine g_iconst mzi_m1 (g_goto (tg := 46) rfl ms_432_46 ?_)
      exact g_iret rfl (hr _ hC)
    · refine g_iload_n rfl (g_bipush mzb_62 (g_isub ?_))
      exact g_iret rfl (hr _ hC)
theorem cs_432 (hd : 1 ≤ d) (hS : mz_extR S 342) (hR : mz_rok R 342)  (v0 : Int32) (hp : cp_432_0 v0) (hq : Q (.inl (some (.int (cf_432_0 v0)))) (mz_k S R N b t)) : mz_Ed (mz_X0 L xs) d 432 [.int v0] (mz_k S R N b t) Q :=
  by
  refine g_in mzq_432 (Nat.le_of_ble_eq_true rfl) (Nat.le_of_ble_eq_true rfl) (Nat.le_trans (Nat.le_of_ble_eq_true rfl) hd) ?_
  refine g_weak ?_ (cg_432_0 (d := d - 1) (by omega) hS hR v0 (C0 := fun z => Q (.inl (some (.int z))) (mz_k S R N b t)) (fun _ h => h) hp hq)
  exact ⟨rfl, trivial⟩
/-! 433 KeptHouseModel.cellBehind (I)I -/
theorem ms_433_0 : mz_sf mk_433 0 = mk_433 := mz_sf_zero _
theorem ms_433_19 : mz_sf mk_433 19 = mt_433_19 := mz_sf_add ms_433_0 (t := 19) rfl rfl
theorem ms_433_31 : mz_sf mk_433 31 = mt_433_31 := mz_sf_add ms_433_19 (t := 12) rfl rfl
theorem ms_433_32 : mz_sf mk_433 32 = mt_433_32 := mz_sf_add ms_433_31 (t := 1) rfl rfl
theorem ms_433_42 : mz_sf mk_433 42 = mt_433_42 := mz_sf_add ms_433_32 (t := 10) rfl rfl
theorem ms_433_46 : mz_sf mk_433 46 = mt_433_46 := mz_sf_add ms_433_42 (t := 4) rfl rfl
set_option maxRecDepth 100000 in
theorem mzq_433 : mz_PG0 433 = some (12, ⟨"KeptHouseModel", "cellBehind", "(I)I"⟩, prog_14_method_9_code, 1, some .int, [], mk_433, []) := rfl
theorem cg_433_0 (hd : 0 ≤ d) (hS : mz_extR S 342) (hR : mz_rok R 342)  (v0 : Int32) {C0 : (Int32) → Prop} (hr : ∀ (w : Int32), C0 w → Q (.inl (some (.int w))) (mz_k S R N b t)) (hp : cp_433_0 v0) (hC : C0 (cf_433_0 v0)) : mz_G (d, mz_X0 L xs, some .int, [], mk_433, 1, Q) 0 mk_433 [(0, .int v0)] [] true (mz_k S R N b t) := by
  unfold cf_433_0 at hC
  unfold cp_433_0 at hp
  refine g_iload_n rfl (g_bipush mzb_54 ?_)
  refine g_icge (tg := 32) rfl ms_433_32 hC (fun h1 hC => ?_) (fun h1 hC => ?_)
  · refine g_iload_n rfl (g_bipush mzb_9 (g_irem (by decide) (g_bipush mzb_8 ?_)))
    refine g_icne (tg := 19) rfl ms_433_19 hC (fun h2 hC => ?_) (fun h2 hC => ?_)
    · refine g_iconst mzi_m1 (g_goto (tg := 31) rfl ms_433_31 ?_)
      exact g_iret rfl (hr _ hC)
    · refine g_bipush mzb_8 (g_iload_n rfl (g_bipush mzb_9 (g_idiv (by decide) (g_imul (g_iload_n rfl (g_bipush mzb_9 (g_irem (by decide) ?_)))))))
      refine g_iadd ?_
      exact g_iret rfl (hr _ hC)
  · refine g_iload_n rfl (g_bipush mzb_101 ?_)
    refine g_icle (tg := 42) rfl ms_433_42 hC (fun h3 hC => ?_) (fun h3 hC => ?_)
    · refine g_iconst mzi_m1 (g_goto (tg := 46) rfl ms_433_46 ?_)
      exact g_iret rfl (hr _ hC)
    · refine g_iload_n rfl (g_bipush mzb_54 (g_isub ?_))
      exact g_iret rfl (hr _ hC)
theorem cs_433 (hd : 1 ≤ d) (hS : mz_extR S 342) (hR : mz_rok R 342)  (v0 : Int32) (hp : cp_433_0 v0) (hq : Q (.inl (some (.int (cf_433_0 v0)))) (mz_k S R N b t)) : mz_Ed (mz_X0 L xs) d 433 [.int v0] (mz_k S R N b t) Q :=
  by
  refine g_in mzq_433 (Nat.le_of_ble_eq_true rfl) (Nat.le_of_ble_eq_true rfl) (Nat.le_trans (Nat.le_of_ble_eq_true rfl) hd) ?_
  refine g_weak ?_ (cg_433_0 (d := d - 1) (by omega) hS hR v0 (C0 := fun z => Q (.inl (some (.int z))) (mz_k S R N b t)) (fun _ h => h) hp hq)
  exact ⟨rfl, trivial⟩
/-! 430 KeptHouseModel.beyond (II)I -/
theorem ms_430_0 : mz_sf mk_430 0 = mk_430 := mz_sf_zero _
theorem ms_430_19 : mz_sf mk_430 19 = mt_430_19 := mz_sf_add ms_430_0 (t := 19) rfl rfl
theorem ms_430_23 : mz_sf mk_430 23 = mt_430_23 := mz_sf_add ms_430_19 (t := 4) rfl rfl
set_option maxRecDepth 100000 in
theorem mzq_430 : mz_PG0 430 = some (12, ⟨"KeptHouseModel", "beyond", "(II)I"⟩, prog_14_method_11_code, 3, some .int, [], mk_430, []) := rfl
theorem cg_430_0 (hd : 1 ≤ d) (hS : mz_extR S 342) (hR : mz_rok R 342)  (v0 : Int32) (v1 : Int32) {C0 : (Int32) → Prop} (hr : ∀ (w : Int32), C0 w → Q (.inl (some (.int w))) (mz_k S R N b t)) (hp : cp_430_0 v0 v1) (hC : C0 (cf_430_0 v0 v1)) : mz_G (d, mz_X0 L xs, some .int, [], mk_430, 3, Q) 0 mk_430 [(0, .int v0), (1, .int v1)] [] true (mz_k S R N b t) := by
  unfold cf_430_0 at hC
  unfold cp_430_0 at hp
  refine g_iload_n rfl (g_iload_n rfl ?_)
  refine g_s2v (Nat.le_of_ble_eq_true rfl) (fun _ hq => cs_431 (Nat.le_trans (Nat.le_of_ble_eq_true rfl) hd) (hS.le (Nat.le_of_ble_eq_true rfl)) (hR.le (Nat.le_of_ble_eq_true rfl))  v0 v1 trivial hq) (g_istore_n (Nat.le_of_ble_eq_true rfl) rfl (g_iload_n rfl (g_iconst mzi_2 (g_irem (by decide) ?_))))
  refine g_ifne (tg := 19) rfl ms_430_19 hC (fun h2 hC => ?_) (fun h2 hC => ?_)
  · refine g_iload_n rfl ?_
    refine g_s1v (Nat.le_of_ble_eq_true rfl) (fun _ hq => cs_432 (Nat.le_trans (Nat.le_of_ble_eq_true rfl) hd) (hS.le (Nat.le_of_ble_eq_true rfl)) (hR.le (Nat.le_of_ble_eq_true rfl))  (cf_431_0 v0 v1) trivial hq) (g_goto (tg := 23) rfl ms_430_23 ?_)
    exact g_iret rfl (hr _ hC)
  · refine g_iload_n rfl ?_
    refine g_s1v (Nat.le_of_ble_eq_true rfl) (fun _ hq => cs_433 (Nat.le_trans (Nat.le_of_ble_eq_true rfl) hd) (hS.le (Nat.le_of_ble_eq_true rfl)) (hR.le (Nat.le_of_ble_eq_true rfl))  (cf_431_0 v0 v1) trivial hq) ?_
    exact g_iret rfl (hr _ hC)
theorem cs_430 (hd : 2 ≤ d) (hS : mz_extR S 342) (hR : mz_rok R 342)  (v0 : Int32) (v1 : Int32) (hp : cp_430_0 v0 v1) (hq : Q (.inl (some (.int (cf_430_0 v0 v1)))) (mz_k S R N b t)) : mz_Ed (mz_X0 L xs) d 430 [.int v0, .int v1] (mz_k S R N b t) Q :=
  by
  refine g_in mzq_430 (Nat.le_of_ble_eq_true rfl) (Nat.le_of_ble_eq_true rfl) (Nat.le_trans (Nat.le_of_ble_eq_true rfl) hd) ?_
  refine g_weak ?_ (cg_430_0 (d := d - 1) (by omega) hS hR v0 v1 (C0 := fun z => Q (.inl (some (.int z))) (mz_k S R N b t)) (fun _ h => h) hp hq)
  exact ⟨rfl, rfl, trivial⟩
/-! 429 KeptHouseModel.flood (III)I -/
theorem ms_429_0 : mz_sf mk_429 0 = mk_429 := mz_sf_zero _
theorem ms_429_23 : mz_sf mk_429 23 = mt_429_23 := mz_sf_add ms_429_0 (t := 23) rfl rfl
theorem ms_429_26 : mz_sf mk_429 26 = mt_429_26 := mz_sf_add ms_429_23 (t := 3) rfl rfl
theorem ms_429_48 : mz_sf mk_429 48 = mt_429_48 := mz_sf_add ms_429_26 (t := 22) rfl rfl
theorem ms_429_95 : mz_sf mk_429 95 = mt_429_95 := mz_sf_add ms_429_48 (t := 47) rfl rfl
theorem ms_429_125 : mz_sf mk_429 125 = mt_429_125 := mz_sf_add ms_429_95 (t := 30) rfl rfl
theorem ms_429_143 : mz_sf mk_429 143 = mt_429_143 := mz_sf_add ms_429_125 (t := 18) rfl rfl
theorem ms_429_149 : mz_sf mk_429 149 = mt_429_149 := mz_sf_add ms_429_143 (t := 6) rfl rfl
theorem ms_429_155 : mz_sf mk_429 155 = mt_429_155 := mz_sf_add ms_429_149 (t := 6) rfl rfl
set_option maxRecDepth 100000 in
theorem mzq_429 : mz_PG0 429 = some (12, ⟨"KeptHouseModel", "flood", "(III)I"⟩, prog_14_method_13_code, 10, some .int, [], mk_429, []) := rfl
theorem cg_429_143 (hd : 2 ≤ d) (hS : mz_extR S 342) (hR : mz_rok R 342)  (v1 : Int32) (v3 : Int32) (v4 : Int32) (v5 : Int32) (v6 : Int32) (v7 : Int32) (v8 : Int32) (N : mz_N) {C0 : (Int32 × mz_N) → Prop} (hr : ∀ (w : Int32) (N2 : mz_N), C0 (w, N2) → Q (.inl (some (.int w))) (mz_k S R N2 b t)) {C1 : ((Int32 × Int32 × mz_N) ⊕ (Int32 × mz_N)) → Prop} (hc1 : ∀ s2, C1 (.inl s2) → mz_G (d, mz_X0 L xs, some .int, [], mk_429, 10, Q) 26 mt_429_26 [(0, .ref 232), (1, .int v1), (3, .int v3), (4, .int v4), (5, .int s2.1), (6, .int s2.2.1)] [] false (mz_k S R s2.2.2 b t)) (hx1 : ∀ z, C1 (.inr z) → C0 z) {C2 : ((Int32 × Int32 × mz_N) ⊕ ((Int32 × Int32 × mz_N) ⊕ (Int32 × mz_N))) → Prop} (hc2 : ∀ s2, C2 (.inl s2) → mz_G (d, mz_X0 L xs, some .int, [], mk_429, 10, Q) 48 mt_429_48 [(0, .ref 232), (1, .int v1), (3, .int v3), (4, .int v4), (5, .int s2.1), (6, .int v6), (7, .int v7), (8, .int s2.2.1)] [] false (mz_k S R s2.2.2 b t)) (hx2 : ∀ z, C2 (.inr z) → C1 z) (hp : cp_429_143 v1 v3 v4 v5 v6 v7 v8 N) (hC : C2 (cf_429_143 v1 v3 v4 v5 v6 v7 v8 N)) : mz_G (d, mz_X0 L xs, some .int, [], mk_429, 10, Q) 143 mt_429_143 [(0, .ref 232), (1, .int v1), (3, .int v3), (4, .int v4), (5, .int v5), (6, .int v6), (7, .int v7), (8, .int v8)] [] false (mz_k S R N b t) := by
  unfold cf_429_143 at hC
  unfold cp_429_143 at hp
  refine g_iinc rfl mzi_1 (Nat.le_of_ble_eq_true rfl) rfl (g_goto (tg := 48) rfl ms_429_48 ?_)
  refine g_weak ?_ (g_cl (hc2 (v5, (v8 + 1), N) hC))
  exact ⟨rfl, rfl, rfl, rfl, rfl, rfl, rfl, rfl, trivial⟩
theorem cb_429_48 (hd : 2 ≤ d) (hS : mz_extR S 342) (hR : mz_rok R 342)  (v1 : Int32) (v3 : Int32) (v4 : Int32) (v6 : Int32) (v7 : Int32) (s : Int32 × Int32 × mz_N) {C0 : (Int32 × mz_N) → Prop} (hr : ∀ (w : Int32) (N2 : mz_N), C0 (w, N2) → Q (.inl (some (.int w))) (mz_k S R N2 b t)) {C1 : ((Int32 × Int32 × mz_N) ⊕ (Int32 × mz_N)) → Prop} (hc1 : ∀ s2, C1 (.inl s2) → mz_G (d, mz_X0 L xs, some .int, [], mk_429, 10, Q) 26 mt_429_26 [(0, .ref 232), (1, .int v1), (3, .int v3), (4, .int v4), (5, .int s2.1), (6, .int s2.2.1)] [] false (mz_k S R s2.2.2 b t)) (hx1 : ∀ z, C1 (.inr z) → C0 z) {C2 : ((Int32 × Int32 × mz_N) ⊕ ((Int32 × Int32 × mz_N) ⊕ (Int32 × mz_N))) → Prop} (hc2 : ∀ s2, C2 (.inl s2) → mz_G (d, mz_X0 L xs, some .int, [], mk_429, 10, Q) 48 mt_429_48 [(0, .ref 232), (1, .int v1), (3, .int v3), (4, .int v4), (5, .int s2.1), (6, .int v6), (7, .int v7), (8, .int s2.2.1)] [] false (mz_k S R s2.2.2 b t)) (hx2 : ∀ z, C2 (.inr z) → C1 z) (hp : cd_429_48 v1 v3 v4 v6 v7 s) (hC : C2 (cq_429_48 v1 v3 v4 v6 v7 s)) : mz_G (d, mz_X0 L xs, some .int, [], mk_429, 10, Q) 48 mt_429_48 [(0, .ref 232), (1, .int v1), (3, .int v3), (4, .int v4), (5, .int s.1), (6, .int v6), (7, .int v7), (8, .int s.2.1)] [] false (mz_k S R s.2.2 b t) := by
  unfold cq_429_48 at hC
  unfold cd_429_48 at hp
  refine g_iload rfl (g_iconst mzi_4 ?_)
  refine g_icge (tg := 149) rfl ms_429_149 hC (fun h1 hC => ?_) (fun h1 hC => ?_)
  · have hp := hp.1 h1
    refine g_iload rfl (g_iload rfl ?_)
    refine g_s2v (Nat.le_of_ble_eq_true rfl) (fun _ hq => cs_430 (Nat.le_trans (Nat.le_of_ble_eq_true rfl) hd) (hS.le (Nat.le_of_ble_eq_true rfl)) (hR.le (Nat.le_of_ble_eq_true rfl))  v7 s.2.1 trivial hq) (g_istore (Nat.le_of_ble_eq_true rfl) rfl (g_iload rfl ?_))
    refine g_iflt (tg := 143) rfl ms_429_143 hC (fun h3 hC => ?_) (fun h3 hC => ?_)
    · have hp := hp.1 h3
      refine g_weak ?_ (g_cl (cg_429_143 hd hS hR v1 v3 v4 s.1 v6 v7 s.2.1 s.2.2 hr hc1 hx1 hc2 hx2 hp hC))
      exact ⟨rfl, rfl, rfl, rfl, rfl, rfl, rfl, rfl, trivial⟩
    · have hp := hp.2 h3
      refine g_aload_n rfl (g_getR (mz_at hS (Nat.le_of_ble_eq_true rfl) mzcS_232) mzcf_12_3 (mz_rb hR (Nat.le_of_ble_eq_true rfl) rfl mzcR_232_3) (g_sipush mzs_550 (g_iload_n rfl (g_imul (g_bipush mzb_110 (g_iload rfl (g_imul ?_)))))))
      refine g_iadd (g_iload rfl (g_iload rfl ?_))
      refine g_s2v (Nat.le_of_ble_eq_true rfl) (fun _ hq => cs_431 (Nat.le_trans (Nat.le_of_ble_eq_true rfl) hd) (hS.le (Nat.le_of_ble_eq_true rfl)) (hR.le (Nat.le_of_ble_eq_true rfl))  v7 s.2.1 trivial hq) (g_iadd ?_)
      obtain ⟨h5, hp⟩ := hp
      refine g_iald hS.1 (mz_at hS (Nat.le_of_ble_eq_true rfl) mzcS_233) h5 ?_
      refine g_ifne (tg := 143) rfl ms_429_143 hC (fun h6 hC => ?_) (fun h6 hC => ?_)
      · have hp := hp.1 h6
        refine g_aload_n rfl (g_getR (mz_at hS (Nat.le_of_ble_eq_true rfl) mzcS_232) mzcf_12_6 (mz_rb hR (Nat.le_of_ble_eq_true rfl) rfl mzcR_232_6) (g_bipush mzb_48 (g_iload rfl (g_imul (g_iload rfl (g_iadd ?_))))))
        obtain ⟨h7, hp⟩ := hp
        refine g_iald hS.1 (mz_at hS (Nat.le_of_ble_eq_true rfl) mzcS_235) h7 ?_
        refine g_ifge (tg := 143) rfl ms_429_143 hC (fun h8 hC => ?_) (fun h8 hC => ?_)
        · have hp := hp.1 h8
          refine g_aload_n rfl (g_getR (mz_at hS (Nat.le_of_ble_eq_true rfl) mzcS_232) mzcf_12_6 (mz_rb hR (Nat.le_of_ble_eq_true rfl) rfl mzcR_232_6) (g_bipush mzb_48 (g_iload rfl (g_imul (g_iload rfl (g_iadd (g_iload_n rfl ?_)))))))
          obtain ⟨h9, hp⟩ := hp
          refine g_iast (mz_at hS (Nat.le_of_ble_eq_true rfl) mzcS_235) h9 (g_aload_n rfl (g_getR (mz_at hS (Nat.le_of_ble_eq_true rfl) mzcS_232) mzcf_12_10 (mz_rb hR (Nat.le_of_ble_eq_true rfl) rfl mzcR_232_10) (g_iload rfl (g_bipush mzb_48 (g_iload rfl (g_imul (g_iload rfl ?_)))))))
          refine g_iadd ?_
          obtain ⟨h10, hp⟩ := hp
          refine g_iast (mz_at hS (Nat.le_of_ble_eq_true rfl) mzcS_238) h10 (g_iinc rfl mzi_1 (Nat.le_of_ble_eq_true rfl) rfl ?_)
          refine g_weak ?_ (g_cl (cg_429_143 hd hS hR v1 v3 v4 (s.1 + 1) v6 v7 s.2.1 (mz_wI (mz_wI s.2.2 235 ((48 * v4) + (cf_430_0 v7 s.2.1)) v3) 238 s.1 ((48 * v4) + (cf_430_0 v7 s.2.1))) hr hc1 hx1 hc2 hx2 hp hC))
          exact ⟨rfl, rfl, rfl, rfl, rfl, rfl, rfl, rfl, trivial⟩
        · have hp := hp.2 h8
          refine g_weak ?_ (g_cl (cg_429_143 hd hS hR v1 v3 v4 s.1 v6 v7 s.2.1 s.2.2 hr hc1 hx1 hc2 hx2 hp hC))
          exact ⟨rfl, rfl, rfl, rfl, rfl, rfl, rfl, rfl, trivial⟩
      · have hp := hp.2 h6
        refine g_weak ?_ (g_cl (cg_429_143 hd hS hR v1 v3 v4 s.1 v6 v7 s.2.1 s.2.2 hr hc1 hx1 hc2 hx2 hp hC))
        exact ⟨rfl, rfl, rfl, rfl, rfl, rfl, rfl, rfl, trivial⟩
  · have hp := hp.2 h1
    refine g_iinc rfl mzi_1 (Nat.le_of_ble_eq_true rfl) rfl (g_goto (tg := 26) rfl ms_429_26 ?_)
    refine g_weak ?_ (g_cl (hc1 (s.1, (v6 + 1), s.2.2) (hx2 _ hC)))
    exact ⟨rfl, rfl, rfl, rfl, rfl, rfl, trivial⟩
theorem cg_429_48 (hd : 2 ≤ d) (hS : mz_extR S 342) (hR : mz_rok R 342)  (v1 : Int32) (v3 : Int32) (v4 : Int32) (v5 : Int32) (v6 : Int32) (v7 : Int32) (v8 : Int32) (N : mz_N) {C0 : (Int32 × mz_N) → Prop} (hr : ∀ (w : Int32) (N2 : mz_N), C0 (w, N2) → Q (.inl (some (.int w))) (mz_k S R N2 b t)) {C1 : ((Int32 × Int32 × mz_N) ⊕ (Int32 × mz_N)) → Prop} (hc1 : ∀ s2, C1 (.inl s2) → mz_G (d, mz_X0 L xs, some .int, [], mk_429, 10, Q) 26 mt_429_26 [(0, .ref 232), (1, .int v1), (3, .int v3), (4, .int v4), (5, .int s2.1), (6, .int s2.2.1)] [] false (mz_k S R s2.2.2 b t)) (hx1 : ∀ z, C1 (.inr z) → C0 z) (hp : cp_429_48 v1 v3 v4 v5 v6 v7 v8 N) (hC : C1 (cf_429_48 v1 v3 v4 v5 v6 v7 v8 N)) : mz_G (d, mz_X0 L xs, some .int, [], mk_429, 10, Q) 48 mt_429_48 [(0, .ref 232), (1, .int v1), (3, .int v3), (4, .int v4), (5, .int v5), (6, .int v6), (7, .int v7), (8, .int v8)] [] false (mz_k S R N b t) := by
  obtain ⟨n, hn⟩ := hp
  exact g_loop (G := fun s => mz_G (d, mz_X0 L xs, some .int, [], mk_429, 10, Q) 48 mt_429_48 [(0, .ref 232), (1, .int v1), (3, .int v3), (4, .int v4), (5, .int s.1), (6, .int v6), (7, .int v7), (8, .int s.2.1)] [] false (mz_k S R s.2.2 b t)) (C := C1) (fun C2 hc hx s hP hC => cb_429_48 hd hS hR v1 v3 v4 v6 v7 s hr hc1 hx1 hc hx hP hC) n (v5, v8, N) hn hC
theorem cb_429_26 (hd : 2 ≤ d) (hS : mz_extR S 342) (hR : mz_rok R 342)  (v1 : Int32) (v3 : Int32) (v4 : Int32) (s : Int32 × Int32 × mz_N) {C0 : (Int32 × mz_N) → Prop} (hr : ∀ (w : Int32) (N2 : mz_N), C0 (w, N2) → Q (.inl (some (.int w))) (mz_k S R N2 b t)) {C1 : ((Int32 × Int32 × mz_N) ⊕ (Int32 × mz_N)) → Prop} (hc1 : ∀ s2, C1 (.inl s2) → mz_G (d, mz_X0 L xs, some .int, [], mk_429, 10, Q) 26 mt_429_26 [(0, .ref 232), (1, .int v1), (3, .int v3), (4, .int v4), (5, .int s2.1), (6, .int s2.2.1)] [] false (mz_k S R s2.2.2 b t)) (hx1 : ∀ z, C1 (.inr z) → C0 z) (hp : cd_429_26 v1 v3 v4 s) (hC : C1 (cq_429_26 v1 v3 v4 s)) : mz_G (d, mz_X0 L xs, some .int, [], mk_429, 10, Q) 26 mt_429_26 [(0, .ref 232), (1, .int v1), (3, .int v3), (4, .int v4), (5, .int s.1), (6, .int s.2.1)] [] false (mz_k S R s.2.2 b t) := by
  unfold cq_429_26 at hC
  unfold cd_429_26 at hp
  refine g_iload rfl (g_iload rfl ?_)
  refine g_icge (tg := 155) rfl ms_429_155 hC (fun h1 hC => ?_) (fun h1 hC => ?_)
  · have hp := hp.1 h1
    refine g_aload_n rfl (g_getR (mz_at hS (Nat.le_of_ble_eq_true rfl) mzcS_232) mzcf_12_10 (mz_rb hR (Nat.le_of_ble_eq_true rfl) rfl mzcR_232_10) (g_iload rfl ?_))
    obtain ⟨h2, hp⟩ := hp
    refine g_iald hS.1 (mz_at hS (Nat.le_of_ble_eq_true rfl) mzcS_238) h2 (g_bipush mzb_48 (g_irem (by decide) (g_istore (Nat.le_of_ble_eq_true rfl) rfl (g_iconst mzi_0 (g_istore (Nat.le_of_ble_eq_true rfl) rfl ?_)))))
    refine g_weak ?_ (g_cl (cg_429_48 hd hS hR v1 v3 v4 s.1 s.2.1 (mz_irem (mz_gI s.2.2 238 s.2.1) 48) 0 s.2.2 hr hc1 hx1 hp hC))
    exact ⟨rfl, rfl, rfl, rfl, rfl, rfl, rfl, rfl, trivial⟩
  · have hp := hp.2 h1
    refine g_iload rfl ?_
    exact g_iret rfl (hr _ _ (hx1 _ hC))
theorem cg_429_26 (hd : 2 ≤ d) (hS : mz_extR S 342) (hR : mz_rok R 342)  (v1 : Int32) (v3 : Int32) (v4 : Int32) (v5 : Int32) (v6 : Int32) (N : mz_N) {C0 : (Int32 × mz_N) → Prop} (hr : ∀ (w : Int32) (N2 : mz_N), C0 (w, N2) → Q (.inl (some (.int w))) (mz_k S R N2 b t)) (hp : cp_429_26 v1 v3 v4 v5 v6 N) (hC : C0 (cf_429_26 v1 v3 v4 v5 v6 N)) : mz_G (d, mz_X0 L xs, some .int, [], mk_429, 10, Q) 26 mt_429_26 [(0, .ref 232), (1, .int v1), (3, .int v3), (4, .int v4), (5, .int v5), (6, .int v6)] [] false (mz_k S R N b t) := by
  obtain ⟨n, hn⟩ := hp
  exact g_loop (G := fun s => mz_G (d, mz_X0 L xs, some .int, [], mk_429, 10, Q) 26 mt_429_26 [(0, .ref 232), (1, .int v1), (3, .int v3), (4, .int v4), (5, .int s.1), (6, .int s.2.1)] [] false (mz_k S R s.2.2 b t)) (C := C0) (fun C2 hc hx s hP hC => cb_429_26 hd hS hR v1 v3 v4 s hr hc hx hP hC) n (v5, v6, N) hn hC
theorem cg_429_0 (hd : 2 ≤ d) (hS : mz_extR S 342) (hR : mz_rok R 342)  (v1 : Int32) (v2 : Int32) (v3 : Int32) (N : mz_N) {C0 : (Int32 × mz_N) → Prop} (hr : ∀ (w : Int32) (N2 : mz_N), C0 (w, N2) → Q (.inl (some (.int w))) (mz_k S R N2 b t)) (hp : cp_429_0 v1 v2 v3 N) (hC : C0 (cf_429_0 v1 v2 v3 N)) : mz_G (d, mz_X0 L xs, some .int, [], mk_429, 10, Q) 0 mk_429 [(0, .ref 232), (1, .int v1), (2, .int v2), (3, .int v3)] [] true (mz_k S R N b t) := by
  unfold cf_429_0 at hC
  unfold cp_429_0 at hp
  refine g_iload_n rfl (g_bipush mzb_48 (g_idiv (by decide) (g_istore (Nat.le_of_ble_eq_true rfl) rfl (g_iconst mzi_1 (g_istore (Nat.le_of_ble_eq_true rfl) rfl (g_aload_n rfl (g_getR (mz_at hS (Nat.le_of_ble_eq_true rfl) mzcS_232) mzcf_12_10 (mz_rb hR (Nat.le_of_ble_eq_true rfl) rfl mzcR_232_10) ?_)))))))
  refine g_iconst mzi_0 (g_iload_n rfl (g_iast (mz_at hS (Nat.le_of_ble_eq_true rfl) mzcS_238) (mz_ibd (by decide)) (g_aload_n rfl (g_getR (mz_at hS (Nat.le_of_ble_eq_true rfl) mzcS_232) mzcf_12_6 (mz_rb hR (Nat.le_of_ble_eq_true rfl) rfl mzcR_232_6) (g_iload_n rfl (g_iload_n rfl ?_))))))
  obtain ⟨h1, hp⟩ := hp
  refine g_iast (mz_at hS (Nat.le_of_ble_eq_true rfl) mzcS_235) h1 (g_iconst mzi_0 (g_istore (Nat.le_of_ble_eq_true rfl) rfl ?_))
  refine g_weak ?_ (g_cl (cg_429_26 hd hS hR v1 v3 (v2 / 48) 1 0 (mz_wI (mz_wI N 238 0 v2) 235 v2 v3) hr hp hC))
  exact ⟨rfl, rfl, rfl, rfl, rfl, rfl, trivial⟩
theorem cs_429 (hd : 3 ≤ d) (hS : mz_extR S 342) (hR : mz_rok R 342)  (v1 : Int32) (v2 : Int32) (v3 : Int32) (N : mz_N) (hp : cp_429_0 v1 v2 v3 N) (hq : Q (.inl (some (.int ((cf_429_0 v1 v2 v3 N).1)))) (mz_k S R ((cf_429_0 v1 v2 v3 N).2) b t)) : mz_Ed (mz_X0 L xs) d 429 [.ref 232, .int v1, .int v2, .int v3] (mz_k S R N b t) Q :=
  by
  refine g_in mzq_429 (Nat.le_of_ble_eq_true rfl) (Nat.le_of_ble_eq_true rfl) (Nat.le_trans (Nat.le_of_ble_eq_true rfl) hd) ?_
  refine g_weak ?_ (cg_429_0 (d := d - 1) (by omega) hS hR v1 v2 v3 N (C0 := fun z => Q (.inl (some (.int z.1))) (mz_k S R z.2 b t)) (fun _ _ h => h) hp hq)
  exact ⟨rfl, rfl, rfl, rfl, trivial⟩
end Fn21
