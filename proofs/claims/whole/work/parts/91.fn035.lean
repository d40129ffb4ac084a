/-! THE FUNCTIONS: written by program: each method comes to its function. -/
section Fn35
variable {L : Nat} {xs : Nat → Int32} {d : Nat} {S : mz_S} {R : Nat → Nat → Option Nat} {Q : mz_Q} {N : mz_N} {b : Bool} {t : Nat}
/-! 586 KeptHouseModel.meter (II)I -/
theorem ms_586_0 : mz_sf mk_586 0 = mk_586 := mz_sf_zero _
theorem ms_586_29 : mz_sf mk_586 29 = mt_586_29 := mz_sf_add ms_586_0 (t := 29) rfl rfl
theorem ms_586_30 : mz_sf mk_586 30 = mt_586_30 := mz_sf_add ms_586_29 (t := 1) rfl rfl
theorem ms_586_39 : mz_sf mk_586 39 = mt_586_39 := mz_sf_add ms_586_30 (t := 9) rfl rfl
theorem ms_586_52 : mz_sf mk_586 52 = mt_586_52 := mz_sf_add ms_586_39 (t := 13) rfl rfl
theorem ms_586_66 : mz_sf mk_586 66 = mt_586_66 := mz_sf_add ms_586_52 (t := 14) rfl rfl
theorem ms_586_72 : mz_sf mk_586 72 = mt_586_72 := mz_sf_add ms_586_66 (t := 6) rfl rfl
set_option maxRecDepth 100000 in
theorem mzq_586 : mz_PG0 586 = some (12, ⟨"KeptHouseModel", "meter", "(II)I"⟩, prog_14_method_155_code, 3, some .int, [], mk_586, []) := rfl
theorem cg_586_30 (hd : 1 ≤ d) (hS : mz_extR S 342) (hR : mz_rok R 342)  (s1 : Bool) (v1 : Int32) (v2 : Int32) (N : mz_N) {C0 : (Int32 × mz_N) → Prop} (hr : ∀ (w : Int32) (N2 : mz_N), C0 (w, N2) → Q (.inl (some (.int w))) (mz_k S R N2 b t)) (hp : cp_586_30 s1 v1 v2 N) (hC : C0 (cf_586_30 s1 v1 v2 N)) : mz_G (d, mz_X0 L xs, some .int, [], mk_586, 3, Q) 30 mt_586_30 [(0, .ref 232), (1, .int v1), (2, .int v2)] [.int (mz_b01 s1), .ref 232] false (mz_k S R N b t) := by
  unfold cf_586_30 at hC
  unfold cp_586_30 at hp
  refine g_iconst mzi_1 ?_
  obtain ⟨h1, hp⟩ := hp
  refine g_v3v (Nat.le_of_ble_eq_true rfl) (mz_at hS (Nat.le_of_ble_eq_true rfl) mzcS_232) (fun _ hq => cs_462 (Nat.le_trans (Nat.le_of_ble_eq_true rfl) hd) (hS.le (Nat.le_of_ble_eq_true rfl)) (hR.le (Nat.le_of_ble_eq_true rfl))  s1 true N h1 hq) ?_
  refine g_zeq (tg := 39) rfl ms_586_39 hC (fun h2 hC => ?_) (fun h2 hC => ?_)
  · have hp := hp.1 h2
    refine g_iconst mzi_0 ?_
    exact g_iret rfl (hr _ _ hC)
  · have hp := hp.2 h2
    refine g_iload_n rfl ?_
    refine g_ifne (tg := 52) rfl ms_586_52 hC (fun h3 hC => ?_) (fun h3 hC => ?_)
    · have hp := hp.1 h3
      refine g_aload_n rfl (g_getR (mz_at hS (Nat.le_of_ble_eq_true rfl) mzcS_232) mzcf_12_117 (mz_rb hR (Nat.le_of_ble_eq_true rfl) rfl mzcR_232_117) (g_iload_n rfl ?_))
      have h4 := hp
      refine g_lald (mz_at hS (Nat.le_of_ble_eq_true rfl) mzcS_321) h4 (g_goto (tg := 72) rfl ms_586_72 (g_l2i ?_))
      exact g_iret rfl (hr _ _ hC)
    · have hp := hp.2 h3
      refine g_iload_n rfl (g_iconst mzi_1 ?_)
      refine g_icne (tg := 66) rfl ms_586_66 hC (fun h5 hC => ?_) (fun h5 hC => ?_)
      · have hp := hp.1 h5
        refine g_aload_n rfl (g_getR (mz_at hS (Nat.le_of_ble_eq_true rfl) mzcS_232) mzcf_12_118 (mz_rb hR (Nat.le_of_ble_eq_true rfl) rfl mzcR_232_118) (g_iload_n rfl ?_))
        have h6 := hp
        refine g_lald (mz_at hS (Nat.le_of_ble_eq_true rfl) mzcS_322) h6 (g_goto (tg := 72) rfl ms_586_72 (g_l2i ?_))
        exact g_iret rfl (hr _ _ hC)
      · have hp := hp.2 h5
        refine g_aload_n rfl (g_getR (mz_at hS (Nat.le_of_ble_eq_true rfl) mzcS_232) mzcf_12_119 (mz_rb hR (Nat.le_of_ble_eq_true rfl) rfl mzcR_232_119) (g_iload_n rfl ?_))
        have h7 := hp
        refine g_lald (mz_at hS (Nat.le_of_ble_eq_true rfl) mzcS_323) h7 (g_l2i ?_)
        exact g_iret rfl (hr _ _ hC)
theorem cg_586_29 (hd : 1 ≤ d) (hS : mz_extR S 342) (hR : mz_rok R 342)  (v1 : Int32) (v2 : Int32) (N : mz_N) {C0 : (Int32 × mz_N) → Prop} (hr : ∀ (w : Int32) (N2 : mz_N), C0 (w, N2) → Q (.inl (some (.int w))) (mz_k S R N2 b t)) (hp : cp_586_29 v1 v2 N) (hC : C0 (cf_586_29 v1 v2 N)) : mz_G (d, mz_X0 L xs, some .int, [], mk_586, 3, Q) 29 mt_586_29 [(0, .ref 232), (1, .int v1), (2, .int v2)] [.ref 232] false (mz_k S R N b t) := by
  unfold cf_586_29 at hC
  unfold cp_586_29 at hp
  refine g_iconst mzi_0 ?_
  refine g_weak ?_ (g_cl (cg_586_30 hd hS hR false v1 v2 N hr hp hC))
  exact ⟨rfl, rfl, rfl, trivial⟩
theorem cg_586_0 (hd : 1 ≤ d) (hS : mz_extR S 342) (hR : mz_rok R 342)  (v1 : Int32) (v2 : Int32) (N : mz_N) {C0 : (Int32 × mz_N) → Prop} (hr : ∀ (w : Int32) (N2 : mz_N), C0 (w, N2) → Q (.inl (some (.int w))) (mz_k S R N2 b t)) (hp : cp_586_0 v1 v2 N) (hC : C0 (cf_586_0 v1 v2 N)) : mz_G (d, mz_X0 L xs, some .int, [], mk_586, 3, Q) 0 mk_586 [(0, .ref 232), (1, .int v1), (2, .int v2)] [] true (mz_k S R N b t) := by
  unfold cf_586_0 at hC
  unfold cp_586_0 at hp
  refine g_aload_n rfl (g_iload_n rfl (g_i2l (g_lconst mzl_0 (g_con3 ?_))))
  refine g_s3v (Nat.le_of_ble_eq_true rfl) (fun _ hq => cs_466 (Nat.le_trans (Nat.le_of_ble_eq_true rfl) hd) (hS.le (Nat.le_of_ble_eq_true rfl)) (hR.le (Nat.le_of_ble_eq_true rfl))  v1.toInt64 0 10 trivial hq) ?_
  refine g_zeq (tg := 29) rfl ms_586_29 hC (fun h2 hC => ?_) (fun h2 hC => ?_)
  · have hp := hp.1 h2
    refine g_iload_n rfl (g_i2l (g_lconst mzl_0 (g_con3 ?_)))
    refine g_s3v (Nat.le_of_ble_eq_true rfl) (fun _ hq => cs_466 (Nat.le_trans (Nat.le_of_ble_eq_true rfl) hd) (hS.le (Nat.le_of_ble_eq_true rfl)) (hR.le (Nat.le_of_ble_eq_true rfl))  v2.toInt64 0 2 trivial hq) ?_
    refine g_zeq (tg := 29) rfl ms_586_29 hC (fun h4 hC => ?_) (fun h4 hC => ?_)
    · have hp := hp.1 h4
      refine g_iconst mzi_1 (g_goto (tg := 30) rfl ms_586_30 ?_)
      refine g_weak ?_ (g_cl (cg_586_30 hd hS hR true v1 v2 N hr hp hC))
      exact ⟨rfl, rfl, rfl, trivial⟩
    · have hp := hp.2 h4
      refine g_weak ?_ (g_cl (cg_586_29 hd hS hR v1 v2 N hr hp hC))
      exact ⟨rfl, rfl, rfl, trivial⟩
  · have hp := hp.2 h2
    refine g_weak ?_ (g_cl (cg_586_29 hd hS hR v1 v2 N hr hp hC))
    exact ⟨rfl, rfl, rfl, trivial⟩
theorem cs_586 (hd : 2 ≤ d) (hS : mz_extR S 342) (hR : mz_rok R 342)  (v1 : Int32) (v2 : Int32) (N : mz_N) (hp : cp_586_0 v1 v2 N) (hq : Q (.inl (some (.int ((cf_586_0 v1 v2 N).1)))) (mz_k S R ((cf_586_0 v1 v2 N).2) b t)) : mz_Ed (mz_X0 L xs) d 586 [.ref 232, .int v1, .int v2] (mz_k S R N b t) Q :=
  by
  refine g_in mzq_586 (Nat.le_of_ble_eq_true rfl) (Nat.le_of_ble_eq_true rfl) (Nat.le_trans (Nat.le_of_ble_eq_true rfl) hd) ?_
  refine g_weak ?_ (cg_586_0 (d := d - 1) (by omega) hS hR v1 v2 N (C0 := fun z => Q (.inl (some (.int z.1))) (mz_k S R z.2 b t)) (fun _ _ h => h) hp hq)
  exact ⟨rfl, rfl, rfl, trivial⟩
/-! 587 KeptHouseModel.account (II)J -/
theorem ms_587_0 : mz_sf mk_587 0 = mk_587 := mz_sf_zero _
theorem ms_587_27 : mz_sf mk_587 27 = mt_587_27 := mz_sf_add ms_587_0 (t := 27) rfl rfl
theorem ms_587_28 : mz_sf mk_587 28 = mt_587_28 := mz_sf_add ms_587_27 (t := 1) rfl rfl
theorem ms_587_37 : mz_sf mk_587 37 = mt_587_37 := mz_sf_add ms_587_28 (t := 9) rfl rfl
theorem ms_587_50 : mz_sf mk_587 50 = mt_587_50 := mz_sf_add ms_587_37 (t := 13) rfl rfl
theorem ms_587_56 : mz_sf mk_587 56 = mt_587_56 := mz_sf_add ms_587_50 (t := 6) rfl rfl
set_option maxRecDepth 100000 in
theorem mzq_587 : mz_PG0 587 = some (12, ⟨"KeptHouseModel", "account", "(II)J"⟩, prog_14_method_156_code, 3, some .long, [], mk_587, []) := rfl
theorem cg_587_28 (hd : 1 ≤ d) (hS : mz_extR S 342) (hR : mz_rok R 342)  (s1 : Bool) (v1 : Int32) (v2 : Int32) (N : mz_N) {C0 : (Int64 × mz_N) → Prop} (hr : ∀ (w : Int64) (N2 : mz_N), C0 (w, N2) → Q (.inl (some (.long w))) (mz_k S R N2 b t)) (hp : cp_587_28 s1 v1 v2 N) (hC : C0 (cf_587_28 s1 v1 v2 N)) : mz_G (d, mz_X0 L xs, some .long, [], mk_587, 3, Q) 28 mt_587_28 [(0, .ref 232), (1, .int v1), (2, .int v2)] [.int (mz_b01 s1), .ref 232] false (mz_k S R N b t) := by
  unfold cf_587_28 at hC
  unfold cp_587_28 at hp
  refine g_iconst mzi_1 ?_
  obtain ⟨h1, hp⟩ := hp
  refine g_v3v (Nat.le_of_ble_eq_true rfl) (mz_at hS (Nat.le_of_ble_eq_true rfl) mzcS_232) (fun _ hq => cs_462 (Nat.le_trans (Nat.le_of_ble_eq_true rfl) hd) (hS.le (Nat.le_of_ble_eq_true rfl)) (hR.le (Nat.le_of_ble_eq_true rfl))  s1 true N h1 hq) ?_
  refine g_zeq (tg := 37) rfl ms_587_37 hC (fun h2 hC => ?_) (fun h2 hC => ?_)
  · have hp := hp.1 h2
    refine g_lconst mzl_0 ?_
    exact g_lret rfl (hr _ _ hC)
  · have hp := hp.2 h2
    refine g_iload_n rfl ?_
    refine g_ifne (tg := 50) rfl ms_587_50 hC (fun h3 hC => ?_) (fun h3 hC => ?_)
    · have hp := hp.1 h3
      refine g_aload_n rfl (g_getR (mz_at hS (Nat.le_of_ble_eq_true rfl) mzcS_232) mzcf_12_120 (mz_rb hR (Nat.le_of_ble_eq_true rfl) rfl mzcR_232_120) (g_iload_n rfl ?_))
      have h4 := hp
      refine g_lald (mz_at hS (Nat.le_of_ble_eq_true rfl) mzcS_324) h4 (g_goto (tg := 56) rfl ms_587_56 ?_)
      exact g_lret rfl (hr _ _ hC)
    · have hp := hp.2 h3
      refine g_aload_n rfl (g_getR (mz_at hS (Nat.le_of_ble_eq_true rfl) mzcS_232) mzcf_12_121 (mz_rb hR (Nat.le_of_ble_eq_true rfl) rfl mzcR_232_121) (g_iload_n rfl ?_))
      have h5 := hp
      refine g_lald (mz_at hS (Nat.le_of_ble_eq_true rfl) mzcS_325) h5 ?_
      exact g_lret rfl (hr _ _ hC)
theorem cg_587_27 (hd : 1 ≤ d) (hS : mz_extR S 342) (hR : mz_rok R 342)  (v1 : Int32) (v2 : Int32) (N : mz_N) {C0 : (Int64 × mz_N) → Prop} (hr : ∀ (w : Int64) (N2 : mz_N), C0 (w, N2) → Q (.inl (some (.long w))) (mz_k S R N2 b t)) (hp : cp_587_27 v1 v2 N) (hC : C0 (cf_587_27 v1 v2 N)) : mz_G (d, mz_X0 L xs, some .long, [], mk_587, 3, Q) 27 mt_587_27 [(0, .ref 232), (1, .int v1), (2, .int v2)] [.ref 232] false (mz_k S R N b t) := by
  unfold cf_587_27 at hC
  unfold cp_587_27 at hp
  refine g_iconst mzi_0 ?_
  refine g_weak ?_ (g_cl (cg_587_28 hd hS hR false v1 v2 N hr hp hC))
  exact ⟨rfl, rfl, rfl, trivial⟩
theorem cg_587_0 (hd : 1 ≤ d) (hS : mz_extR S 342) (hR : mz_rok R 342)  (v1 : Int32) (v2 : Int32) (N : mz_N) {C0 : (Int64 × mz_N) → Prop} (hr : ∀ (w : Int64) (N2 : mz_N), C0 (w, N2) → Q (.inl (some (.long w))) (mz_k S R N2 b t)) (hp : cp_587_0 v1 v2 N) (hC : C0 (cf_587_0 v1 v2 N)) : mz_G (d, mz_X0 L xs, some .long, [], mk_587, 3, Q) 0 mk_587 [(0, .ref 232), (1, .int v1), (2, .int v2)] [] true (mz_k S R N b t) := by
  unfold cf_587_0 at hC
  unfold cp_587_0 at hp
  refine g_aload_n rfl (g_iload_n rfl (g_i2l (g_lconst mzl_0 (g_con3 ?_))))
  refine g_s3v (Nat.le_of_ble_eq_true rfl) (fun _ hq => cs_466 (Nat.le_trans (Nat.le_of_ble_eq_true rfl) hd) (hS.le (Nat.le_of_ble_eq_true rfl)) (hR.le (Nat.le_of_ble_eq_true rfl))  v1.toInt64 0 9 trivial hq) ?_
  refine g_zeq (tg := 27) rfl ms_587_27 hC (fun h2 hC => ?_) (fun h2 hC => ?_)
  · have hp := hp.1 h2
    refine g_iload_n rfl (g_i2l (g_lconst mzl_0 (g_lconst mzl_1 ?_)))
    refine g_s3v (Nat.le_of_ble_eq_true rfl) (fun _ hq => cs_466 (Nat.le_trans (Nat.le_of_ble_eq_true rfl) hd) (hS.le (Nat.le_of_ble_eq_true rfl)) (hR.le (Nat.le_of_ble_eq_true rfl))  v2.toInt64 0 1 trivial hq) ?_
    refine g_zeq (tg := 27) rfl ms_587_27 hC (fun h4 hC => ?_) (fun h4 hC => ?_)
    · have hp := hp.1 h4
      refine g_iconst mzi_1 (g_goto (tg := 28) rfl ms_587_28 ?_)
      refine g_weak ?_ (g_cl (cg_587_28 hd hS hR true v1 v2 N hr hp hC))
      exact ⟨rfl, rfl, rfl, trivial⟩
    · have hp := hp.2 h4
      refine g_weak ?_ (g_cl (cg_587_27 hd hS hR v1 v2 N hr hp hC))
      exact ⟨rfl, rfl, rfl, trivial⟩
  · have hp := hp.2 h2
    refine g_weak ?_ (g_cl (cg_587_27 hd hS hR v1 v2 N hr hp hC))
    exact ⟨rfl, rfl, rfl, trivial⟩
theorem cs_587 (hd : 2 ≤ d) (hS : mz_extR S 342) (hR : mz_rok R 342)  (v1 : Int32) (v2 : Int32) (N : mz_N) (hp : cp_587_0 v1 v2 N) (hq : Q (.inl (some (.long ((cf_587_0 v1 v2 N).1)))) (mz_k S R ((cf_587_0 v1 v2 N).2) b t)) : mz_Ed (mz_X0 L xs) d 587 [.ref 232, .int v1, .int v2] (mz_k S R N b t) Q :=
  by
  refine g_in mzq_587 (Nat.le_of_ble_eq_true rfl) (Nat.le_of_ble_eq_true rfl) (Nat.le_trans (Nat.le_of_ble_eq_true rfl) hd) ?_
  refine g_weak ?_ (cg_587_0 (d := d - 1) (by omega) hS hR v1 v2 N (C0 := fun z => Q (.inl (some (.long z.1))) (mz_k S R z.2 b t)) (fun _ _ h => h) hp hq)
  exact ⟨rfl, rfl, rfl, trivial⟩
/-! 588 KeptHouseModel.money (I)J -/
theorem ms_588_0 : mz_sf mk_588 0 = mk_588 := mz_sf_zero _
theorem ms_588_19 : mz_sf mk_588 19 = mt_588_19 := mz_sf_add ms_588_0 (t := 19) rfl rfl
theorem ms_588_30 : mz_sf mk_588 30 = mt_588_30 := mz_sf_add ms_588_19 (t := 11) rfl rfl
theorem ms_588_42 : mz_sf mk_588 42 = mt_588_42 := mz_sf_add ms_588_30 (t := 12) rfl rfl
theorem ms_588_54 : mz_sf mk_588 54 = mt_588_54 := mz_sf_add ms_588_42 (t := 12) rfl rfl
theorem ms_588_58 : mz_sf mk_588 58 = mt_588_58 := mz_sf_add ms_588_54 (t := 4) rfl rfl
set_option maxRecDepth 100000 in
theorem mzq_588 : mz_PG0 588 = some (12, ⟨"KeptHouseModel", "money", "(I)J"⟩, prog_14_method_157_code, 2, some .long, [], mk_588, []) := rfl
theorem cg_588_0 (hd : 1 ≤ d) (hS : mz_extR S 342) (hR : mz_rok R 342)  (v1 : Int32) (N : mz_N) {C0 : (Int64 × mz_N) → Prop} (hr : ∀ (w : Int64) (N2 : mz_N), C0 (w, N2) → Q (.inl (some (.long w))) (mz_k S R N2 b t)) (hp : cp_588_0 v1 N) (hC : C0 (cf_588_0 v1 N)) : mz_G (d, mz_X0 L xs, some .long, [], mk_588, 2, Q) 0 mk_588 [(0, .ref 232), (1, .int v1)] [] true (mz_k S R N b t) := by
  unfold cf_588_0 at hC
  unfold cp_588_0 at hp
  refine g_aload_n rfl (g_iload_n rfl (g_i2l (g_lconst mzl_0 (g_con3 ?_))))
  refine g_s3v (Nat.le_of_ble_eq_true rfl) (fun _ hq => cs_466 (Nat.le_trans (Nat.le_of_ble_eq_true rfl) hd) (hS.le (Nat.le_of_ble_eq_true rfl)) (hR.le (Nat.le_of_ble_eq_true rfl))  v1.toInt64 0 3 trivial hq) (g_iconst mzi_1 ?_)
  have h2 := hp
  refine g_v3v (Nat.le_of_ble_eq_true rfl) (mz_at hS (Nat.le_of_ble_eq_true rfl) mzcS_232) (fun _ hq => cs_462 (Nat.le_trans (Nat.le_of_ble_eq_true rfl) hd) (hS.le (Nat.le_of_ble_eq_true rfl)) (hR.le (Nat.le_of_ble_eq_true rfl))  (cf_466_0 v1.toInt64 0 3) true N h2 hq) ?_
  refine g_zeq (tg := 19) rfl ms_588_19 hC (fun h3 hC => ?_) (fun h3 hC => ?_)
  · refine g_lconst mzl_0 ?_
    exact g_lret rfl (hr _ _ hC)
  · refine g_iload_n rfl ?_
    refine g_ifne (tg := 30) rfl ms_588_30 hC (fun h4 hC => ?_) (fun h4 hC => ?_)
    · refine g_aload_n rfl (g_getL (mz_at hS (Nat.le_of_ble_eq_true rfl) mzcS_232) mzcf_12_122 (g_goto (tg := 58) rfl ms_588_58 ?_))
      exact g_lret rfl (hr _ _ hC)
    · refine g_iload_n rfl (g_iconst mzi_1 ?_)
      refine g_icne (tg := 42) rfl ms_588_42 hC (fun h5 hC => ?_) (fun h5 hC => ?_)
      · refine g_aload_n rfl (g_getL (mz_at hS (Nat.le_of_ble_eq_true rfl) mzcS_232) mzcf_12_123 (g_goto (tg := 58) rfl ms_588_58 ?_))
        exact g_lret rfl (hr _ _ hC)
      · refine g_iload_n rfl (g_iconst mzi_2 ?_)
        refine g_icne (tg := 54) rfl ms_588_54 hC (fun h6 hC => ?_) (fun h6 hC => ?_)
        · refine g_aload_n rfl (g_getL (mz_at hS (Nat.le_of_ble_eq_true rfl) mzcS_232) mzcf_12_124 (g_goto (tg := 58) rfl ms_588_58 ?_))
          exact g_lret rfl (hr _ _ hC)
        · refine g_aload_n rfl (g_getL (mz_at hS (Nat.le_of_ble_eq_true rfl) mzcS_232) mzcf_12_125 ?_)
          exact g_lret rfl (hr _ _ hC)
theorem cs_588 (hd : 2 ≤ d) (hS : mz_extR S 342) (hR : mz_rok R 342)  (v1 : Int32) (N : mz_N) (hp : cp_588_0 v1 N) (hq : Q (.inl (some (.long ((cf_588_0 v1 N).1)))) (mz_k S R ((cf_588_0 v1 N).2) b t)) : mz_Ed (mz_X0 L xs) d 588 [.ref 232, .int v1] (mz_k S R N b t) Q :=
  by
  refine g_in mzq_588 (Nat.le_of_ble_eq_true rfl) (Nat.le_of_ble_eq_true rfl) (Nat.le_trans (Nat.le_of_ble_eq_true rfl) hd) ?_
  refine g_weak ?_ (cg_588_0 (d := d - 1) (by omega) hS hR v1 N (C0 := fun z => Q (.inl (some (.long z.1))) (mz_k S R z.2 b t)) (fun _ _ h => h) hp hq)
  exact ⟨rfl, rfl, trivial⟩
/-! 589 KeptHouseModel.pay (II)I -/
theorem ms_589_0 : mz_sf mk_589 0 = mk_589 := mz_sf_zero _
theorem ms_589_29 : mz_sf mk_589 29 = mt_589_29 := mz_sf_add ms_589_0 (t := 29) rfl rfl
theorem ms_589_30 : mz_sf mk_589 30 = mt_589_30 := mz_sf_add ms_589_29 (t := 1) rfl rfl
theorem ms_589_39 : mz_sf mk_589 39 = mt_589_39 := mz_sf_add ms_589_30 (t := 9) rfl rfl
theorem ms_589_61 : mz_sf mk_589 61 = mt_589_61 := mz_sf_add ms_589_39 (t := 22) rfl rfl
theorem ms_589_86 : mz_sf mk_589 86 = mt_589_86 := mz_sf_add ms_589_61 (t := 25) rfl rfl
theorem ms_589_90 : mz_sf mk_589 90 = mt_589_90 := mz_sf_add ms_589_86 (t := 4) rfl rfl
theorem ms_589_93 : mz_sf mk_589 93 = mt_589_93 := mz_sf_add ms_589_90 (t := 3) rfl rfl
set_option maxRecDepth 100000 in
theorem mzq_589 : mz_PG0 589 = some (12, ⟨"KeptHouseModel", "pay", "(II)I"⟩, prog_14_method_158_code, 3, some .int, [], mk_589, []) := rfl
theorem cg_589_61 (hd : 5 ≤ d) (hS : mz_extR S 342) (hR : mz_rok R 342)  (v1 : Int32) (N : mz_N) {C0 : (Int32 × mz_N) → Prop} (hr : ∀ (w : Int32) (N2 : mz_N), C0 (w, N2) → Q (.inl (some (.int w))) (mz_k S R N2 b t)) (hp : cp_589_61 v1 N) (hC : C0 (cf_589_61 v1 N)) : mz_G (d, mz_X0 L xs, some .int, [], mk_589, 3, Q) 61 mt_589_61 [(0, .ref 232), (1, .int v1)] [] false (mz_k S R N b t) := by
  unfold cf_589_61 at hC
  unfold cp_589_61 at hp
  refine g_aload_n rfl ?_
  refine g_v1n (Nat.le_of_ble_eq_true rfl) (mz_at hS (Nat.le_of_ble_eq_true rfl) mzcS_232) (fun _ hq => cs_471 (Nat.le_trans (Nat.le_of_ble_eq_true rfl) hd) (hS.le (Nat.le_of_ble_eq_true rfl)) (hR.le (Nat.le_of_ble_eq_true rfl))  N trivial hq) (g_aload_n rfl (g_bipush mzb_8 (g_iload_n rfl ?_)))
  obtain ⟨h2, hp⟩ := hp
  refine g_v3n (Nat.le_of_ble_eq_true rfl) (mz_at hS (Nat.le_of_ble_eq_true rfl) mzcS_232) (fun _ hq => cs_472 (Nat.le_trans (Nat.le_of_ble_eq_true rfl) hd) (hS.le (Nat.le_of_ble_eq_true rfl)) (hR.le (Nat.le_of_ble_eq_true rfl))  8 v1 (cf_471_0 N) h2 hq) (g_aload_n rfl (g_bipush mzb_9 (g_iconst mzi_0 ?_)))
  obtain ⟨h3, hp⟩ := hp
  refine g_v3n (Nat.le_of_ble_eq_true rfl) (mz_at hS (Nat.le_of_ble_eq_true rfl) mzcS_232) (fun _ hq => cs_472 (Nat.le_trans (Nat.le_of_ble_eq_true rfl) hd) (hS.le (Nat.le_of_ble_eq_true rfl)) (hR.le (Nat.le_of_ble_eq_true rfl))  9 0 (cf_472_0 8 v1 (cf_471_0 N)) h3 hq) (g_aload_n rfl ?_)
  have h4 := hp
  refine g_v1v (Nat.le_of_ble_eq_true rfl) (mz_at hS (Nat.le_of_ble_eq_true rfl) mzcS_232) (fun _ hq => cs_474 (Nat.le_trans (Nat.le_of_ble_eq_true rfl) hd) (hS.le (Nat.le_of_ble_eq_true rfl)) (hR.le (Nat.le_of_ble_eq_true rfl))  (cf_472_0 9 0 (cf_472_0 8 v1 (cf_471_0 N))) h4 hq) ?_
  refine g_zeq (tg := 90) rfl ms_589_90 hC (fun h5 hC => ?_) (fun h5 hC => ?_)
  · refine g_iconst mzi_0 (g_goto (tg := 93) rfl ms_589_93 ?_)
    exact g_iret rfl (hr _ _ hC)
  · refine g_sipush mzs_m1001 ?_
    exact g_iret rfl (hr _ _ hC)
theorem cg_589_30 (hd : 5 ≤ d) (hS : mz_extR S 342) (hR : mz_rok R 342)  (s1 : Bool) (v1 : Int32) (v2 : Int32) (N : mz_N) {C0 : (Int32 × mz_N) → Prop} (hr : ∀ (w : Int32) (N2 : mz_N), C0 (w, N2) → Q (.inl (some (.int w))) (mz_k S R N2 b t)) (hp : cp_589_30 s1 v1 v2 N) (hC : C0 (cf_589_30 s1 v1 v2 N)) : mz_G (d, mz_X0 L xs, some .int, [], mk_589, 3, Q) 30 mt_589_30 [(0, .ref 232), (1, .int v1), (2, .int v2)] [.int (mz_b01 s1), .ref 232] false (mz_k S R N b t) := by
  unfold cf_589_30 at hC
  unfold cp_589_30 at hp
  refine g_iconst mzi_1 ?_
  obtain ⟨h1, hp⟩ := hp
  refine g_v3v (Nat.le_of_ble_eq_true rfl) (mz_at hS (Nat.le_of_ble_eq_true rfl) mzcS_232) (fun _ hq => cs_462 (Nat.le_trans (Nat.le_of_ble_eq_true rfl) hd) (hS.le (Nat.le_of_ble_eq_true rfl)) (hR.le (Nat.le_of_ble_eq_true rfl))  s1 true N h1 hq) ?_
  refine g_zeq (tg := 39) rfl ms_589_39 hC (fun h2 hC => ?_) (fun h2 hC => ?_)
  · have hp := hp.1 h2
    refine g_iconst mzi_0 ?_
    exact g_iret rfl (hr _ _ hC)
  · have hp := hp.2 h2
    refine g_aload_n rfl (g_getR (mz_at hS (Nat.le_of_ble_eq_true rfl) mzcS_232) mzcf_12_120 (mz_rb hR (Nat.le_of_ble_eq_true rfl) rfl mzcR_232_120) (g_iload_n rfl (g_dup2 rfl rfl ?_)))
    obtain ⟨h3, hp⟩ := hp
    refine g_lald (mz_at hS (Nat.le_of_ble_eq_true rfl) mzcS_324) h3 (g_iload_n rfl (g_i2l (g_ladd ?_)))
    obtain ⟨h4, hp⟩ := hp
    refine g_last (mz_at hS (Nat.le_of_ble_eq_true rfl) mzcS_324) h4 (g_aload_n rfl (g_dup rfl (g_getL (mz_at hS (Nat.le_of_ble_eq_true rfl) mzcS_232) mzcf_12_122 (g_iload_n rfl (g_i2l (g_ladd (g_putL (mz_at hS (Nat.le_of_ble_eq_true rfl) mzcS_232) mzcf_12_122 ?_)))))))
    refine g_weak ?_ (g_cl (cg_589_61 hd hS hR v1 (mz_pL (mz_wL ((cf_462_0 s1 true N).2) 324 v1 ((mz_gL ((cf_462_0 s1 true N).2) 324 v1) + v2.toInt64)) 232 122 (((mz_wL ((cf_462_0 s1 true N).2) 324 v1 ((mz_gL ((cf_462_0 s1 true N).2) 324 v1) + v2.toInt64)).2 232 122) + v2.toInt64)) hr hp hC))
    exact ⟨rfl, rfl, trivial⟩
theorem cg_589_29 (hd : 5 ≤ d) (hS : mz_extR S 342) (hR : mz_rok R 342)  (v1 : Int32) (v2 : Int32) (N : mz_N) {C0 : (Int32 × mz_N) → Prop} (hr : ∀ (w : Int32) (N2 : mz_N), C0 (w, N2) → Q (.inl (some (.int w))) (mz_k S R N2 b t)) (hp : cp_589_29 v1 v2 N) (hC : C0 (cf_589_29 v1 v2 N)) : mz_G (d, mz_X0 L xs, some .int, [], mk_589, 3, Q) 29 mt_589_29 [(0, .ref 232), (1, .int v1), (2, .int v2)] [.ref 232] false (mz_k S R N b t) := by
  unfold cf_589_29 at hC
  unfold cp_589_29 at hp
  refine g_iconst mzi_0 ?_
  refine g_weak ?_ (g_cl (cg_589_30 hd hS hR false v1 v2 N hr hp hC))
  exact ⟨rfl, rfl, rfl, trivial⟩
theorem cg_589_0 (hd : 5 ≤ d) (hS : mz_extR S 342) (hR : mz_rok R 342)  (v1 : Int32) (v2 : Int32) (N : mz_N) {C0 : (Int32 × mz_N) → Prop} (hr : ∀ (w : Int32) (N2 : mz_N), C0 (w, N2) → Q (.inl (some (.int w))) (mz_k S R N2 b t)) (hp : cp_589_0 v1 v2 N) (hC : C0 (cf_589_0 v1 v2 N)) : mz_G (d, mz_X0 L xs, some .int, [], mk_589, 3, Q) 0 mk_589 [(0, .ref 232), (1, .int v1), (2, .int v2)] [] true (mz_k S R N b t) := by
  unfold cf_589_0 at hC
  unfold cp_589_0 at hp
  refine g_aload_n rfl (g_iload_n rfl (g_i2l (g_lconst mzl_0 (g_con3 ?_))))
  refine g_s3v (Nat.le_of_ble_eq_true rfl) (fun _ hq => cs_466 (Nat.le_trans (Nat.le_of_ble_eq_true rfl) hd) (hS.le (Nat.le_of_ble_eq_true rfl)) (hR.le (Nat.le_of_ble_eq_true rfl))  v1.toInt64 0 9 trivial hq) ?_
  refine g_zeq (tg := 29) rfl ms_589_29 hC (fun h2 hC => ?_) (fun h2 hC => ?_)
  · have hp := hp.1 h2
    refine g_iload_n rfl (g_i2l (g_lconst mzl_1 (g_con3 ?_)))
    refine g_s3v (Nat.le_of_ble_eq_true rfl) (fun _ hq => cs_466 (Nat.le_trans (Nat.le_of_ble_eq_true rfl) hd) (hS.le (Nat.le_of_ble_eq_true rfl)) (hR.le (Nat.le_of_ble_eq_true rfl))  v2.toInt64 1 100000000 trivial hq) ?_
    refine g_zeq (tg := 29) rfl ms_589_29 hC (fun h4 hC => ?_) (fun h4 hC => ?_)
    · have hp := hp.1 h4
      refine g_iconst mzi_1 (g_goto (tg := 30) rfl ms_589_30 ?_)
      refine g_weak ?_ (g_cl (cg_589_30 hd hS hR true v1 v2 N hr hp hC))
      exact ⟨rfl, rfl, rfl, trivial⟩
    · have hp := hp.2 h4
      refine g_weak ?_ (g_cl (cg_589_29 hd hS hR v1 v2 N hr hp hC))
      exact ⟨rfl, rfl, rfl, trivial⟩
  · have hp := hp.2 h2
    refine g_weak ?_ (g_cl (cg_589_29 hd hS hR v1 v2 N hr hp hC))
    exact ⟨rfl, rfl, rfl, trivial⟩
theorem cs_589 (hd : 6 ≤ d) (hS : mz_extR S 342) (hR : mz_rok R 342)  (v1 : Int32) (v2 : Int32) (N : mz_N) (hp : cp_589_0 v1 v2 N) (hq : Q (.inl (some (.int ((cf_589_0 v1 v2 N).1)))) (mz_k S R ((cf_589_0 v1 v2 N).2) b t)) : mz_Ed (mz_X0 L xs) d 589 [.ref 232, .int v1, .int v2] (mz_k S R N b t) Q :=
  by
  refine g_in mzq_589 (Nat.le_of_ble_eq_true rfl) (Nat.le_of_ble_eq_true rfl) (Nat.le_trans (Nat.le_of_ble_eq_true rfl) hd) ?_
  refine g_weak ?_ (cg_589_0 (d := d - 1) (by omega) hS hR v1 v2 N (C0 := fun z => Q (.inl (some (.int z.1))) (mz_k S R z.2 b t)) (fun _ _ h => h) hp hq)
  exact ⟨rfl, rfl, rfl, trivial⟩
/-! 590 KeptHouseModel.crash (I)V -/
theorem ms_590_0 : mz_sf mk_590 0 = mk_590 := mz_sf_zero _
theorem ms_590_24 : mz_sf mk_590 24 = mt_590_24 := mz_sf_add ms_590_0 (t := 24) rfl rfl
set_option maxRecDepth 100000 in
theorem mzq_590 : mz_PG0 590 = some (12, ⟨"KeptHouseModel", "crash", "(I)V"⟩, prog_14_method_175_code, 2, none, [], mk_590, []) := rfl
theorem cg_590_0 (hd : 1 ≤ d) (hS : mz_extR S 342) (hR : mz_rok R 342)  (v1 : Int32) (N : mz_N) {C0 : (mz_N) → Prop} (hr : ∀ (N2 : mz_N), C0 N2 → Q (.inl none) (mz_k S R N2 b t)) (hp : cp_590_0 v1 N) (hC : C0 (cf_590_0 v1 N)) : mz_G (d, mz_X0 L xs, none, [], mk_590, 2, Q) 0 mk_590 [(0, .ref 232), (1, .int v1)] [] true (mz_k S R N b t) := by
  unfold cf_590_0 at hC
  unfold cp_590_0 at hp
  refine g_aload_n rfl (g_iload_n rfl (g_i2l (g_con3 (g_con3 ?_))))
  refine g_s3v (Nat.le_of_ble_eq_true rfl) (fun _ hq => cs_466 (Nat.le_trans (Nat.le_of_ble_eq_true rfl) hd) (hS.le (Nat.le_of_ble_eq_true rfl)) (hR.le (Nat.le_of_ble_eq_true rfl))  v1.toInt64 (-1) 1000 trivial hq) (g_iconst mzi_1 ?_)
  have h2 := hp
  refine g_v3v (Nat.le_of_ble_eq_true rfl) (mz_at hS (Nat.le_of_ble_eq_true rfl) mzcS_232) (fun _ hq => cs_462 (Nat.le_trans (Nat.le_of_ble_eq_true rfl) hd) (hS.le (Nat.le_of_ble_eq_true rfl)) (hR.le (Nat.le_of_ble_eq_true rfl))  (cf_466_0 v1.toInt64 (-1) 1000) true N h2 hq) ?_
  refine g_zne (tg := 24) rfl ms_590_24 hC (fun h3 hC => ?_) (fun h3 hC => ?_)
  · exact g_vret rfl (hr _ hC)
  · refine g_aload_n rfl (g_iload_n rfl (g_putI (mz_at hS (Nat.le_of_ble_eq_true rfl) mzcS_232) mzcf_12_136 ?_))
    exact g_vret rfl (hr _ hC)
theorem cs_590 (hd : 2 ≤ d) (hS : mz_extR S 342) (hR : mz_rok R 342)  (v1 : Int32) (N : mz_N) (hp : cp_590_0 v1 N) (hq : Q (.inl none) (mz_k S R (cf_590_0 v1 N) b t)) : mz_Ed (mz_X0 L xs) d 590 [.ref 232, .int v1] (mz_k S R N b t) Q :=
  by
  refine g_in mzq_590 (Nat.le_of_ble_eq_true rfl) (Nat.le_of_ble_eq_true rfl) (Nat.le_trans (Nat.le_of_ble_eq_true rfl) hd) ?_
  refine g_weak ?_ (cg_590_0 (d := d - 1) (by omega) hS hR v1 N (C0 := fun z => Q (.inl none) (mz_k S R z b t)) (fun _ h => h) hp hq)
  exact ⟨rfl, rfl, trivial⟩
/-! 591 KeptHouseModel.isDown ()Z -/
theorem ms_591_0 : mz_sf mk_591 0 = mk_591 := mz_sf_zero _
set_option maxRecDepth 100000 in
theorem mzq_591 : mz_PG0 591 = some (12, ⟨"KeptHouseModel", "isDown", "()Z"⟩, prog_14_method_176_code, 1, some .boolean, [], mk_591, []) := rfl
theorem cg_591_0 (hd : 0 ≤ d) (hS : mz_extR S 342) (hR : mz_rok R 342)  (N : mz_N) {C0 : (Bool × mz_N) → Prop} (hr : ∀ (w : Bool) (N2 : mz_N), C0 (w, N2) → Q (.inl (some (.int (mz_b01 w)))) (mz_k S R N2 b t)) (hp : cp_591_0 N) (hC : C0 (cf_591_0 N)) : mz_G (d, mz_X0 L xs, some .boolean, [], mk_591, 1, Q) 0 mk_591 [(0, .ref 232)] [] true (mz_k S R N b t) := by
  unfold cf_591_0 at hC
  unfold cp_591_0 at hp
  refine g_aload_n rfl (g_iconst mzi_0 (g_putI (mz_at hS (Nat.le_of_ble_eq_true rfl) mzcS_232) mzcf_12_0 (g_aload_n rfl ?_)))
  have h1 := hp
  refine g_getZ (mz_at hS (Nat.le_of_ble_eq_true rfl) mzcS_232) mzcf_12_137 h1 ?_
  exact g_zret (z := (mz_fZ (mz_pI N 232 0 0) 232 137)) rfl (hr _ _ hC)
theorem cs_591 (hd : 1 ≤ d) (hS : mz_extR S 342) (hR : mz_rok R 342)  (N : mz_N) (hp : cp_591_0 N) (hq : Q (.inl (some (.int (mz_b01 ((cf_591_0 N).1))))) (mz_k S R ((cf_591_0 N).2) b t)) : mz_Ed (mz_X0 L xs) d 591 [.ref 232] (mz_k S R N b t) Q :=
  by
  refine g_in mzq_591 (Nat.le_of_ble_eq_true rfl) (Nat.le_of_ble_eq_true rfl) (Nat.le_trans (Nat.le_of_ble_eq_true rfl) hd) ?_
  refine g_weak ?_ (cg_591_0 (d := d - 1) (by omega) hS hR N (C0 := fun z => Q (.inl (some (.int (mz_b01 z.1)))) (mz_k S R z.2 b t)) (fun _ _ h => h) hp hq)
  exact ⟨rfl, trivial⟩
/-! 594 KeptHouseModel.generationOf (I)J -/
theorem ms_594_0 : mz_sf mk_594 0 = mk_594 := mz_sf_zero _
set_option maxRecDepth 100000 in
theorem mzq_594 : mz_PG0 594 = some (12, ⟨"KeptHouseModel", "generationOf", "(I)J"⟩, prog_14_method_180_code, 2, some .long, [], mk_594, []) := rfl
theorem cg_594_0 (hd : 1 ≤ d) (hS : mz_extR S 342) (hR : mz_rok R 342)  (v1 : Int32) (N : mz_N) {C0 : (Int64) → Prop} (hr : ∀ (w : Int64), C0 w → Q (.inl (some (.long w))) (mz_k S R N b t)) (hp : cp_594_0 v1 N) (hC : C0 (cf_594_0 v1 N)) : mz_G (d, mz_X0 L xs, some .long, [], mk_594, 2, Q) 0 mk_594 [(0, .ref 232), (1, .int v1)] [] true (mz_k S R N b t) := by
  unfold cf_594_0 at hC
  unfold cp_594_0 at hp
  refine g_aload_n rfl (g_getR (mz_at hS (Nat.le_of_ble_eq_true rfl) mzcS_232) mzcf_12_129 (mz_rb hR (Nat.le_of_ble_eq_true rfl) rfl mzcR_232_129) (g_sipush mzs_9600 (g_iload_n rfl (g_imul (g_bipush mzb_8 (g_iadd (g_iconst mzi_4 ?_)))))))
  have h1 := hp
  refine g_s3v (Nat.le_of_ble_eq_true rfl) (fun _ hq => cs_423 (Nat.le_trans (Nat.le_of_ble_eq_true rfl) hd) (hS.le (Nat.le_of_ble_eq_true rfl)) (hR.le (Nat.le_of_ble_eq_true rfl)) 329 19200 (mz_at hS (Nat.le_of_ble_eq_true rfl) mzcS_329) ((9600 * v1) + 8) 4 N h1 hq) (g_l2i (g_i2l ?_))
  exact g_lret rfl (hr _ hC)
theorem cs_594 (hd : 2 ≤ d) (hS : mz_extR S 342) (hR : mz_rok R 342)  (v1 : Int32) (N : mz_N) (hp : cp_594_0 v1 N) (hq : Q (.inl (some (.long (cf_594_0 v1 N)))) (mz_k S R N b t)) : mz_Ed (mz_X0 L xs) d 594 [.ref 232, .int v1] (mz_k S R N b t) Q :=
  by
  refine g_in mzq_594 (Nat.le_of_ble_eq_true rfl) (Nat.le_of_ble_eq_true rfl) (Nat.le_trans (Nat.le_of_ble_eq_true rfl) hd) ?_
  refine g_weak ?_ (cg_594_0 (d := d - 1) (by omega) hS hR v1 N (C0 := fun z => Q (.inl (some (.long z))) (mz_k S R N b t)) (fun _ h => h) hp hq)
  exact ⟨rfl, rfl, trivial⟩
/-! 595 KeptHouseModel.isRow (IIJ)Z -/
theorem ms_595_0 : mz_sf mk_595 0 = mk_595 := mz_sf_zero _
theorem ms_595_24 : mz_sf mk_595 24 = mt_595_24 := mz_sf_add ms_595_0 (t := 24) rfl rfl
theorem ms_595_57 : mz_sf mk_595 57 = mt_595_57 := mz_sf_add ms_595_24 (t := 33) rfl rfl
theorem ms_595_97 : mz_sf mk_595 97 = mt_595_97 := mz_sf_add ms_595_57 (t := 40) rfl rfl
theorem ms_595_101 : mz_sf mk_595 101 = mt_595_101 := mz_sf_add ms_595_97 (t := 4) rfl rfl
theorem ms_595_102 : mz_sf mk_595 102 = mt_595_102 := mz_sf_add ms_595_101 (t := 1) rfl rfl
set_option maxRecDepth 100000 in
theorem mzq_595 : mz_PG0 595 = some (12, ⟨"KeptHouseModel", "isRow", "(IIJ)Z"⟩, prog_14_method_177_code, 6, some .boolean, [], mk_595, []) := rfl
theorem cg_595_0 (hd : 1 ≤ d) (hS : mz_extR S 342) (hR : mz_rok R 342)  (v1 : Int32) (v2 : Int32) (v3 : Int64) (N : mz_N) {C0 : (Bool) → Prop} (hr : ∀ (w : Bool), C0 w → Q (.inl (some (.int (mz_b01 w)))) (mz_k S R N b t)) (hp : cp_595_0 v1 v2 v3 N) (hC : C0 (cf_595_0 v1 v2 v3 N)) : mz_G (d, mz_X0 L xs, some .boolean, [], mk_595, 6, Q) 0 mk_595 [(0, .ref 232), (1, .int v1), (2, .int v2), (3, .long v3)] [] true (mz_k S R N b t) := by
  unfold cf_595_0 at hC
  unfold cp_595_0 at hp
  refine g_sipush mzs_9600 (g_iload_n rfl (g_imul (g_bipush mzb_48 (g_iload_n rfl (g_imul (g_iadd (g_istore (Nat.le_of_ble_eq_true rfl) rfl ?_)))))))
  refine g_aload_n rfl (g_getR (mz_at hS (Nat.le_of_ble_eq_true rfl) mzcS_232) mzcf_12_129 (mz_rb hR (Nat.le_of_ble_eq_true rfl) rfl mzcR_232_129) (g_iload rfl (g_iconst mzi_3 (g_iadd ?_))))
  obtain ⟨h1, hp⟩ := hp
  refine g_bald (mz_at hS (Nat.le_of_ble_eq_true rfl) mzcS_329) h1 ?_
  refine g_ifne (tg := 101) rfl ms_595_101 hC (fun h2 hC => ?_) (fun h2 hC => ?_)
  · have hp := hp.1 h2
    refine g_aload_n rfl (g_getR (mz_at hS (Nat.le_of_ble_eq_true rfl) mzcS_232) mzcf_12_129 (mz_rb hR (Nat.le_of_ble_eq_true rfl) rfl mzcR_232_129) (g_iload rfl (g_bipush mzb_44 (g_iadd (g_iconst mzi_4 ?_)))))
    obtain ⟨h3, hp⟩ := hp
    refine g_s3v (Nat.le_of_ble_eq_true rfl) (fun _ hq => cs_423 (Nat.le_trans (Nat.le_of_ble_eq_true rfl) hd) (hS.le (Nat.le_of_ble_eq_true rfl)) (hR.le (Nat.le_of_ble_eq_true rfl)) 329 19200 (mz_at hS (Nat.le_of_ble_eq_true rfl) mzcS_329) (((9600 * v1) + (48 * v2)) + 44) 4 N h3 hq) (g_aload_n rfl (g_getR (mz_at hS (Nat.le_of_ble_eq_true rfl) mzcS_232) mzcf_12_129 (mz_rb hR (Nat.le_of_ble_eq_true rfl) rfl mzcR_232_129) (g_iload rfl (g_bipush mzb_44 ?_))))
    obtain ⟨h4, hp⟩ := hp
    refine g_s3v (Nat.le_of_ble_eq_true rfl) (fun _ hq => cs_413 (Nat.le_trans (Nat.le_of_ble_eq_true rfl) hd) (hS.le (Nat.le_of_ble_eq_true rfl)) (hR.le (Nat.le_of_ble_eq_true rfl)) 329 19200 (mz_at hS (Nat.le_of_ble_eq_true rfl) mzcS_329) ((9600 * v1) + (48 * v2)) 44 N h4 hq) (g_i2l (g_con3 (g_land (g_lcmp ?_))))
    refine g_lne (tg := 101) rfl ms_595_101 hC (fun h5 hC => ?_) (fun h5 hC => ?_)
    · have hp := hp.1 h5
      refine g_aload_n rfl (g_getR (mz_at hS (Nat.le_of_ble_eq_true rfl) mzcS_232) mzcf_12_129 (mz_rb hR (Nat.le_of_ble_eq_true rfl) rfl mzcR_232_129) (g_iload rfl (g_iconst mzi_4 (g_iadd (g_iconst mzi_4 ?_)))))
      obtain ⟨h6, hp⟩ := hp
      refine g_s3v (Nat.le_of_ble_eq_true rfl) (fun _ hq => cs_423 (Nat.le_trans (Nat.le_of_ble_eq_true rfl) hd) (hS.le (Nat.le_of_ble_eq_true rfl)) (hR.le (Nat.le_of_ble_eq_true rfl)) 329 19200 (mz_at hS (Nat.le_of_ble_eq_true rfl) mzcS_329) (((9600 * v1) + (48 * v2)) + 4) 4 N h6 hq) (g_iload_n rfl (g_i2l (g_lcmp ?_)))
      refine g_lne (tg := 101) rfl ms_595_101 hC (fun h7 hC => ?_) (fun h7 hC => ?_)
      · have hp := hp.1 h7
        refine g_aload_n rfl (g_getR (mz_at hS (Nat.le_of_ble_eq_true rfl) mzcS_232) mzcf_12_129 (mz_rb hR (Nat.le_of_ble_eq_true rfl) rfl mzcR_232_129) (g_iload rfl (g_bipush mzb_8 (g_iadd (g_iconst mzi_4 ?_)))))
        have h8 := hp
        refine g_s3v (Nat.le_of_ble_eq_true rfl) (fun _ hq => cs_423 (Nat.le_trans (Nat.le_of_ble_eq_true rfl) hd) (hS.le (Nat.le_of_ble_eq_true rfl)) (hR.le (Nat.le_of_ble_eq_true rfl)) 329 19200 (mz_at hS (Nat.le_of_ble_eq_true rfl) mzcS_329) (((9600 * v1) + (48 * v2)) + 8) 4 N h8 hq) (g_lload_n rfl (g_con3 (g_land (g_lcmp ?_))))
        refine g_lne (tg := 101) rfl ms_595_101 hC (fun h9 hC => ?_) (fun h9 hC => ?_)
        · refine g_iconst mzi_1 (g_goto (tg := 102) rfl ms_595_102 ?_)
          exact g_zret (z := true) rfl (hr _ hC)
        · refine g_iconst mzi_0 ?_
          exact g_zret (z := false) rfl (hr _ hC)
      · have hp := hp.2 h7
        refine g_iconst mzi_0 ?_
        exact g_zret (z := false) rfl (hr _ hC)
    · have hp := hp.2 h5
      refine g_iconst mzi_0 ?_
      exact g_zret (z := false) rfl (hr _ hC)
  · have hp := hp.2 h2
    refine g_iconst mzi_0 ?_
    exact g_zret (z := false) rfl (hr _ hC)
theorem cs_595 (hd : 2 ≤ d) (hS : mz_extR S 342) (hR : mz_rok R 342)  (v1 : Int32) (v2 : Int32) (v3 : Int64) (N : mz_N) (hp : cp_595_0 v1 v2 v3 N) (hq : Q (.inl (some (.int (mz_b01 (cf_595_0 v1 v2 v3 N))))) (mz_k S R N b t)) : mz_Ed (mz_X0 L xs) d 595 [.ref 232, .int v1, .int v2, .long v3] (mz_k S R N b t) Q :=
  by
  refine g_in mzq_595 (Nat.le_of_ble_eq_true rfl) (Nat.le_of_ble_eq_true rfl) (Nat.le_trans (Nat.le_of_ble_eq_true rfl) hd) ?_
  refine g_weak ?_ (cg_595_0 (d := d - 1) (by omega) hS hR v1 v2 v3 N (C0 := fun z => Q (.inl (some (.int (mz_b01 z)))) (mz_k S R N b t)) (fun _ h => h) hp hq)
  exact ⟨rfl, rfl, rfl, rfl, trivial⟩
/-! 596 KeptHouseModel.isLast (II)Z -/
theorem ms_596_0 : mz_sf mk_596 0 = mk_596 := mz_sf_zero _
theorem ms_596_21 : mz_sf mk_596 21 = mt_596_21 := mz_sf_add ms_596_0 (t := 21) rfl rfl
theorem ms_596_25 : mz_sf mk_596 25 = mt_596_25 := mz_sf_add ms_596_21 (t := 4) rfl rfl
theorem ms_596_26 : mz_sf mk_596 26 = mt_596_26 := mz_sf_add ms_596_25 (t := 1) rfl rfl
set_option maxRecDepth 100000 in
theorem mzq_596 : mz_PG0 596 = some (12, ⟨"KeptHouseModel", "isLast", "(II)Z"⟩, prog_14_method_179_code, 3, some .boolean, [], mk_596, []) := rfl
theorem cg_596_0 (hd : 0 ≤ d) (hS : mz_extR S 342) (hR : mz_rok R 342)  (v1 : Int32) (v2 : Int32) (N : mz_N) {C0 : (Bool) → Prop} (hr : ∀ (w : Bool), C0 w → Q (.inl (some (.int (mz_b01 w)))) (mz_k S R N b t)) (hp : cp_596_0 v1 v2 N) (hC : C0 (cf_596_0 v1 v2 N)) : mz_G (d, mz_X0 L xs, some .boolean, [], mk_596, 3, Q) 0 mk_596 [(0, .ref 232), (1, .int v1), (2, .int v2)] [] true (mz_k S R N b t) := by
  unfold cf_596_0 at hC
  unfold cp_596_0 at hp
  refine g_aload_n rfl (g_getR (mz_at hS (Nat.le_of_ble_eq_true rfl) mzcS_232) mzcf_12_129 (mz_rb hR (Nat.le_of_ble_eq_true rfl) rfl mzcR_232_129) (g_sipush mzs_9600 (g_iload_n rfl (g_imul (g_bipush mzb_48 (g_iload_n rfl (g_imul ?_)))))))
  refine g_iadd (g_iconst mzi_2 (g_iadd ?_))
  have h1 := hp
  refine g_bald (mz_at hS (Nat.le_of_ble_eq_true rfl) mzcS_329) h1 (g_iconst mzi_1 ?_)
  refine g_icne (tg := 25) rfl ms_596_25 hC (fun h2 hC => ?_) (fun h2 hC => ?_)
  · refine g_iconst mzi_1 (g_goto (tg := 26) rfl ms_596_26 ?_)
    exact g_zret (z := true) rfl (hr _ hC)
  · refine g_iconst mzi_0 ?_
    exact g_zret (z := false) rfl (hr _ hC)
theorem cs_596 (hd : 1 ≤ d) (hS : mz_extR S 342) (hR : mz_rok R 342)  (v1 : Int32) (v2 : Int32) (N : mz_N) (hp : cp_596_0 v1 v2 N) (hq : Q (.inl (some (.int (mz_b01 (cf_596_0 v1 v2 N))))) (mz_k S R N b t)) : mz_Ed (mz_X0 L xs) d 596 [.ref 232, .int v1, .int v2] (mz_k S R N b t) Q :=
  by
  refine g_in mzq_596 (Nat.le_of_ble_eq_true rfl) (Nat.le_of_ble_eq_true rfl) (Nat.le_trans (Nat.le_of_ble_eq_true rfl) hd) ?_
  refine g_weak ?_ (cg_596_0 (d := d - 1) (by omega) hS hR v1 v2 N (C0 := fun z => Q (.inl (some (.int (mz_b01 z)))) (mz_k S R N b t)) (fun _ h => h) hp hq)
  exact ⟨rfl, rfl, rfl, trivial⟩
/-! 597 KeptHouseModel.keyAt (II)I -/
theorem ms_597_0 : mz_sf mk_597 0 = mk_597 := mz_sf_zero _
set_option maxRecDepth 100000 in
theorem mzq_597 : mz_PG0 597 = some (12, ⟨"KeptHouseModel", "keyAt", "(II)I"⟩, prog_14_method_178_code, 4, some .int, [], mk_597, []) := rfl
theorem cg_597_0 (hd : 2 ≤ d) (hS : mz_extR S 342) (hR : mz_rok R 342)  (v1 : Int32) (v2 : Int32) (N : mz_N) {C0 : (Int32) → Prop} (hr : ∀ (w : Int32), C0 w → Q (.inl (some (.int w))) (mz_k S R N b t)) (hp : cp_597_0 v1 v2 N) (hC : C0 (cf_597_0 v1 v2 N)) : mz_G (d, mz_X0 L xs, some .int, [], mk_597, 4, Q) 0 mk_597 [(0, .ref 232), (1, .int v1), (2, .int v2)] [] true (mz_k S R N b t) := by
  unfold cf_597_0 at hC
  unfold cp_597_0 at hp
  refine g_sipush mzs_9600 (g_iload_n rfl (g_imul (g_bipush mzb_48 (g_iload_n rfl (g_imul (g_iadd (g_istore_n (Nat.le_of_ble_eq_true rfl) rfl ?_)))))))
  refine g_aload_n rfl (g_getR (mz_at hS (Nat.le_of_ble_eq_true rfl) mzcS_232) mzcf_12_129 (mz_rb hR (Nat.le_of_ble_eq_true rfl) rfl mzcR_232_129) (g_iload_n rfl ?_))
  obtain ⟨h1, hp⟩ := hp
  refine g_bald (mz_at hS (Nat.le_of_ble_eq_true rfl) mzcS_329) h1 (g_sipush mzs_255 (g_iand (g_aload_n rfl (g_getR (mz_at hS (Nat.le_of_ble_eq_true rfl) mzcS_232) mzcf_12_129 (mz_rb hR (Nat.le_of_ble_eq_true rfl) rfl mzcR_232_129) (g_iload_n rfl (g_iconst mzi_1 (g_iadd ?_)))))))
  have h2 := hp
  refine g_bald (mz_at hS (Nat.le_of_ble_eq_true rfl) mzcS_329) h2 (g_sipush mzs_255 (g_iand ?_))
  refine g_s2v (Nat.le_of_ble_eq_true rfl) (fun _ hq => cs_473 (Nat.le_trans (Nat.le_of_ble_eq_true rfl) hd) (hS.le (Nat.le_of_ble_eq_true rfl)) (hR.le (Nat.le_of_ble_eq_true rfl))  ((mz_gI N 329 ((9600 * v1) + (48 * v2))) &&& 255) ((mz_gI N 329 (((9600 * v1) + (48 * v2)) + 1)) &&& 255) trivial hq) ?_
  exact g_iret rfl (hr _ hC)
theorem cs_597 (hd : 3 ≤ d) (hS : mz_extR S 342) (hR : mz_rok R 342)  (v1 : Int32) (v2 : Int32) (N : mz_N) (hp : cp_597_0 v1 v2 N) (hq : Q (.inl (some (.int (cf_597_0 v1 v2 N)))) (mz_k S R N b t)) : mz_Ed (mz_X0 L xs) d 597 [.ref 232, .int v1, .int v2] (mz_k S R N b t) Q :=
  by
  refine g_in mzq_597 (Nat.le_of_ble_eq_true rfl) (Nat.le_of_ble_eq_true rfl) (Nat.le_trans (Nat.le_of_ble_eq_true rfl) hd) ?_
  refine g_weak ?_ (cg_597_0 (d := d - 1) (by omega) hS hR v1 v2 N (C0 := fun z => Q (.inl (some (.int z))) (mz_k S R N b t)) (fun _ h => h) hp hq)
  exact ⟨rfl, rfl, rfl, trivial⟩
/-! 593 KeptHouseModel.isGoodArea (I)Z -/
theorem ms_593_0 : mz_sf mk_593 0 = mk_593 := mz_sf_zero _
theorem ms_593_20 : mz_sf mk_593 20 = mt_593_20 := mz_sf_add ms_593_0 (t := 20) rfl rfl
theorem ms_593_40 : mz_sf mk_593 40 = mt_593_40 := mz_sf_add ms_593_20 (t := 20) rfl rfl
theorem ms_593_49 : mz_sf mk_593 49 = mt_593_49 := mz_sf_add ms_593_40 (t := 9) rfl rfl
theorem ms_593_51 : mz_sf mk_593 51 = mt_593_51 := mz_sf_add ms_593_49 (t := 2) rfl rfl
theorem ms_593_72 : mz_sf mk_593 72 = mt_593_72 := mz_sf_add ms_593_51 (t := 21) rfl rfl
theorem ms_593_74 : mz_sf mk_593 74 = mt_593_74 := mz_sf_add ms_593_72 (t := 2) rfl rfl
theorem ms_593_80 : mz_sf mk_593 80 = mt_593_80 := mz_sf_add ms_593_74 (t := 6) rfl rfl
theorem ms_593_108 : mz_sf mk_593 108 = mt_593_108 := mz_sf_add ms_593_80 (t := 28) rfl rfl
theorem ms_593_136 : mz_sf mk_593 136 = mt_593_136 := mz_sf_add ms_593_108 (t := 28) rfl rfl
theorem ms_593_140 : mz_sf mk_593 140 = mt_593_140 := mz_sf_add ms_593_136 (t := 4) rfl rfl
theorem ms_593_141 : mz_sf mk_593 141 = mt_593_141 := mz_sf_add ms_593_140 (t := 1) rfl rfl
theorem ms_593_149 : mz_sf mk_593 149 = mt_593_149 := mz_sf_add ms_593_141 (t := 8) rfl rfl
set_option maxRecDepth 100000 in
theorem mzq_593 : mz_PG0 593 = some (12, ⟨"KeptHouseModel", "isGoodArea", "(I)Z"⟩, prog_14_method_181_code, 7, some .boolean, [], mk_593, []) := rfl
theorem cg_593_141 (hd : 3 ≤ d) (hS : mz_extR S 342) (hR : mz_rok R 342)  (s0 : Bool) (v1 : Int32) (v3 : Int64) (v6 : Int32) (N : mz_N) {C0 : (Bool) → Prop} (hr : ∀ (w : Bool), C0 w → Q (.inl (some (.int (mz_b01 w)))) (mz_k S R N b t)) {C1 : ((Bool × Int32) ⊕ (Bool)) → Prop} (hc1 : ∀ s2, C1 (.inl s2) → mz_G (d, mz_X0 L xs, some .boolean, [], mk_593, 7, Q) 80 mt_593_80 [(0, .ref 232), (1, .int v1), (3, .long v3), (5, .int (mz_b01 s2.1)), (6, .int s2.2)] [] false (mz_k S R N b t)) (hx1 : ∀ z, C1 (.inr z) → C0 z) (hp : cp_593_141 s0 v1 v3 v6 N) (hC : C1 (cf_593_141 s0 v1 v3 v6 N)) : mz_G (d, mz_X0 L xs, some .boolean, [], mk_593, 7, Q) 141 mt_593_141 [(0, .ref 232), (1, .int v1), (3, .long v3), (6, .int v6)] [.int (mz_b01 s0)] false (mz_k S R N b t) := by
  unfold cf_593_141 at hC
  unfold cp_593_141 at hp
  refine g_istore (Nat.le_of_ble_eq_true rfl) rfl (g_iinc rfl mzi_1 (Nat.le_of_ble_eq_true rfl) rfl (g_goto (tg := 80) rfl ms_593_80 ?_))
  refine g_weak ?_ (g_cl (hc1 (s0, (v6 + 1)) hC))
  exact ⟨rfl, rfl, rfl, rfl, rfl, trivial⟩
theorem cg_593_136 (hd : 3 ≤ d) (hS : mz_extR S 342) (hR : mz_rok R 342)  (v1 : Int32) (v3 : Int64) (v6 : Int32) (N : mz_N) {C0 : (Bool) → Prop} (hr : ∀ (w : Bool), C0 w → Q (.inl (some (.int (mz_b01 w)))) (mz_k S R N b t)) {C1 : ((Bool × Int32) ⊕ (Bool)) → Prop} (hc1 : ∀ s2, C1 (.inl s2) → mz_G (d, mz_X0 L xs, some .boolean, [], mk_593, 7, Q) 80 mt_593_80 [(0, .ref 232), (1, .int v1), (3, .long v3), (5, .int (mz_b01 s2.1)), (6, .int s2.2)] [] false (mz_k S R N b t)) (hx1 : ∀ z, C1 (.inr z) → C0 z) (hp : cp_593_136 v1 v3 v6 N) (hC : C1 (cf_593_136 v1 v3 v6 N)) : mz_G (d, mz_X0 L xs, some .boolean, [], mk_593, 7, Q) 136 mt_593_136 [(0, .ref 232), (1, .int v1), (3, .long v3), (6, .int v6)] [] false (mz_k S R N b t) := by
  unfold cf_593_136 at hC
  unfold cp_593_136 at hp
  refine g_iconst mzi_1 (g_goto (tg := 141) rfl ms_593_141 ?_)
  refine g_weak ?_ (g_cl (cg_593_141 hd hS hR true v1 v3 v6 N hr hc1 hx1 hp hC))
  exact ⟨rfl, rfl, rfl, rfl, trivial⟩
theorem cg_593_140 (hd : 3 ≤ d) (hS : mz_extR S 342) (hR : mz_rok R 342)  (v1 : Int32) (v3 : Int64) (v6 : Int32) (N : mz_N) {C0 : (Bool) → Prop} (hr : ∀ (w : Bool), C0 w → Q (.inl (some (.int (mz_b01 w)))) (mz_k S R N b t)) {C1 : ((Bool × Int32) ⊕ (Bool)) → Prop} (hc1 : ∀ s2, C1 (.inl s2) → mz_G (d, mz_X0 L xs, some .boolean, [], mk_593, 7, Q) 80 mt_593_80 [(0, .ref 232), (1, .int v1), (3, .long v3), (5, .int (mz_b01 s2.1)), (6, .int s2.2)] [] false (mz_k S R N b t)) (hx1 : ∀ z, C1 (.inr z) → C0 z) (hp : cp_593_140 v1 v3 v6 N) (hC : C1 (cf_593_140 v1 v3 v6 N)) : mz_G (d, mz_X0 L xs, some .boolean, [], mk_593, 7, Q) 140 mt_593_140 [(0, .ref 232), (1, .int v1), (3, .long v3), (6, .int v6)] [] false (mz_k S R N b t) := by
  unfold cf_593_140 at hC
  unfold cp_593_140 at hp
  refine g_iconst mzi_0 ?_
  refine g_weak ?_ (g_cl (cg_593_141 hd hS hR false v1 v3 v6 N hr hc1 hx1 hp hC))
  exact ⟨rfl, rfl, rfl, rfl, trivial⟩
theorem cb_593_80 (hd : 3 ≤ d) (hS : mz_extR S 342) (hR : mz_rok R 342)  (v1 : Int32) (v3 : Int64) (N : mz_N) (s : Bool × Int32) {C0 : (Bool) → Prop} (hr : ∀ (w : Bool), C0 w → Q (.inl (some (.int (mz_b01 w)))) (mz_k S R N b t)) {C1 : ((Bool × Int32) ⊕ (Bool)) → Prop} (hc1 : ∀ s2, C1 (.inl s2) → mz_G (d, mz_X0 L xs, some .boolean, [], mk_593, 7, Q) 80 mt_593_80 [(0, .ref 232), (1, .int v1), (3, .long v3), (5, .int (mz_b01 s2.1)), (6, .int s2.2)] [] false (mz_k S R N b t)) (hx1 : ∀ z, C1 (.inr z) → C0 z) (hp : cd_593_80 v1 v3 N s) (hC : C1 (cq_593_80 v1 v3 N s)) : mz_G (d, mz_X0 L xs, some .boolean, [], mk_593, 7, Q) 80 mt_593_80 [(0, .ref 232), (1, .int v1), (3, .long v3), (5, .int (mz_b01 s.1)), (6, .int s.2)] [] false (mz_k S R N b t) := by
  unfold cq_593_80 at hC
  unfold cd_593_80 at hp
  refine g_iload rfl (g_i2l (g_lload_n rfl (g_lcmp ?_)))
  refine g_lgt (tg := 149) rfl ms_593_149 hC (fun h1 hC => ?_) (fun h1 hC => ?_)
  · have hp := hp.1 h1
    refine g_iload rfl ?_
    exact g_zret (z := s.1) rfl (hr _ (hx1 _ hC))
  · have hp := hp.2 h1
    refine g_iload rfl ?_
    refine g_zeq (tg := 149) rfl ms_593_149 hC (fun h2 hC => ?_) (fun h2 hC => ?_)
    · have hp := hp.1 h2
      refine g_aload_n rfl (g_iload_n rfl (g_iload rfl (g_aload_n rfl (g_iload_n rfl ?_))))
      obtain ⟨h3, hp⟩ := hp
      refine g_v2v (Nat.le_of_ble_eq_true rfl) (mz_at hS (Nat.le_of_ble_eq_true rfl) mzcS_232) (fun _ hq => cs_594 (Nat.le_trans (Nat.le_of_ble_eq_true rfl) hd) (hS.le (Nat.le_of_ble_eq_true rfl)) (hR.le (Nat.le_of_ble_eq_true rfl))  v1 N h3 hq) ?_
      obtain ⟨h4, hp⟩ := hp
      refine g_v4v (Nat.le_of_ble_eq_true rfl) (mz_at hS (Nat.le_of_ble_eq_true rfl) mzcS_232) (fun _ hq => cs_595 (Nat.le_trans (Nat.le_of_ble_eq_true rfl) hd) (hS.le (Nat.le_of_ble_eq_true rfl)) (hR.le (Nat.le_of_ble_eq_true rfl))  v1 s.2 (cf_594_0 v1 N) N h4 hq) ?_
      refine g_zeq (tg := 140) rfl ms_593_140 hC (fun h5 hC => ?_) (fun h5 hC => ?_)
      · have hp := hp.1 h5
        refine g_aload_n rfl (g_iload_n rfl (g_iload rfl ?_))
        obtain ⟨h6, hp⟩ := hp
        refine g_v3v (Nat.le_of_ble_eq_true rfl) (mz_at hS (Nat.le_of_ble_eq_true rfl) mzcS_232) (fun _ hq => cs_597 (Nat.le_trans (Nat.le_of_ble_eq_true rfl) hd) (hS.le (Nat.le_of_ble_eq_true rfl)) (hR.le (Nat.le_of_ble_eq_true rfl))  v1 s.2 N h6 hq) ?_
        refine g_iflt (tg := 140) rfl ms_593_140 hC (fun h7 hC => ?_) (fun h7 hC => ?_)
        · have hp := hp.1 h7
          refine g_weak ?_ (g_cl (cg_593_140 hd hS hR v1 v3 s.2 N hr hc1 hx1 hp hC))
          exact ⟨rfl, rfl, rfl, rfl, trivial⟩
        · have hp := hp.2 h7
          refine g_iload rfl (g_i2l (g_lload_n rfl (g_lcmp ?_)))
          refine g_llt (tg := 136) rfl ms_593_136 hC (fun h8 hC => ?_) (fun h8 hC => ?_)
          · have hp := hp.1 h8
            refine g_weak ?_ (g_cl (cg_593_136 hd hS hR v1 v3 s.2 N hr hc1 hx1 hp hC))
            exact ⟨rfl, rfl, rfl, rfl, trivial⟩
          · have hp := hp.2 h8
            refine g_aload_n rfl (g_iload_n rfl (g_iload rfl ?_))
            obtain ⟨h9, hp⟩ := hp
            refine g_v3v (Nat.le_of_ble_eq_true rfl) (mz_at hS (Nat.le_of_ble_eq_true rfl) mzcS_232) (fun _ hq => cs_596 (Nat.le_trans (Nat.le_of_ble_eq_true rfl) hd) (hS.le (Nat.le_of_ble_eq_true rfl)) (hR.le (Nat.le_of_ble_eq_true rfl))  v1 s.2 N h9 hq) ?_
            refine g_zeq (tg := 140) rfl ms_593_140 hC (fun h10 hC => ?_) (fun h10 hC => ?_)
            · have hp := hp.1 h10
              refine g_weak ?_ (g_cl (cg_593_136 hd hS hR v1 v3 s.2 N hr hc1 hx1 hp hC))
              exact ⟨rfl, rfl, rfl, rfl, trivial⟩
            · have hp := hp.2 h10
              refine g_weak ?_ (g_cl (cg_593_140 hd hS hR v1 v3 s.2 N hr hc1 hx1 hp hC))
              exact ⟨rfl, rfl, rfl, rfl, trivial⟩
      · have hp := hp.2 h5
        refine g_weak ?_ (g_cl (cg_593_140 hd hS hR v1 v3 s.2 N hr hc1 hx1 hp hC))
        exact ⟨rfl, rfl, rfl, rfl, trivial⟩
    · have hp := hp.2 h2
      refine g_iload rfl ?_
      exact g_zret (z := s.1) rfl (hr _ (hx1 _ hC))
theorem cg_593_80 (hd : 3 ≤ d) (hS : mz_extR S 342) (hR : mz_rok R 342)  (v1 : Int32) (v3 : Int64) (v5 : Bool) (v6 : Int32) (N : mz_N) {C0 : (Bool) → Prop} (hr : ∀ (w : Bool), C0 w → Q (.inl (some (.int (mz_b01 w)))) (mz_k S R N b t)) (hp : cp_593_80 v1 v3 v5 v6 N) (hC : C0 (cf_593_80 v1 v3 v5 v6 N)) : mz_G (d, mz_X0 L xs, some .boolean, [], mk_593, 7, Q) 80 mt_593_80 [(0, .ref 232), (1, .int v1), (3, .long v3), (5, .int (mz_b01 v5)), (6, .int v6)] [] false (mz_k S R N b t) := by
  obtain ⟨n, hn⟩ := hp
  exact g_loop (G := fun s => mz_G (d, mz_X0 L xs, some .boolean, [], mk_593, 7, Q) 80 mt_593_80 [(0, .ref 232), (1, .int v1), (3, .long v3), (5, .int (mz_b01 s.1)), (6, .int s.2)] [] false (mz_k S R N b t)) (C := C0) (fun C2 hc hx s hP hC => cb_593_80 hd hS hR v1 v3 N s hr hc hx hP hC) n (v5, v6) hn hC
theorem cg_593_0 (hd : 3 ≤ d) (hS : mz_extR S 342) (hR : mz_rok R 342)  (v1 : Int32) (N : mz_N) {C0 : (Bool) → Prop} (hr : ∀ (w : Bool), C0 w → Q (.inl (some (.int (mz_b01 w)))) (mz_k S R N b t)) (hp : cp_593_0 v1 N) (hC : C0 (cf_593_0 v1 N)) : mz_G (d, mz_X0 L xs, some .boolean, [], mk_593, 7, Q) 0 mk_593 [(0, .ref 232), (1, .int v1)] [] true (mz_k S R N b t) := by
  unfold cf_593_0 at hC
  unfold cp_593_0 at hp
  refine g_sipush mzs_9600 (g_iload_n rfl (g_imul (g_istore_n (Nat.le_of_ble_eq_true rfl) rfl (g_aload_n rfl (g_iload_n rfl (g_iconst mzi_0 (g_aload_n rfl ?_)))))))
  refine g_iload_n rfl ?_
  obtain ⟨h1, hp⟩ := hp
  refine g_v2v (Nat.le_of_ble_eq_true rfl) (mz_at hS (Nat.le_of_ble_eq_true rfl) mzcS_232) (fun _ hq => cs_594 (Nat.le_trans (Nat.le_of_ble_eq_true rfl) hd) (hS.le (Nat.le_of_ble_eq_true rfl)) (hR.le (Nat.le_of_ble_eq_true rfl))  v1 N h1 hq) ?_
  obtain ⟨h2, hp⟩ := hp
  refine g_v4v (Nat.le_of_ble_eq_true rfl) (mz_at hS (Nat.le_of_ble_eq_true rfl) mzcS_232) (fun _ hq => cs_595 (Nat.le_trans (Nat.le_of_ble_eq_true rfl) hd) (hS.le (Nat.le_of_ble_eq_true rfl)) (hR.le (Nat.le_of_ble_eq_true rfl))  v1 0 (cf_594_0 v1 N) N h2 hq) ?_
  refine g_zeq (tg := 49) rfl ms_593_49 hC (fun h3 hC => ?_) (fun h3 hC => ?_)
  · have hp := hp.1 h3
    refine g_aload_n rfl (g_getR (mz_at hS (Nat.le_of_ble_eq_true rfl) mzcS_232) mzcf_12_129 (mz_rb hR (Nat.le_of_ble_eq_true rfl) rfl mzcR_232_129) (g_iload_n rfl ?_))
    obtain ⟨h4, hp⟩ := hp
    refine g_bald (mz_at hS (Nat.le_of_ble_eq_true rfl) mzcS_329) h4 ?_
    refine g_ifne (tg := 49) rfl ms_593_49 hC (fun h5 hC => ?_) (fun h5 hC => ?_)
    · have hp := hp.1 h5
      refine g_aload_n rfl (g_getR (mz_at hS (Nat.le_of_ble_eq_true rfl) mzcS_232) mzcf_12_129 (mz_rb hR (Nat.le_of_ble_eq_true rfl) rfl mzcR_232_129) (g_iload_n rfl (g_iconst mzi_1 (g_iadd ?_))))
      obtain ⟨h6, hp⟩ := hp
      refine g_bald (mz_at hS (Nat.le_of_ble_eq_true rfl) mzcS_329) h6 ?_
      refine g_ifne (tg := 49) rfl ms_593_49 hC (fun h7 hC => ?_) (fun h7 hC => ?_)
      · have hp := hp.1 h7
        refine g_aload_n rfl (g_iload_n rfl (g_iconst mzi_0 ?_))
        obtain ⟨h8, hp⟩ := hp
        refine g_v3v (Nat.le_of_ble_eq_true rfl) (mz_at hS (Nat.le_of_ble_eq_true rfl) mzcS_232) (fun _ hq => cs_596 (Nat.le_trans (Nat.le_of_ble_eq_true rfl) hd) (hS.le (Nat.le_of_ble_eq_true rfl)) (hR.le (Nat.le_of_ble_eq_true rfl))  v1 0 N h8 hq) ?_
        refine g_zne (tg := 51) rfl ms_593_51 hC (fun h9 hC => ?_) (fun h9 hC => ?_)
        · have hp := hp.1 h9
          refine g_aload_n rfl (g_getR (mz_at hS (Nat.le_of_ble_eq_true rfl) mzcS_232) mzcf_12_129 (mz_rb hR (Nat.le_of_ble_eq_true rfl) rfl mzcR_232_129) (g_iload_n rfl (g_bipush mzb_12 (g_iadd (g_iconst mzi_4 ?_)))))
          obtain ⟨h10, hp⟩ := hp
          refine g_s3v (Nat.le_of_ble_eq_true rfl) (fun _ hq => cs_423 (Nat.le_trans (Nat.le_of_ble_eq_true rfl) hd) (hS.le (Nat.le_of_ble_eq_true rfl)) (hR.le (Nat.le_of_ble_eq_true rfl)) 329 19200 (mz_at hS (Nat.le_of_ble_eq_true rfl) mzcS_329) ((9600 * v1) + 12) 4 N h10 hq) (g_lstore_n (Nat.le_of_ble_eq_true rfl) rfl rfl (g_lload_n rfl (g_con3 (g_lcmp ?_))))
          refine g_lle (tg := 74) rfl ms_593_74 hC (fun h11 hC => ?_) (fun h11 hC => ?_)
          · have hp := hp.1 h11
            refine g_iconst mzi_0 ?_
            exact g_zret (z := false) rfl (hr _ hC)
          · have hp := hp.2 h11
            refine g_iconst mzi_1 (g_istore (Nat.le_of_ble_eq_true rfl) rfl (g_iconst mzi_1 (g_istore (Nat.le_of_ble_eq_true rfl) rfl ?_)))
            refine g_weak ?_ (g_cl (cg_593_80 hd hS hR v1 (cf_423_0 329 19200 ((9600 * v1) + 12) 4 N) true 1 N hr hp hC))
            exact ⟨rfl, rfl, rfl, rfl, rfl, trivial⟩
        · have hp := hp.2 h9
          refine g_iconst mzi_0 ?_
          exact g_zret (z := false) rfl (hr _ hC)
      · have hp := hp.2 h7
        refine g_iconst mzi_0 ?_
        exact g_zret (z := false) rfl (hr _ hC)
    · have hp := hp.2 h5
      refine g_iconst mzi_0 ?_
      exact g_zret (z := false) rfl (hr _ hC)
  · have hp := hp.2 h3
    refine g_iconst mzi_0 ?_
    exact g_zret (z := false) rfl (hr _ hC)
theorem cs_593 (hd : 4 ≤ d) (hS : mz_extR S 342) (hR : mz_rok R 342)  (v1 : Int32) (N : mz_N) (hp : cp_593_0 v1 N) (hq : Q (.inl (some (.int (mz_b01 (cf_593_0 v1 N))))) (mz_k S R N b t)) : mz_Ed (mz_X0 L xs) d 593 [.ref 232, .int v1] (mz_k S R N b t) Q :=
  by
  refine g_in mzq_593 (Nat.le_of_ble_eq_true rfl) (Nat.le_of_ble_eq_true rfl) (Nat.le_trans (Nat.le_of_ble_eq_true rfl) hd) ?_
  refine g_weak ?_ (cg_593_0 (d := d - 1) (by omega) hS hR v1 N (C0 := fun z => Q (.inl (some (.int (mz_b01 z)))) (mz_k S R N b t)) (fun _ h => h) hp hq)
  exact ⟨rfl, rfl, trivial⟩
/-! 598 KeptHouseModel.takeRow (II)V -/
theorem ms_598_0 : mz_sf mk_598 0 = mk_598 := mz_sf_zero _
theorem ms_598_17 : mz_sf mk_598 17 = mt_598_17 := mz_sf_add ms_598_0 (t := 17) rfl rfl
theorem ms_598_57 : mz_sf mk_598 57 = mt_598_57 := mz_sf_add ms_598_17 (t := 40) rfl rfl
theorem ms_598_63 : mz_sf mk_598 63 = mt_598_63 := mz_sf_add ms_598_57 (t := 6) rfl rfl
set_option maxRecDepth 100000 in
theorem mzq_598 : mz_PG0 598 = some (12, ⟨"KeptHouseModel", "takeRow", "(II)V"⟩, prog_14_method_182_code, 5, none, [], mk_598, []) := rfl
theorem cg_598_57 (hd : 3 ≤ d) (hS : mz_extR S 342) (hR : mz_rok R 342)  (v1 : Int32) (v2 : Int32) (v3 : Int32) (v4 : Int32) (N : mz_N) {C0 : (mz_N) → Prop} (hr : ∀ (N2 : mz_N), C0 N2 → Q (.inl none) (mz_k S R N2 b t)) {C1 : ((Int32 × mz_N) ⊕ (mz_N)) → Prop} (hc1 : ∀ s2, C1 (.inl s2) → mz_G (d, mz_X0 L xs, none, [], mk_598, 5, Q) 17 mt_598_17 [(0, .ref 232), (1, .int v1), (2, .int v2), (3, .int v3), (4, .int s2.1)] [] false (mz_k S R s2.2 b t)) (hx1 : ∀ z, C1 (.inr z) → C0 z) (hp : cp_598_57 v1 v2 v3 v4 N) (hC : C1 (cf_598_57 v1 v2 v3 v4 N)) : mz_G (d, mz_X0 L xs, none, [], mk_598, 5, Q) 57 mt_598_57 [(0, .ref 232), (1, .int v1), (2, .int v2), (3, .int v3), (4, .int v4)] [] false (mz_k S R N b t) := by
  unfold cf_598_57 at hC
  unfold cp_598_57 at hp
  refine g_iinc rfl mzi_1 (Nat.le_of_ble_eq_true rfl) rfl (g_goto (tg := 17) rfl ms_598_17 ?_)
  refine g_weak ?_ (g_cl (hc1 ((v4 + 1), N) hC))
  exact ⟨rfl, rfl, rfl, rfl, rfl, trivial⟩
theorem cb_598_17 (hd : 3 ≤ d) (hS : mz_extR S 342) (hR : mz_rok R 342)  (v1 : Int32) (v2 : Int32) (v3 : Int32) (s : Int32 × mz_N) {C0 : (mz_N) → Prop} (hr : ∀ (N2 : mz_N), C0 N2 → Q (.inl none) (mz_k S R N2 b t)) {C1 : ((Int32 × mz_N) ⊕ (mz_N)) → Prop} (hc1 : ∀ s2, C1 (.inl s2) → mz_G (d, mz_X0 L xs, none, [], mk_598, 5, Q) 17 mt_598_17 [(0, .ref 232), (1, .int v1), (2, .int v2), (3, .int v3), (4, .int s2.1)] [] false (mz_k S R s2.2 b t)) (hx1 : ∀ z, C1 (.inr z) → C0 z) (hp : cd_598_17 v1 v2 v3 s) (hC : C1 (cq_598_17 v1 v2 v3 s)) : mz_G (d, mz_X0 L xs, none, [], mk_598, 5, Q) 17 mt_598_17 [(0, .ref 232), (1, .int v1), (2, .int v2), (3, .int v3), (4, .int s.1)] [] false (mz_k S R s.2 b t) := by
  unfold cq_598_17 at hC
  unfold cd_598_17 at hp
  refine g_iload rfl (g_bipush mzb_28 ?_)
  refine g_icge (tg := 63) rfl ms_598_63 hC (fun h1 hC => ?_) (fun h1 hC => ?_)
  · have hp := hp.1 h1
    refine g_aload_n rfl (g_getR (mz_at hS (Nat.le_of_ble_eq_true rfl) mzcS_232) mzcf_12_131 (mz_rb hR (Nat.le_of_ble_eq_true rfl) rfl mzcR_232_131) (g_bipush mzb_28 (g_iload_n rfl (g_imul (g_iload rfl (g_iadd (g_aload_n rfl ?_)))))))
    refine g_getR (mz_at hS (Nat.le_of_ble_eq_true rfl) mzcS_232) mzcf_12_129 (mz_rb hR (Nat.le_of_ble_eq_true rfl) rfl mzcR_232_129) (g_sipush mzs_9600 (g_iload_n rfl (g_imul (g_bipush mzb_48 (g_iload_n rfl (g_imul (g_iadd ?_)))))))
    refine g_bipush mzb_12 (g_iadd (g_iload rfl (g_iadd ?_)))
    obtain ⟨h2, hp⟩ := hp
    refine g_bald (mz_at hS (Nat.le_of_ble_eq_true rfl) mzcS_329) h2 ?_
    obtain ⟨h3, hp⟩ := hp
    refine g_bast (mz_at hS (Nat.le_of_ble_eq_true rfl) mzcS_331) h3 ?_
    refine g_weak ?_ (g_cl (cg_598_57 hd hS hR v1 v2 v3 s.1 (mz_wI s.2 331 ((28 * v3) + s.1) (mz_nb (mz_gI s.2 329 ((((9600 * v1) + (48 * v2)) + 12) + s.1)))) hr hc1 hx1 hp hC))
    exact ⟨rfl, rfl, rfl, rfl, rfl, trivial⟩
  · have hp := hp.2 h1
    exact g_vret rfl (hr _ (hx1 _ hC))
theorem cg_598_17 (hd : 3 ≤ d) (hS : mz_extR S 342) (hR : mz_rok R 342)  (v1 : Int32) (v2 : Int32) (v3 : Int32) (v4 : Int32) (N : mz_N) {C0 : (mz_N) → Prop} (hr : ∀ (N2 : mz_N), C0 N2 → Q (.inl none) (mz_k S R N2 b t)) (hp : cp_598_17 v1 v2 v3 v4 N) (hC : C0 (cf_598_17 v1 v2 v3 v4 N)) : mz_G (d, mz_X0 L xs, none, [], mk_598, 5, Q) 17 mt_598_17 [(0, .ref 232), (1, .int v1), (2, .int v2), (3, .int v3), (4, .int v4)] [] false (mz_k S R N b t) := by
  obtain ⟨n, hn⟩ := hp
  exact g_loop (G := fun s => mz_G (d, mz_X0 L xs, none, [], mk_598, 5, Q) 17 mt_598_17 [(0, .ref 232), (1, .int v1), (2, .int v2), (3, .int v3), (4, .int s.1)] [] false (mz_k S R s.2 b t)) (C := C0) (fun C2 hc hx s hP hC => cb_598_17 hd hS hR v1 v2 v3 s hr hc hx hP hC) n (v4, N) hn hC
theorem cg_598_0 (hd : 3 ≤ d) (hS : mz_extR S 342) (hR : mz_rok R 342)  (v1 : Int32) (v2 : Int32) (N : mz_N) {C0 : (mz_N) → Prop} (hr : ∀ (N2 : mz_N), C0 N2 → Q (.inl none) (mz_k S R N2 b t)) (hp : cp_598_0 v1 v2 N) (hC : C0 (cf_598_0 v1 v2 N)) : mz_G (d, mz_X0 L xs, none, [], mk_598, 5, Q) 0 mk_598 [(0, .ref 232), (1, .int v1), (2, .int v2)] [] true (mz_k S R N b t) := by
  unfold cf_598_0 at hC
  unfold cp_598_0 at hp
  refine g_aload_n rfl (g_iload_n rfl (g_iload_n rfl ?_))
  obtain ⟨h1, hp⟩ := hp
  refine g_v3v (Nat.le_of_ble_eq_true rfl) (mz_at hS (Nat.le_of_ble_eq_true rfl) mzcS_232) (fun _ hq => cs_597 (Nat.le_trans (Nat.le_of_ble_eq_true rfl) hd) (hS.le (Nat.le_of_ble_eq_true rfl)) (hR.le (Nat.le_of_ble_eq_true rfl))  v1 v2 N h1 hq) (g_istore_n (Nat.le_of_ble_eq_true rfl) rfl (g_aload_n rfl (g_getR (mz_at hS (Nat.le_of_ble_eq_true rfl) mzcS_232) mzcf_12_130 (mz_rb hR (Nat.le_of_ble_eq_true rfl) rfl mzcR_232_130) (g_iload_n rfl (g_iconst mzi_1 ?_)))))
  obtain ⟨h2, hp⟩ := hp
  refine g_zast (z := true) (mz_at hS (Nat.le_of_ble_eq_true rfl) mzcS_330) h2 (g_iconst mzi_0 (g_istore (Nat.le_of_ble_eq_true rfl) rfl ?_))
  refine g_weak ?_ (g_cl (cg_598_17 hd hS hR v1 v2 (cf_597_0 v1 v2 N) 0 (mz_wI N 330 (cf_597_0 v1 v2 N) (mz_b01 true)) hr hp hC))
  exact ⟨rfl, rfl, rfl, rfl, rfl, trivial⟩
theorem cs_598 (hd : 4 ≤ d) (hS : mz_extR S 342) (hR : mz_rok R 342)  (v1 : Int32) (v2 : Int32) (N : mz_N) (hp : cp_598_0 v1 v2 N) (hq : Q (.inl none) (mz_k S R (cf_598_0 v1 v2 N) b t)) : mz_Ed (mz_X0 L xs) d 598 [.ref 232, .int v1, .int v2] (mz_k S R N b t) Q :=
  by
  refine g_in mzq_598 (Nat.le_of_ble_eq_true rfl) (Nat.le_of_ble_eq_true rfl) (Nat.le_trans (Nat.le_of_ble_eq_true rfl) hd) ?_
  refine g_weak ?_ (cg_598_0 (d := d - 1) (by omega) hS hR v1 v2 N (C0 := fun z => Q (.inl none) (mz_k S R z b t)) (fun _ h => h) hp hq)
  exact ⟨rfl, rfl, rfl, trivial⟩
/-! 592 KeptHouseModel.reopen ()I -/
theorem ms_592_0 : mz_sf mk_592 0 = mk_592 := mz_sf_zero _
theorem ms_592_35 : mz_sf mk_592 35 = mt_592_35 := mz_sf_add ms_592_0 (t := 35) rfl rfl
theorem ms_592_39 : mz_sf mk_592 39 = mt_592_39 := mz_sf_add ms_592_35 (t := 4) rfl rfl
theorem ms_592_40 : mz_sf mk_592 40 = mt_592_40 := mz_sf_add ms_592_39 (t := 1) rfl rfl
theorem ms_592_50 : mz_sf mk_592 50 = mt_592_50 := mz_sf_add ms_592_40 (t := 10) rfl rfl
theorem ms_592_51 : mz_sf mk_592 51 = mt_592_51 := mz_sf_add ms_592_50 (t := 1) rfl rfl
theorem ms_592_87 : mz_sf mk_592 87 = mt_592_87 := mz_sf_add ms_592_51 (t := 36) rfl rfl
theorem ms_592_91 : mz_sf mk_592 91 = mt_592_91 := mz_sf_add ms_592_87 (t := 4) rfl rfl
theorem ms_592_126 : mz_sf mk_592 126 = mt_592_126 := mz_sf_add ms_592_91 (t := 35) rfl rfl
theorem ms_592_142 : mz_sf mk_592 142 = mt_592_142 := mz_sf_add ms_592_126 (t := 16) rfl rfl
theorem ms_592_143 : mz_sf mk_592 143 = mt_592_143 := mz_sf_add ms_592_142 (t := 1) rfl rfl
theorem ms_592_150 : mz_sf mk_592 150 = mt_592_150 := mz_sf_add ms_592_143 (t := 7) rfl rfl
theorem ms_592_152 : mz_sf mk_592 152 = mt_592_152 := mz_sf_add ms_592_150 (t := 2) rfl rfl
theorem ms_592_172 : mz_sf mk_592 172 = mt_592_172 := mz_sf_add ms_592_152 (t := 20) rfl rfl
theorem ms_592_174 : mz_sf mk_592 174 = mt_592_174 := mz_sf_add ms_592_172 (t := 2) rfl rfl
theorem ms_592_194 : mz_sf mk_592 194 = mt_592_194 := mz_sf_add ms_592_174 (t := 20) rfl rfl
set_option maxRecDepth 100000 in
theorem mzq_592 : mz_PG0 592 = some (12, ⟨"KeptHouseModel", "reopen", "()I"⟩, prog_14_method_183_code, 4, some .int, [], mk_592, []) := rfl
theorem cb_592_174 (hd : 10 ≤ d) (hS : mz_extR S 342) (hR : mz_rok R 342)  (v2 : Int32) (s : Int32 × mz_N) {C0 : (Int32 × mz_N) → Prop} (hr : ∀ (w : Int32) (N2 : mz_N), C0 (w, N2) → Q (.inl (some (.int w))) (mz_k S R N2 b t)) {C1 : ((Int32 × mz_N) ⊕ (Int32 × mz_N)) → Prop} (hc1 : ∀ s2, C1 (.inl s2) → mz_G (d, mz_X0 L xs, some .int, [], mk_592, 4, Q) 174 mt_592_174 [(0, .ref 232), (2, .int v2), (3, .int s2.1)] [] false (mz_k S R s2.2 b t)) (hx1 : ∀ z, C1 (.inr z) → C0 z) (hp : cd_592_174 v2 s) (hC : C1 (cq_592_174 v2 s)) : mz_G (d, mz_X0 L xs, some .int, [], mk_592, 4, Q) 174 mt_592_174 [(0, .ref 232), (2, .int v2), (3, .int s.1)] [] false (mz_k S R s.2 b t) := by
  unfold cq_592_174 at hC
  unfold cd_592_174 at hp
  refine g_iload_n rfl (g_iload_n rfl ?_)
  refine g_icgt (tg := 194) rfl ms_592_194 hC (fun h1 hC => ?_) (fun h1 hC => ?_)
  · have hp := hp.1 h1
    refine g_aload_n rfl (g_iload_n rfl (g_iconst mzi_1 (g_iadd (g_putI (mz_at hS (Nat.le_of_ble_eq_true rfl) mzcS_232) mzcf_12_135 (g_aload_n rfl ?_)))))
    have h2 := hp
    refine g_v1n (Nat.le_of_ble_eq_true rfl) (mz_at hS (Nat.le_of_ble_eq_true rfl) mzcS_232) (fun _ hq => cs_414 (Nat.le_trans (Nat.le_of_ble_eq_true rfl) hd) (hS.le (Nat.le_of_ble_eq_true rfl)) (hR.le (Nat.le_of_ble_eq_true rfl))  (mz_pI s.2 232 135 (v2 + 1)) h2 hq) (g_iload_n rfl ?_)
    exact g_iret rfl (hr _ _ (hx1 _ hC))
  · have hp := hp.2 h1
    refine g_aload_n rfl (g_aload_n rfl (g_getI (mz_at hS (Nat.le_of_ble_eq_true rfl) mzcS_232) mzcf_12_133 (g_iload_n rfl ?_)))
    have h3 := hp
    refine g_v3n (Nat.le_of_ble_eq_true rfl) (mz_at hS (Nat.le_of_ble_eq_true rfl) mzcS_232) (fun _ hq => cs_598 (Nat.le_trans (Nat.le_of_ble_eq_true rfl) hd) (hS.le (Nat.le_of_ble_eq_true rfl)) (hR.le (Nat.le_of_ble_eq_true rfl))  (s.2.1 232 133) s.1 s.2 h3 hq) (g_iinc rfl mzi_1 (Nat.le_of_ble_eq_true rfl) rfl (g_goto (tg := 174) rfl ms_592_174 ?_))
    refine g_weak ?_ (g_cl (hc1 ((s.1 + 1), (cf_598_0 (s.2.1 232 133) s.1 s.2)) hC))
    exact ⟨rfl, rfl, rfl, trivial⟩
theorem cg_592_174 (hd : 10 ≤ d) (hS : mz_extR S 342) (hR : mz_rok R 342)  (v2 : Int32) (v3 : Int32) (N : mz_N) {C0 : (Int32 × mz_N) → Prop} (hr : ∀ (w : Int32) (N2 : mz_N), C0 (w, N2) → Q (.inl (some (.int w))) (mz_k S R N2 b t)) (hp : cp_592_174 v2 v3 N) (hC : C0 (cf_592_174 v2 v3 N)) : mz_G (d, mz_X0 L xs, some .int, [], mk_592, 4, Q) 174 mt_592_174 [(0, .ref 232), (2, .int v2), (3, .int v3)] [] false (mz_k S R N b t) := by
  obtain ⟨n, hn⟩ := hp
  exact g_loop (G := fun s => mz_G (d, mz_X0 L xs, some .int, [], mk_592, 4, Q) 174 mt_592_174 [(0, .ref 232), (2, .int v2), (3, .int s.1)] [] false (mz_k S R s.2 b t)) (C := C0) (fun C2 hc hx s hP hC => cb_592_174 hd hS hR v2 s hr hc hx hP hC) n (v3, N) hn hC
theorem cb_592_152 (hd : 10 ≤ d) (hS : mz_extR S 342) (hR : mz_rok R 342)  (v2 : Int32) (s : Int32 × mz_N) {C0 : (Int32 × mz_N) → Prop} (hr : ∀ (w : Int32) (N2 : mz_N), C0 (w, N2) → Q (.inl (some (.int w))) (mz_k S R N2 b t)) {C1 : ((Int32 × mz_N) ⊕ (Int32 × mz_N)) → Prop} (hc1 : ∀ s2, C1 (.inl s2) → mz_G (d, mz_X0 L xs, some .int, [], mk_592, 4, Q) 152 mt_592_152 [(0, .ref 232), (2, .int v2), (3, .int s2.1)] [] false (mz_k S R s2.2 b t)) (hx1 : ∀ z, C1 (.inr z) → C0 z) (hp : cd_592_152 v2 s) (hC : C1 (cq_592_152 v2 s)) : mz_G (d, mz_X0 L xs, some .int, [], mk_592, 4, Q) 152 mt_592_152 [(0, .ref 232), (2, .int v2), (3, .int s.1)] [] false (mz_k S R s.2 b t) := by
  unfold cq_592_152 at hC
  unfold cd_592_152 at hp
  refine g_iload_n rfl (g_sipush mzs_135 ?_)
  refine g_icge (tg := 172) rfl ms_592_172 hC (fun h1 hC => ?_) (fun h1 hC => ?_)
  · have hp := hp.1 h1
    refine g_aload_n rfl (g_getR (mz_at hS (Nat.le_of_ble_eq_true rfl) mzcS_232) mzcf_12_130 (mz_rb hR (Nat.le_of_ble_eq_true rfl) rfl mzcR_232_130) (g_iload_n rfl (g_iconst mzi_0 ?_)))
    have h2 := hp
    refine g_zast (z := false) (mz_at hS (Nat.le_of_ble_eq_true rfl) mzcS_330) h2 (g_iinc rfl mzi_1 (Nat.le_of_ble_eq_true rfl) rfl (g_goto (tg := 152) rfl ms_592_152 ?_))
    refine g_weak ?_ (g_cl (hc1 ((s.1 + 1), mz_wI s.2 330 s.1 (mz_b01 false)) hC))
    exact ⟨rfl, rfl, rfl, trivial⟩
  · have hp := hp.2 h1
    refine g_iconst mzi_1 (g_istore_n (Nat.le_of_ble_eq_true rfl) rfl ?_)
    refine g_weak ?_ (g_cl (cg_592_174 hd hS hR v2 1 s.2 hr hp (hx1 _ hC)))
    exact ⟨rfl, rfl, rfl, trivial⟩
theorem cg_592_152 (hd : 10 ≤ d) (hS : mz_extR S 342) (hR : mz_rok R 342)  (v2 : Int32) (v3 : Int32) (N : mz_N) {C0 : (Int32 × mz_N) → Prop} (hr : ∀ (w : Int32) (N2 : mz_N), C0 (w, N2) → Q (.inl (some (.int w))) (mz_k S R N2 b t)) (hp : cp_592_152 v2 v3 N) (hC : C0 (cf_592_152 v2 v3 N)) : mz_G (d, mz_X0 L xs, some .int, [], mk_592, 4, Q) 152 mt_592_152 [(0, .ref 232), (2, .int v2), (3, .int v3)] [] false (mz_k S R N b t) := by
  obtain ⟨n, hn⟩ := hp
  exact g_loop (G := fun s => mz_G (d, mz_X0 L xs, some .int, [], mk_592, 4, Q) 152 mt_592_152 [(0, .ref 232), (2, .int v2), (3, .int s.1)] [] false (mz_k S R s.2 b t)) (C := C0) (fun C2 hc hx s hP hC => cb_592_152 hd hS hR v2 s hr hc hx hP hC) n (v3, N) hn hC
theorem cg_592_150 (hd : 10 ≤ d) (hS : mz_extR S 342) (hR : mz_rok R 342)  (v2 : Int32) (N : mz_N) {C0 : (Int32 × mz_N) → Prop} (hr : ∀ (w : Int32) (N2 : mz_N), C0 (w, N2) → Q (.inl (some (.int w))) (mz_k S R N2 b t)) (hp : cp_592_150 v2 N) (hC : C0 (cf_592_150 v2 N)) : mz_G (d, mz_X0 L xs, some .int, [], mk_592, 4, Q) 150 mt_592_150 [(0, .ref 232), (2, .int v2)] [] false (mz_k S R N b t) := by
  unfold cf_592_150 at hC
  unfold cp_592_150 at hp
  refine g_iconst mzi_0 (g_istore_n (Nat.le_of_ble_eq_true rfl) rfl ?_)
  refine g_weak ?_ (g_cl (cg_592_152 hd hS hR v2 0 N hr hp hC))
  exact ⟨rfl, rfl, rfl, trivial⟩
theorem cg_592_143 (hd : 10 ≤ d) (hS : mz_extR S 342) (hR : mz_rok R 342)  (s0 : Int32) (v3 : Int32) (N : mz_N) {C0 : (Int32 × mz_N) → Prop} (hr : ∀ (w : Int32) (N2 : mz_N), C0 (w, N2) → Q (.inl (some (.int w))) (mz_k S R N2 b t)) {C1 : ((Int32 × Int32) ⊕ (Int32 × mz_N)) → Prop} (hc1 : ∀ s2, C1 (.inl s2) → mz_G (d, mz_X0 L xs, some .int, [], mk_592, 4, Q) 91 mt_592_91 [(0, .ref 232), (2, .int s2.1), (3, .int s2.2)] [] false (mz_k S R N b t)) (hx1 : ∀ z, C1 (.inr z) → C0 z) (hp : cp_592_143 s0 v3 N) (hC : C1 (cf_592_143 s0 v3 N)) : mz_G (d, mz_X0 L xs, some .int, [], mk_592, 4, Q) 143 mt_592_143 [(0, .ref 232), (3, .int v3)] [.int s0] false (mz_k S R N b t) := by
  unfold cf_592_143 at hC
  unfold cp_592_143 at hp
  refine g_istore_n (Nat.le_of_ble_eq_true rfl) rfl (g_iinc rfl mzi_1 (Nat.le_of_ble_eq_true rfl) rfl (g_goto (tg := 91) rfl ms_592_91 ?_))
  refine g_weak ?_ (g_cl (hc1 (s0, (v3 + 1)) hC))
  exact ⟨rfl, rfl, rfl, trivial⟩
theorem cb_592_91 (hd : 10 ≤ d) (hS : mz_extR S 342) (hR : mz_rok R 342)  (N : mz_N) (s : Int32 × Int32) {C0 : (Int32 × mz_N) → Prop} (hr : ∀ (w : Int32) (N2 : mz_N), C0 (w, N2) → Q (.inl (some (.int w))) (mz_k S R N2 b t)) {C1 : ((Int32 × Int32) ⊕ (Int32 × mz_N)) → Prop} (hc1 : ∀ s2, C1 (.inl s2) → mz_G (d, mz_X0 L xs, some .int, [], mk_592, 4, Q) 91 mt_592_91 [(0, .ref 232), (2, .int s2.1), (3, .int s2.2)] [] false (mz_k S R N b t)) (hx1 : ∀ z, C1 (.inr z) → C0 z) (hp : cd_592_91 N s) (hC : C1 (cq_592_91 N s)) : mz_G (d, mz_X0 L xs, some .int, [], mk_592, 4, Q) 91 mt_592_91 [(0, .ref 232), (2, .int s.1), (3, .int s.2)] [] false (mz_k S R N b t) := by
  unfold cq_592_91 at hC
  unfold cd_592_91 at hp
  refine g_iload_n rfl (g_sipush mzs_200 ?_)
  refine g_icge (tg := 150) rfl ms_592_150 hC (fun h1 hC => ?_) (fun h1 hC => ?_)
  · have hp := hp.1 h1
    refine g_aload_n rfl (g_aload_n rfl (g_getI (mz_at hS (Nat.le_of_ble_eq_true rfl) mzcS_232) mzcf_12_133 (g_iload_n rfl (g_aload_n rfl (g_getL (mz_at hS (Nat.le_of_ble_eq_true rfl) mzcS_232) mzcf_12_134 ?_)))))
    obtain ⟨h2, hp⟩ := hp
    refine g_v4v (Nat.le_of_ble_eq_true rfl) (mz_at hS (Nat.le_of_ble_eq_true rfl) mzcS_232) (fun _ hq => cs_595 (Nat.le_trans (Nat.le_of_ble_eq_true rfl) hd) (hS.le (Nat.le_of_ble_eq_true rfl)) (hR.le (Nat.le_of_ble_eq_true rfl))  (N.1 232 133) s.2 (N.2 232 134) N h2 hq) ?_
    refine g_zeq (tg := 150) rfl ms_592_150 hC (fun h3 hC => ?_) (fun h3 hC => ?_)
    · have hp := hp.1 h3
      refine g_aload_n rfl (g_aload_n rfl (g_getI (mz_at hS (Nat.le_of_ble_eq_true rfl) mzcS_232) mzcf_12_133 (g_iload_n rfl ?_)))
      obtain ⟨h4, hp⟩ := hp
      refine g_v3v (Nat.le_of_ble_eq_true rfl) (mz_at hS (Nat.le_of_ble_eq_true rfl) mzcS_232) (fun _ hq => cs_597 (Nat.le_trans (Nat.le_of_ble_eq_true rfl) hd) (hS.le (Nat.le_of_ble_eq_true rfl)) (hR.le (Nat.le_of_ble_eq_true rfl))  (N.1 232 133) s.2 N h4 hq) ?_
      refine g_iflt (tg := 150) rfl ms_592_150 hC (fun h5 hC => ?_) (fun h5 hC => ?_)
      · have hp := hp.1 h5
        refine g_weak ?_ (g_cl (cg_592_150 hd hS hR s.1 N hr hp (hx1 _ hC)))
        exact ⟨rfl, rfl, trivial⟩
      · have hp := hp.2 h5
        refine g_aload_n rfl (g_aload_n rfl (g_getI (mz_at hS (Nat.le_of_ble_eq_true rfl) mzcS_232) mzcf_12_133 (g_iload_n rfl ?_)))
        obtain ⟨h6, hp⟩ := hp
        refine g_v3v (Nat.le_of_ble_eq_true rfl) (mz_at hS (Nat.le_of_ble_eq_true rfl) mzcS_232) (fun _ hq => cs_596 (Nat.le_trans (Nat.le_of_ble_eq_true rfl) hd) (hS.le (Nat.le_of_ble_eq_true rfl)) (hR.le (Nat.le_of_ble_eq_true rfl))  (N.1 232 133) s.2 N h6 hq) ?_
        refine g_zeq (tg := 142) rfl ms_592_142 hC (fun h7 hC => ?_) (fun h7 hC => ?_)
        · have hp := hp.1 h7
          refine g_iload_n rfl (g_goto (tg := 143) rfl ms_592_143 ?_)
          refine g_weak ?_ (g_cl (cg_592_143 hd hS hR s.2 s.2 N hr hc1 hx1 hp hC))
          exact ⟨rfl, rfl, trivial⟩
        · have hp := hp.2 h7
          refine g_iload_n rfl ?_
          refine g_weak ?_ (g_cl (cg_592_143 hd hS hR s.1 s.2 N hr hc1 hx1 hp hC))
          exact ⟨rfl, rfl, trivial⟩
    · have hp := hp.2 h3
      refine g_weak ?_ (g_cl (cg_592_150 hd hS hR s.1 N hr hp (hx1 _ hC)))
      exact ⟨rfl, rfl, trivial⟩
  · have hp := hp.2 h1
    refine g_weak ?_ (g_cl (cg_592_150 hd hS hR s.1 N hr hp (hx1 _ hC)))
    exact ⟨rfl, rfl, trivial⟩
theorem cg_592_91 (hd : 10 ≤ d) (hS : mz_extR S 342) (hR : mz_rok R 342)  (v2 : Int32) (v3 : Int32) (N : mz_N) {C0 : (Int32 × mz_N) → Prop} (hr : ∀ (w : Int32) (N2 : mz_N), C0 (w, N2) → Q (.inl (some (.int w))) (mz_k S R N2 b t)) (hp : cp_592_91 v2 v3 N) (hC : C0 (cf_592_91 v2 v3 N)) : mz_G (d, mz_X0 L xs, some .int, [], mk_592, 4, Q) 91 mt_592_91 [(0, .ref 232), (2, .int v2), (3, .int v3)] [] false (mz_k S R N b t) := by
  obtain ⟨n, hn⟩ := hp
  exact g_loop (G := fun s => mz_G (d, mz_X0 L xs, some .int, [], mk_592, 4, Q) 91 mt_592_91 [(0, .ref 232), (2, .int s.1), (3, .int s.2)] [] false (mz_k S R N b t)) (C := C0) (fun C2 hc hx s hP hC => cb_592_91 hd hS hR N s hr hc hx hP hC) n (v2, v3) hn hC
theorem cg_592_87 (hd : 10 ≤ d) (hS : mz_extR S 342) (hR : mz_rok R 342)  (v2 : Int32) (N : mz_N) {C0 : (Int32 × mz_N) → Prop} (hr : ∀ (w : Int32) (N2 : mz_N), C0 (w, N2) → Q (.inl (some (.int w))) (mz_k S R N2 b t)) (hp : cp_592_87 v2 N) (hC : C0 (cf_592_87 v2 N)) : mz_G (d, mz_X0 L xs, some .int, [], mk_592, 4, Q) 87 mt_592_87 [(0, .ref 232), (2, .int v2)] [] false (mz_k S R N b t) := by
  unfold cf_592_87 at hC
  unfold cp_592_87 at hp
  refine g_iload_n rfl (g_iconst mzi_1 (g_iadd (g_istore_n (Nat.le_of_ble_eq_true rfl) rfl ?_)))
  refine g_weak ?_ (g_cl (cg_592_91 hd hS hR v2 (v2 + 1) N hr hp hC))
  exact ⟨rfl, rfl, rfl, trivial⟩
theorem cg_592_51 (hd : 10 ≤ d) (hS : mz_extR S 342) (hR : mz_rok R 342)  (s1 : Bool) (N : mz_N) {C0 : (Int32 × mz_N) → Prop} (hr : ∀ (w : Int32) (N2 : mz_N), C0 (w, N2) → Q (.inl (some (.int w))) (mz_k S R N2 b t)) (hp : cp_592_51 s1 N) (hC : C0 (cf_592_51 s1 N)) : mz_G (d, mz_X0 L xs, some .int, [], mk_592, 4, Q) 51 mt_592_51 [(0, .ref 232)] [.int (mz_b01 s1), .ref 232] false (mz_k S R N b t) := by
  unfold cf_592_51 at hC
  unfold cp_592_51 at hp
  refine g_putI (mz_at hS (Nat.le_of_ble_eq_true rfl) mzcS_232) mzcf_12_133 (g_aload_n rfl (g_aload_n rfl (g_aload_n rfl (g_getI (mz_at hS (Nat.le_of_ble_eq_true rfl) mzcS_232) mzcf_12_133 ?_))))
  obtain ⟨h1, hp⟩ := hp
  refine g_v2v (Nat.le_of_ble_eq_true rfl) (mz_at hS (Nat.le_of_ble_eq_true rfl) mzcS_232) (fun _ hq => cs_594 (Nat.le_trans (Nat.le_of_ble_eq_true rfl) hd) (hS.le (Nat.le_of_ble_eq_true rfl)) (hR.le (Nat.le_of_ble_eq_true rfl))  ((mz_pI N 232 133 (mz_b01 s1)).1 232 133) (mz_pI N 232 133 (mz_b01 s1)) h1 hq) (g_putL (mz_at hS (Nat.le_of_ble_eq_true rfl) mzcS_232) mzcf_12_134 (g_aload_n rfl (g_getR (mz_at hS (Nat.le_of_ble_eq_true rfl) mzcS_232) mzcf_12_129 (mz_rb hR (Nat.le_of_ble_eq_true rfl) rfl mzcR_232_129) (g_sipush mzs_9600 (g_aload_n rfl (g_getI (mz_at hS (Nat.le_of_ble_eq_true rfl) mzcS_232) mzcf_12_133 (g_imul ?_)))))))
  refine g_bipush mzb_12 (g_iadd (g_iconst mzi_4 ?_))
  obtain ⟨h2, hp⟩ := hp
  refine g_s3v (Nat.le_of_ble_eq_true rfl) (fun _ hq => cs_423 (Nat.le_trans (Nat.le_of_ble_eq_true rfl) hd) (hS.le (Nat.le_of_ble_eq_true rfl)) (hR.le (Nat.le_of_ble_eq_true rfl)) 329 19200 (mz_at hS (Nat.le_of_ble_eq_true rfl) mzcS_329) ((9600 * ((mz_pL (mz_pI N 232 133 (mz_b01 s1)) 232 134 (cf_594_0 ((mz_pI N 232 133 (mz_b01 s1)).1 232 133) (mz_pI N 232 133 (mz_b01 s1)))).1 232 133)) + 12) 4 (mz_pL (mz_pI N 232 133 (mz_b01 s1)) 232 134 (cf_594_0 ((mz_pI N 232 133 (mz_b01 s1)).1 232 133) (mz_pI N 232 133 (mz_b01 s1)))) h2 hq) (g_l2i (g_istore_n (Nat.le_of_ble_eq_true rfl) rfl ?_))
  refine g_weak ?_ (g_cl (cg_592_87 hd hS hR ((cf_423_0 329 19200 ((9600 * ((mz_pL (mz_pI N 232 133 (mz_b01 s1)) 232 134 (cf_594_0 ((mz_pI N 232 133 (mz_b01 s1)).1 232 133) (mz_pI N 232 133 (mz_b01 s1)))).1 232 133)) + 12) 4 (mz_pL (mz_pI N 232 133 (mz_b01 s1)) 232 134 (cf_594_0 ((mz_pI N 232 133 (mz_b01 s1)).1 232 133) (mz_pI N 232 133 (mz_b01 s1))))).toInt32) (mz_pL (mz_pI N 232 133 (mz_b01 s1)) 232 134 (cf_594_0 ((mz_pI N 232 133 (mz_b01 s1)).1 232 133) (mz_pI N 232 133 (mz_b01 s1)))) hr hp hC))
  exact ⟨rfl, rfl, trivial⟩
theorem cg_592_40 (hd : 10 ≤ d) (hS : mz_extR S 342) (hR : mz_rok R 342)  (s0 : Bool) (N : mz_N) {C0 : (Int32 × mz_N) → Prop} (hr : ∀ (w : Int32) (N2 : mz_N), C0 (w, N2) → Q (.inl (some (.int w))) (mz_k S R N2 b t)) (hp : cp_592_40 s0 N) (hC : C0 (cf_592_40 s0 N)) : mz_G (d, mz_X0 L xs, some .int, [], mk_592, 4, Q) 40 mt_592_40 [(0, .ref 232)] [.int (mz_b01 s0)] false (mz_k S R N b t) := by
  unfold cf_592_40 at hC
  unfold cp_592_40 at hp
  refine g_istore_n (Nat.le_of_ble_eq_true rfl) rfl (g_aload_n rfl (g_iload_n rfl ?_))
  refine g_zeq (tg := 50) rfl ms_592_50 hC (fun h1 hC => ?_) (fun h1 hC => ?_)
  · have hp := hp.1 h1
    refine g_iconst mzi_1 (g_goto (tg := 51) rfl ms_592_51 ?_)
    refine g_weak ?_ (g_cl (cg_592_51 hd hS hR true N hr hp hC))
    exact ⟨rfl, trivial⟩
  · have hp := hp.2 h1
    refine g_iconst mzi_0 ?_
    refine g_weak ?_ (g_cl (cg_592_51 hd hS hR false N hr hp hC))
    exact ⟨rfl, trivial⟩
theorem cg_592_35 (hd : 10 ≤ d) (hS : mz_extR S 342) (hR : mz_rok R 342)  (N : mz_N) {C0 : (Int32 × mz_N) → Prop} (hr : ∀ (w : Int32) (N2 : mz_N), C0 (w, N2) → Q (.inl (some (.int w))) (mz_k S R N2 b t)) (hp : cp_592_35 N) (hC : C0 (cf_592_35 N)) : mz_G (d, mz_X0 L xs, some .int, [], mk_592, 4, Q) 35 mt_592_35 [(0, .ref 232)] [] false (mz_k S R N b t) := by
  unfold cf_592_35 at hC
  unfold cp_592_35 at hp
  refine g_iconst mzi_1 (g_goto (tg := 40) rfl ms_592_40 ?_)
  refine g_weak ?_ (g_cl (cg_592_40 hd hS hR true N hr hp hC))
  exact ⟨rfl, trivial⟩
theorem cg_592_39 (hd : 10 ≤ d) (hS : mz_extR S 342) (hR : mz_rok R 342)  (N : mz_N) {C0 : (Int32 × mz_N) → Prop} (hr : ∀ (w : Int32) (N2 : mz_N), C0 (w, N2) → Q (.inl (some (.int w))) (mz_k S R N2 b t)) (hp : cp_592_39 N) (hC : C0 (cf_592_39 N)) : mz_G (d, mz_X0 L xs, some .int, [], mk_592, 4, Q) 39 mt_592_39 [(0, .ref 232)] [] false (mz_k S R N b t) := by
  unfold cf_592_39 at hC
  unfold cp_592_39 at hp
  refine g_iconst mzi_0 ?_
  refine g_weak ?_ (g_cl (cg_592_40 hd hS hR false N hr hp hC))
  exact ⟨rfl, trivial⟩
theorem cg_592_0 (hd : 10 ≤ d) (hS : mz_extR S 342) (hR : mz_rok R 342)  (N : mz_N) {C0 : (Int32 × mz_N) → Prop} (hr : ∀ (w : Int32) (N2 : mz_N), C0 (w, N2) → Q (.inl (some (.int w))) (mz_k S R N2 b t)) (hp : cp_592_0 N) (hC : C0 (cf_592_0 N)) : mz_G (d, mz_X0 L xs, some .int, [], mk_592, 4, Q) 0 mk_592 [(0, .ref 232)] [] true (mz_k S R N b t) := by
  unfold cf_592_0 at hC
  unfold cp_592_0 at hp
  refine g_aload_n rfl (g_iconst mzi_0 (g_putI (mz_at hS (Nat.le_of_ble_eq_true rfl) mzcS_232) mzcf_12_0 (g_aload_n rfl (g_iconst mzi_1 ?_))))
  obtain ⟨h1, hp⟩ := hp
  refine g_v2v (Nat.le_of_ble_eq_true rfl) (mz_at hS (Nat.le_of_ble_eq_true rfl) mzcS_232) (fun _ hq => cs_593 (Nat.le_trans (Nat.le_of_ble_eq_true rfl) hd) (hS.le (Nat.le_of_ble_eq_true rfl)) (hR.le (Nat.le_of_ble_eq_true rfl))  1 (mz_pI N 232 0 0) h1 hq) ?_
  refine g_zeq (tg := 39) rfl ms_592_39 hC (fun h2 hC => ?_) (fun h2 hC => ?_)
  · have hp := hp.1 h2
    refine g_aload_n rfl (g_iconst mzi_0 ?_)
    obtain ⟨h3, hp⟩ := hp
    refine g_v2v (Nat.le_of_ble_eq_true rfl) (mz_at hS (Nat.le_of_ble_eq_true rfl) mzcS_232) (fun _ hq => cs_593 (Nat.le_trans (Nat.le_of_ble_eq_true rfl) hd) (hS.le (Nat.le_of_ble_eq_true rfl)) (hR.le (Nat.le_of_ble_eq_true rfl))  0 (mz_pI N 232 0 0) h3 hq) ?_
    refine g_zeq (tg := 35) rfl ms_592_35 hC (fun h4 hC => ?_) (fun h4 hC => ?_)
    · have hp := hp.1 h4
      refine g_aload_n rfl (g_iconst mzi_1 ?_)
      obtain ⟨h5, hp⟩ := hp
      refine g_v2v (Nat.le_of_ble_eq_true rfl) (mz_at hS (Nat.le_of_ble_eq_true rfl) mzcS_232) (fun _ hq => cs_594 (Nat.le_trans (Nat.le_of_ble_eq_true rfl) hd) (hS.le (Nat.le_of_ble_eq_true rfl)) (hR.le (Nat.le_of_ble_eq_true rfl))  1 (mz_pI N 232 0 0) h5 hq) (g_aload_n rfl (g_iconst mzi_0 ?_))
      obtain ⟨h6, hp⟩ := hp
      refine g_v2v (Nat.le_of_ble_eq_true rfl) (mz_at hS (Nat.le_of_ble_eq_true rfl) mzcS_232) (fun _ hq => cs_594 (Nat.le_trans (Nat.le_of_ble_eq_true rfl) hd) (hS.le (Nat.le_of_ble_eq_true rfl)) (hR.le (Nat.le_of_ble_eq_true rfl))  0 (mz_pI N 232 0 0) h6 hq) (g_lcmp ?_)
      refine g_lle (tg := 39) rfl ms_592_39 hC (fun h7 hC => ?_) (fun h7 hC => ?_)
      · have hp := hp.1 h7
        refine g_weak ?_ (g_cl (cg_592_35 hd hS hR (mz_pI N 232 0 0) hr hp hC))
        exact ⟨rfl, trivial⟩
      · have hp := hp.2 h7
        refine g_weak ?_ (g_cl (cg_592_39 hd hS hR (mz_pI N 232 0 0) hr hp hC))
        exact ⟨rfl, trivial⟩
    · have hp := hp.2 h4
      refine g_weak ?_ (g_cl (cg_592_35 hd hS hR (mz_pI N 232 0 0) hr hp hC))
      exact ⟨rfl, trivial⟩
  · have hp := hp.2 h2
    refine g_weak ?_ (g_cl (cg_592_39 hd hS hR (mz_pI N 232 0 0) hr hp hC))
    exact ⟨rfl, trivial⟩
theorem cs_592 (hd : 11 ≤ d) (hS : mz_extR S 342) (hR : mz_rok R 342)  (N : mz_N) (hp : cp_592_0 N) (hq : Q (.inl (some (.int ((cf_592_0 N).1)))) (mz_k S R ((cf_592_0 N).2) b t)) : mz_Ed (mz_X0 L xs) d 592 [.ref 232] (mz_k S R N b t) Q :=
  by
  refine g_in mzq_592 (Nat.le_of_ble_eq_true rfl) (Nat.le_of_ble_eq_true rfl) (Nat.le_trans (Nat.le_of_ble_eq_true rfl) hd) ?_
  refine g_weak ?_ (cg_592_0 (d := d - 1) (by omega) hS hR N (C0 := fun z => Q (.inl (some (.int z.1))) (mz_k S R z.2 b t)) (fun _ _ h => h) hp hq)
  exact ⟨rfl, trivial⟩
/-! 599 KeptHouseModel.rows (I)I -/
theorem ms_599_0 : mz_sf mk_599 0 = mk_599 := mz_sf_zero _
theorem ms_599_19 : mz_sf mk_599 19 = mt_599_19 := mz_sf_add ms_599_0 (t := 19) rfl rfl
theorem ms_599_23 : mz_sf mk_599 23 = mt_599_23 := mz_sf_add ms_599_19 (t := 4) rfl rfl
theorem ms_599_44 : mz_sf mk_599 44 = mt_599_44 := mz_sf_add ms_599_23 (t := 21) rfl rfl
theorem ms_599_45 : mz_sf mk_599 45 = mt_599_45 := mz_sf_add ms_599_44 (t := 1) rfl rfl
theorem ms_599_53 : mz_sf mk_599 53 = mt_599_53 := mz_sf_add ms_599_45 (t := 8) rfl rfl
theorem ms_599_64 : mz_sf mk_599 64 = mt_599_64 := mz_sf_add ms_599_53 (t := 11) rfl rfl
theorem ms_599_77 : mz_sf mk_599 77 = mt_599_77 := mz_sf_add ms_599_64 (t := 13) rfl rfl
theorem ms_599_89 : mz_sf mk_599 89 = mt_599_89 := mz_sf_add ms_599_77 (t := 12) rfl rfl
theorem ms_599_90 : mz_sf mk_599 90 = mt_599_90 := mz_sf_add ms_599_89 (t := 1) rfl rfl
set_option maxRecDepth 100000 in
theorem mzq_599 : mz_PG0 599 = some (12, ⟨"KeptHouseModel", "rows", "(I)I"⟩, prog_14_method_184_code, 4, some .int, [], mk_599, []) := rfl
theorem cg_599_45 (hd : 1 ≤ d) (hS : mz_extR S 342) (hR : mz_rok R 342)  (s0 : Int32) (s1 : Bool) (v1 : Int32) (v3 : Int32) (N : mz_N) {C0 : (Int32 × mz_N) → Prop} (hr : ∀ (w : Int32) (N2 : mz_N), C0 (w, N2) → Q (.inl (some (.int w))) (mz_k S R N2 b t)) {C1 : ((Int32 × Int32) ⊕ (Int32 × mz_N)) → Prop} (hc1 : ∀ s2, C1 (.inl s2) → mz_G (d, mz_X0 L xs, some .int, [], mk_599, 4, Q) 23 mt_599_23 [(0, .ref 232), (1, .int v1), (2, .int s2.1), (3, .int s2.2)] [] false (mz_k S R N b t)) (hx1 : ∀ z, C1 (.inr z) → C0 z) (hp : cp_599_45 s0 s1 v1 v3 N) (hC : C1 (cf_599_45 s0 s1 v1 v3 N)) : mz_G (d, mz_X0 L xs, some .int, [], mk_599, 4, Q) 45 mt_599_45 [(0, .ref 232), (1, .int v1), (3, .int v3)] [.int (mz_b01 s1), .int s0] false (mz_k S R N b t) := by
  unfold cf_599_45 at hC
  unfold cp_599_45 at hp
  refine g_iadd (g_istore_n (Nat.le_of_ble_eq_true rfl) rfl (g_iinc rfl mzi_1 (Nat.le_of_ble_eq_true rfl) rfl (g_goto (tg := 23) rfl ms_599_23 ?_)))
  refine g_weak ?_ (g_cl (hc1 ((s0 + (mz_b01 s1)), (v3 + 1)) hC))
  exact ⟨rfl, rfl, rfl, rfl, trivial⟩
theorem cb_599_23 (hd : 1 ≤ d) (hS : mz_extR S 342) (hR : mz_rok R 342)  (v1 : Int32) (N : mz_N) (s : Int32 × Int32) {C0 : (Int32 × mz_N) → Prop} (hr : ∀ (w : Int32) (N2 : mz_N), C0 (w, N2) → Q (.inl (some (.int w))) (mz_k S R N2 b t)) {C1 : ((Int32 × Int32) ⊕ (Int32 × mz_N)) → Prop} (hc1 : ∀ s2, C1 (.inl s2) → mz_G (d, mz_X0 L xs, some .int, [], mk_599, 4, Q) 23 mt_599_23 [(0, .ref 232), (1, .int v1), (2, .int s2.1), (3, .int s2.2)] [] false (mz_k S R N b t)) (hx1 : ∀ z, C1 (.inr z) → C0 z) (hp : cd_599_23 v1 N s) (hC : C1 (cq_599_23 v1 N s)) : mz_G (d, mz_X0 L xs, some .int, [], mk_599, 4, Q) 23 mt_599_23 [(0, .ref 232), (1, .int v1), (2, .int s.1), (3, .int s.2)] [] false (mz_k S R N b t) := by
  unfold cq_599_23 at hC
  unfold cd_599_23 at hp
  refine g_iload_n rfl (g_sipush mzs_135 ?_)
  refine g_icge (tg := 53) rfl ms_599_53 hC (fun h1 hC => ?_) (fun h1 hC => ?_)
  · have hp := hp.1 h1
    refine g_iload_n rfl (g_aload_n rfl (g_getR (mz_at hS (Nat.le_of_ble_eq_true rfl) mzcS_232) mzcf_12_130 (mz_rb hR (Nat.le_of_ble_eq_true rfl) rfl mzcR_232_130) (g_iload_n rfl ?_)))
    obtain ⟨h2, hp⟩ := hp
    obtain ⟨h3, hp⟩ := hp
    refine g_zald (mz_at hS (Nat.le_of_ble_eq_true rfl) mzcS_330) h2 h3 ?_
    refine g_zeq (tg := 44) rfl ms_599_44 hC (fun h4 hC => ?_) (fun h4 hC => ?_)
    · have hp := hp.1 h4
      refine g_iconst mzi_1 (g_goto (tg := 45) rfl ms_599_45 ?_)
      refine g_weak ?_ (g_cl (cg_599_45 hd hS hR s.1 true v1 s.2 N hr hc1 hx1 hp hC))
      exact ⟨rfl, rfl, rfl, trivial⟩
    · have hp := hp.2 h4
      refine g_iconst mzi_0 ?_
      refine g_weak ?_ (g_cl (cg_599_45 hd hS hR s.1 false v1 s.2 N hr hc1 hx1 hp hC))
      exact ⟨rfl, rfl, rfl, trivial⟩
  · have hp := hp.2 h1
    refine g_iload_n rfl ?_
    refine g_ifne (tg := 64) rfl ms_599_64 hC (fun h5 hC => ?_) (fun h5 hC => ?_)
    · refine g_aload_n rfl (g_getI (mz_at hS (Nat.le_of_ble_eq_true rfl) mzcS_232) mzcf_12_133 (g_goto (tg := 90) rfl ms_599_90 ?_))
      exact g_iret rfl (hr _ _ (hx1 _ hC))
    · refine g_iload_n rfl (g_iconst mzi_1 ?_)
      refine g_icne (tg := 77) rfl ms_599_77 hC (fun h6 hC => ?_) (fun h6 hC => ?_)
      · refine g_aload_n rfl (g_getL (mz_at hS (Nat.le_of_ble_eq_true rfl) mzcS_232) mzcf_12_134 (g_l2i (g_goto (tg := 90) rfl ms_599_90 ?_)))
        exact g_iret rfl (hr _ _ (hx1 _ hC))
      · refine g_iload_n rfl (g_iconst mzi_2 ?_)
        refine g_icne (tg := 89) rfl ms_599_89 hC (fun h7 hC => ?_) (fun h7 hC => ?_)
        · refine g_aload_n rfl (g_getI (mz_at hS (Nat.le_of_ble_eq_true rfl) mzcS_232) mzcf_12_135 (g_goto (tg := 90) rfl ms_599_90 ?_))
          exact g_iret rfl (hr _ _ (hx1 _ hC))
        · refine g_iload_n rfl ?_
          exact g_iret rfl (hr _ _ (hx1 _ hC))
theorem cg_599_23 (hd : 1 ≤ d) (hS : mz_extR S 342) (hR : mz_rok R 342)  (v1 : Int32) (v2 : Int32) (v3 : Int32) (N : mz_N) {C0 : (Int32 × mz_N) → Prop} (hr : ∀ (w : Int32) (N2 : mz_N), C0 (w, N2) → Q (.inl (some (.int w))) (mz_k S R N2 b t)) (hp : cp_599_23 v1 v2 v3 N) (hC : C0 (cf_599_23 v1 v2 v3 N)) : mz_G (d, mz_X0 L xs, some .int, [], mk_599, 4, Q) 23 mt_599_23 [(0, .ref 232), (1, .int v1), (2, .int v2), (3, .int v3)] [] false (mz_k S R N b t) := by
  obtain ⟨n, hn⟩ := hp
  exact g_loop (G := fun s => mz_G (d, mz_X0 L xs, some .int, [], mk_599, 4, Q) 23 mt_599_23 [(0, .ref 232), (1, .int v1), (2, .int s.1), (3, .int s.2)] [] false (mz_k S R N b t)) (C := C0) (fun C2 hc hx s hP hC => cb_599_23 hd hS hR v1 N s hr hc hx hP hC) n (v2, v3) hn hC
theorem cg_599_0 (hd : 1 ≤ d) (hS : mz_extR S 342) (hR : mz_rok R 342)  (v1 : Int32) (N : mz_N) {C0 : (Int32 × mz_N) → Prop} (hr : ∀ (w : Int32) (N2 : mz_N), C0 (w, N2) → Q (.inl (some (.int w))) (mz_k S R N2 b t)) (hp : cp_599_0 v1 N) (hC : C0 (cf_599_0 v1 N)) : mz_G (d, mz_X0 L xs, some .int, [], mk_599, 4, Q) 0 mk_599 [(0, .ref 232), (1, .int v1)] [] true (mz_k S R N b t) := by
  unfold cf_599_0 at hC
  unfold cp_599_0 at hp
  refine g_aload_n rfl (g_iload_n rfl (g_i2l (g_lconst mzl_0 (g_con3 ?_))))
  refine g_s3v (Nat.le_of_ble_eq_true rfl) (fun _ hq => cs_466 (Nat.le_trans (Nat.le_of_ble_eq_true rfl) hd) (hS.le (Nat.le_of_ble_eq_true rfl)) (hR.le (Nat.le_of_ble_eq_true rfl))  v1.toInt64 0 3 trivial hq) (g_iconst mzi_1 ?_)
  obtain ⟨h2, hp⟩ := hp
  refine g_v3v (Nat.le_of_ble_eq_true rfl) (mz_at hS (Nat.le_of_ble_eq_true rfl) mzcS_232) (fun _ hq => cs_462 (Nat.le_trans (Nat.le_of_ble_eq_true rfl) hd) (hS.le (Nat.le_of_ble_eq_true rfl)) (hR.le (Nat.le_of_ble_eq_true rfl))  (cf_466_0 v1.toInt64 0 3) true N h2 hq) ?_
  refine g_zeq (tg := 19) rfl ms_599_19 hC (fun h3 hC => ?_) (fun h3 hC => ?_)
  · have hp := hp.1 h3
    refine g_iconst mzi_0 ?_
    exact g_iret rfl (hr _ _ hC)
  · have hp := hp.2 h3
    refine g_iconst mzi_0 (g_istore_n (Nat.le_of_ble_eq_true rfl) rfl (g_iconst mzi_0 (g_istore_n (Nat.le_of_ble_eq_true rfl) rfl ?_)))
    refine g_weak ?_ (g_cl (cg_599_23 hd hS hR v1 0 0 ((cf_462_0 (cf_466_0 v1.toInt64 0 3) true N).2) hr hp hC))
    exact ⟨rfl, rfl, rfl, rfl, trivial⟩
theorem cs_599 (hd : 2 ≤ d) (hS : mz_extR S 342) (hR : mz_rok R 342)  (v1 : Int32) (N : mz_N) (hp : cp_599_0 v1 N) (hq : Q (.inl (some (.int ((cf_599_0 v1 N).1)))) (mz_k S R ((cf_599_0 v1 N).2) b t)) : mz_Ed (mz_X0 L xs) d 599 [.ref 232, .int v1] (mz_k S R N b t) Q :=
  by
  refine g_in mzq_599 (Nat.le_of_ble_eq_true rfl) (Nat.le_of_ble_eq_true rfl) (Nat.le_trans (Nat.le_of_ble_eq_true rfl) hd) ?_
  refine g_weak ?_ (cg_599_0 (d := d - 1) (by omega) hS hR v1 N (C0 := fun z => Q (.inl (some (.int z.1))) (mz_k S R z.2 b t)) (fun _ _ h => h) hp hq)
  exact ⟨rfl, rfl, trivial⟩
/-! 600 KeptHouseModel.disk (III)I -/
theorem ms_600_0 : mz_sf mk_600 0 = mk_600 := mz_sf_zero _
theorem ms_600_39 : mz_sf mk_600 39 = mt_600_39 := mz_sf_add ms_600_0 (t := 39) rfl rfl
theorem ms_600_40 : mz_sf mk_600 40 = mt_600_40 := mz_sf_add ms_600_39 (t := 1) rfl rfl
theorem ms_600_49 : mz_sf mk_600 49 = mt_600_49 := mz_sf_add ms_600_40 (t := 9) rfl rfl
set_option maxRecDepth 100000 in
theorem mzq_600 : mz_PG0 600 = some (12, ⟨"KeptHouseModel", "disk", "(III)I"⟩, prog_14_method_185_code, 4, some .int, [], mk_600, []) := rfl
theorem cg_600_40 (hd : 1 ≤ d) (hS : mz_extR S 342) (hR : mz_rok R 342)  (s1 : Bool) (v1 : Int32) (v2 : Int32) (v3 : Int32) (N : mz_N) {C0 : (Int32 × mz_N) → Prop} (hr : ∀ (w : Int32) (N2 : mz_N), C0 (w, N2) → Q (.inl (some (.int w))) (mz_k S R N2 b t)) (hp : cp_600_40 s1 v1 v2 v3 N) (hC : C0 (cf_600_40 s1 v1 v2 v3 N)) : mz_G (d, mz_X0 L xs, some .int, [], mk_600, 4, Q) 40 mt_600_40 [(0, .ref 232), (1, .int v1), (2, .int v2), (3, .int v3)] [.int (mz_b01 s1), .ref 232] false (mz_k S R N b t) := by
  unfold cf_600_40 at hC
  unfold cp_600_40 at hp
  refine g_iconst mzi_1 ?_
  obtain ⟨h1, hp⟩ := hp
  refine g_v3v (Nat.le_of_ble_eq_true rfl) (mz_at hS (Nat.le_of_ble_eq_true rfl) mzcS_232) (fun _ hq => cs_462 (Nat.le_trans (Nat.le_of_ble_eq_true rfl) hd) (hS.le (Nat.le_of_ble_eq_true rfl)) (hR.le (Nat.le_of_ble_eq_true rfl))  s1 true N h1 hq) ?_
  refine g_zeq (tg := 49) rfl ms_600_49 hC (fun h2 hC => ?_) (fun h2 hC => ?_)
  · have hp := hp.1 h2
    refine g_iconst mzi_0 ?_
    exact g_iret rfl (hr _ _ hC)
  · have hp := hp.2 h2
    refine g_aload_n rfl (g_getR (mz_at hS (Nat.le_of_ble_eq_true rfl) mzcS_232) mzcf_12_129 (mz_rb hR (Nat.le_of_ble_eq_true rfl) rfl mzcR_232_129) (g_sipush mzs_9600 (g_iload_n rfl (g_imul (g_bipush mzb_48 (g_iload_n rfl (g_imul ?_)))))))
    refine g_iadd (g_iload_n rfl (g_iadd ?_))
    have h3 := hp
    refine g_bald (mz_at hS (Nat.le_of_ble_eq_true rfl) mzcS_329) h3 (g_sipush mzs_255 (g_iand ?_))
    exact g_iret rfl (hr _ _ hC)
theorem cg_600_39 (hd : 1 ≤ d) (hS : mz_extR S 342) (hR : mz_rok R 342)  (v1 : Int32) (v2 : Int32) (v3 : Int32) (N : mz_N) {C0 : (Int32 × mz_N) → Prop} (hr : ∀ (w : Int32) (N2 : mz_N), C0 (w, N2) → Q (.inl (some (.int w))) (mz_k S R N2 b t)) (hp : cp_600_39 v1 v2 v3 N) (hC : C0 (cf_600_39 v1 v2 v3 N)) : mz_G (d, mz_X0 L xs, some .int, [], mk_600, 4, Q) 39 mt_600_39 [(0, .ref 232), (1, .int v1), (2, .int v2), (3, .int v3)] [.ref 232] false (mz_k S R N b t) := by
  unfold cf_600_39 at hC
  unfold cp_600_39 at hp
  refine g_iconst mzi_0 ?_
  refine g_weak ?_ (g_cl (cg_600_40 hd hS hR false v1 v2 v3 N hr hp hC))
  exact ⟨rfl, rfl, rfl, rfl, trivial⟩
theorem cg_600_0 (hd : 1 ≤ d) (hS : mz_extR S 342) (hR : mz_rok R 342)  (v1 : Int32) (v2 : Int32) (v3 : Int32) (N : mz_N) {C0 : (Int32 × mz_N) → Prop} (hr : ∀ (w : Int32) (N2 : mz_N), C0 (w, N2) → Q (.inl (some (.int w))) (mz_k S R N2 b t)) (hp : cp_600_0 v1 v2 v3 N) (hC : C0 (cf_600_0 v1 v2 v3 N)) : mz_G (d, mz_X0 L xs, some .int, [], mk_600, 4, Q) 0 mk_600 [(0, .ref 232), (1, .int v1), (2, .int v2), (3, .int v3)] [] true (mz_k S R N b t) := by
  unfold cf_600_0 at hC
  unfold cp_600_0 at hp
  refine g_aload_n rfl (g_iload_n rfl (g_i2l (g_lconst mzl_0 (g_lconst mzl_1 ?_))))
  refine g_s3v (Nat.le_of_ble_eq_true rfl) (fun _ hq => cs_466 (Nat.le_trans (Nat.le_of_ble_eq_true rfl) hd) (hS.le (Nat.le_of_ble_eq_true rfl)) (hR.le (Nat.le_of_ble_eq_true rfl))  v1.toInt64 0 1 trivial hq) ?_
  refine g_zeq (tg := 39) rfl ms_600_39 hC (fun h2 hC => ?_) (fun h2 hC => ?_)
  · have hp := hp.1 h2
    refine g_iload_n rfl (g_i2l (g_lconst mzl_0 (g_con3 ?_)))
    refine g_s3v (Nat.le_of_ble_eq_true rfl) (fun _ hq => cs_466 (Nat.le_trans (Nat.le_of_ble_eq_true rfl) hd) (hS.le (Nat.le_of_ble_eq_true rfl)) (hR.le (Nat.le_of_ble_eq_true rfl))  v2.toInt64 0 199 trivial hq) ?_
    refine g_zeq (tg := 39) rfl ms_600_39 hC (fun h4 hC => ?_) (fun h4 hC => ?_)
    · have hp := hp.1 h4
      refine g_iload_n rfl (g_i2l (g_lconst mzl_0 (g_con3 ?_)))
      refine g_s3v (Nat.le_of_ble_eq_true rfl) (fun _ hq => cs_466 (Nat.le_trans (Nat.le_of_ble_eq_true rfl) hd) (hS.le (Nat.le_of_ble_eq_true rfl)) (hR.le (Nat.le_of_ble_eq_true rfl))  v3.toInt64 0 47 trivial hq) ?_
      refine g_zeq (tg := 39) rfl ms_600_39 hC (fun h6 hC => ?_) (fun h6 hC => ?_)
      · have hp := hp.1 h6
        refine g_iconst mzi_1 (g_goto (tg := 40) rfl ms_600_40 ?_)
        refine g_weak ?_ (g_cl (cg_600_40 hd hS hR true v1 v2 v3 N hr hp hC))
        exact ⟨rfl, rfl, rfl, rfl, trivial⟩
      · have hp := hp.2 h6
        refine g_weak ?_ (g_cl (cg_600_39 hd hS hR v1 v2 v3 N hr hp hC))
        exact ⟨rfl, rfl, rfl, rfl, trivial⟩
    · have hp := hp.2 h4
      refine g_weak ?_ (g_cl (cg_600_39 hd hS hR v1 v2 v3 N hr hp hC))
      exact ⟨rfl, rfl, rfl, rfl, trivial⟩
  · have hp := hp.2 h2
    refine g_weak ?_ (g_cl (cg_600_39 hd hS hR v1 v2 v3 N hr hp hC))
    exact ⟨rfl, rfl, rfl, rfl, trivial⟩
theorem cs_600 (hd : 2 ≤ d) (hS : mz_extR S 342) (hR : mz_rok R 342)  (v1 : Int32) (v2 : Int32) (v3 : Int32) (N : mz_N) (hp : cp_600_0 v1 v2 v3 N) (hq : Q (.inl (some (.int ((cf_600_0 v1 v2 v3 N).1)))) (mz_k S R ((cf_600_0 v1 v2 v3 N).2) b t)) : mz_Ed (mz_X0 L xs) d 600 [.ref 232, .int v1, .int v2, .int v3] (mz_k S R N b t) Q :=
  by
  refine g_in mzq_600 (Nat.le_of_ble_eq_true rfl) (Nat.le_of_ble_eq_true rfl) (Nat.le_trans (Nat.le_of_ble_eq_true rfl) hd) ?_
  refine g_weak ?_ (cg_600_0 (d := d - 1) (by omega) hS hR v1 v2 v3 N (C0 := fun z => Q (.inl (some (.int z.1))) (mz_k S R z.2 b t)) (fun _ _ h => h) hp hq)
  exact ⟨rfl, rfl, rfl, rfl, trivial⟩
/-! 601 KeptHouseModel.image ()I -/
theorem ms_601_0 : mz_sf mk_601 0 = mk_601 := mz_sf_zero _
theorem ms_601_9 : mz_sf mk_601 9 = mt_601_9 := mz_sf_add ms_601_0 (t := 9) rfl rfl
theorem ms_601_18 : mz_sf mk_601 18 = mt_601_18 := mz_sf_add ms_601_9 (t := 9) rfl rfl
theorem ms_601_51 : mz_sf mk_601 51 = mt_601_51 := mz_sf_add ms_601_18 (t := 33) rfl rfl
theorem ms_601_72 : mz_sf mk_601 72 = mt_601_72 := mz_sf_add ms_601_51 (t := 21) rfl rfl
theorem ms_601_74 : mz_sf mk_601 74 = mt_601_74 := mz_sf_add ms_601_72 (t := 2) rfl rfl
theorem ms_601_104 : mz_sf mk_601 104 = mt_601_104 := mz_sf_add ms_601_74 (t := 30) rfl rfl
theorem ms_601_110 : mz_sf mk_601 110 = mt_601_110 := mz_sf_add ms_601_104 (t := 6) rfl rfl
theorem ms_601_121 : mz_sf mk_601 121 = mt_601_121 := mz_sf_add ms_601_110 (t := 11) rfl rfl
theorem ms_601_127 : mz_sf mk_601 127 = mt_601_127 := mz_sf_add ms_601_121 (t := 6) rfl rfl
theorem ms_601_163 : mz_sf mk_601 163 = mt_601_163 := mz_sf_add ms_601_127 (t := 36) rfl rfl
set_option maxRecDepth 100000 in
theorem mzq_601 : mz_PG0 601 = some (12, ⟨"KeptHouseModel", "image", "()I"⟩, prog_14_method_194_code, 4, some .int, [], mk_601, []) := rfl
theorem cg_601_104 (hd : 2 ≤ d) (hS : mz_extR S 342) (hR : mz_rok R 342)  (v1 : Int32) (v2 : Int32) (v3 : Int32) (N : mz_N) {C0 : (Int32 × mz_N) → Prop} (hr : ∀ (w : Int32) (N2 : mz_N), C0 (w, N2) → Q (.inl (some (.int w))) (mz_k S R N2 b t)) {C1 : ((Int32 × Int32 × mz_N) ⊕ (Int32 × mz_N)) → Prop} (hc1 : ∀ s2, C1 (.inl s2) → mz_G (d, mz_X0 L xs, some .int, [], mk_601, 4, Q) 18 mt_601_18 [(0, .ref 232), (1, .int s2.1), (2, .int s2.2.1)] [] false (mz_k S R s2.2.2 b t)) (hx1 : ∀ z, C1 (.inr z) → C0 z) {C2 : ((Int32 × mz_N) ⊕ ((Int32 × Int32 × mz_N) ⊕ (Int32 × mz_N))) → Prop} (hc2 : ∀ s2, C2 (.inl s2) → mz_G (d, mz_X0 L xs, some .int, [], mk_601, 4, Q) 74 mt_601_74 [(0, .ref 232), (1, .int v1), (2, .int v2), (3, .int s2.1)] [] false (mz_k S R s2.2 b t)) (hx2 : ∀ z, C2 (.inr z) → C1 z) (hp : cp_601_104 v1 v2 v3 N) (hC : C2 (cf_601_104 v1 v2 v3 N)) : mz_G (d, mz_X0 L xs, some .int, [], mk_601, 4, Q) 104 mt_601_104 [(0, .ref 232), (1, .int v1), (2, .int v2), (3, .int v3)] [] false (mz_k S R N b t) := by
  unfold cf_601_104 at hC
  unfold cp_601_104 at hp
  refine g_iinc rfl mzi_1 (Nat.le_of_ble_eq_true rfl) rfl (g_goto (tg := 74) rfl ms_601_74 ?_)
  refine g_weak ?_ (g_cl (hc2 ((v3 + 1), N) hC))
  exact ⟨rfl, rfl, rfl, rfl, trivial⟩
theorem cg_601_121 (hd : 2 ≤ d) (hS : mz_extR S 342) (hR : mz_rok R 342)  (v1 : Int32) (v2 : Int32) (N : mz_N) {C0 : (Int32 × mz_N) → Prop} (hr : ∀ (w : Int32) (N2 : mz_N), C0 (w, N2) → Q (.inl (some (.int w))) (mz_k S R N2 b t)) {C1 : ((Int32 × Int32 × mz_N) ⊕ (Int32 × mz_N)) → Prop} (hc1 : ∀ s2, C1 (.inl s2) → mz_G (d, mz_X0 L xs, some .int, [], mk_601, 4, Q) 18 mt_601_18 [(0, .ref 232), (1, .int s2.1), (2, .int s2.2.1)] [] false (mz_k S R s2.2.2 b t)) (hx1 : ∀ z, C1 (.inr z) → C0 z) (hp : cp_601_121 v1 v2 N) (hC : C1 (cf_601_121 v1 v2 N)) : mz_G (d, mz_X0 L xs, some .int, [], mk_601, 4, Q) 121 mt_601_121 [(0, .ref 232), (1, .int v1), (2, .int v2)] [] false (mz_k S R N b t) := by
  unfold cf_601_121 at hC
  unfold cp_601_121 at hp
  refine g_iinc rfl mzi_1 (Nat.le_of_ble_eq_true rfl) rfl (g_goto (tg := 18) rfl ms_601_18 ?_)
  refine g_weak ?_ (g_cl (hc1 (v1, (v2 + 1), N) hC))
  exact ⟨rfl, rfl, rfl, trivial⟩
theorem cb_601_74 (hd : 2 ≤ d) (hS : mz_extR S 342) (hR : mz_rok R 342)  (v1 : Int32) (v2 : Int32) (s : Int32 × mz_N) {C0 : (Int32 × mz_N) → Prop} (hr : ∀ (w : Int32) (N2 : mz_N), C0 (w, N2) → Q (.inl (some (.int w))) (mz_k S R N2 b t)) {C1 : ((Int32 × Int32 × mz_N) ⊕ (Int32 × mz_N)) → Prop} (hc1 : ∀ s2, C1 (.inl s2) → mz_G (d, mz_X0 L xs, some .int, [], mk_601, 4, Q) 18 mt_601_18 [(0, .ref 232), (1, .int s2.1), (2, .int s2.2.1)] [] false (mz_k S R s2.2.2 b t)) (hx1 : ∀ z, C1 (.inr z) → C0 z) {C2 : ((Int32 × mz_N) ⊕ ((Int32 × Int32 × mz_N) ⊕ (Int32 × mz_N))) → Prop} (hc2 : ∀ s2, C2 (.inl s2) → mz_G (d, mz_X0 L xs, some .int, [], mk_601, 4, Q) 74 mt_601_74 [(0, .ref 232), (1, .int v1), (2, .int v2), (3, .int s2.1)] [] false (mz_k S R s2.2 b t)) (hx2 : ∀ z, C2 (.inr z) → C1 z) (hp : cd_601_74 v1 v2 s) (hC : C2 (cq_601_74 v1 v2 s)) : mz_G (d, mz_X0 L xs, some .int, [], mk_601, 4, Q) 74 mt_601_74 [(0, .ref 232), (1, .int v1), (2, .int v2), (3, .int s.1)] [] false (mz_k S R s.2 b t) := by
  unfold cq_601_74 at hC
  unfold cd_601_74 at hp
  refine g_iload_n rfl (g_bipush mzb_28 ?_)
  refine g_icge (tg := 110) rfl ms_601_110 hC (fun h1 hC => ?_) (fun h1 hC => ?_)
  · have hp := hp.1 h1
    refine g_aload_n rfl (g_getR (mz_at hS (Nat.le_of_ble_eq_true rfl) mzcS_232) mzcf_12_140 (mz_rb hR (Nat.le_of_ble_eq_true rfl) rfl mzcR_232_140) (g_aload_n rfl (g_getI (mz_at hS (Nat.le_of_ble_eq_true rfl) mzcS_232) mzcf_12_141 (g_iconst mzi_2 (g_iadd (g_iload_n rfl (g_iadd ?_)))))))
    refine g_aload_n rfl (g_getR (mz_at hS (Nat.le_of_ble_eq_true rfl) mzcS_232) mzcf_12_131 (mz_rb hR (Nat.le_of_ble_eq_true rfl) rfl mzcR_232_131) (g_bipush mzb_28 (g_iload_n rfl (g_imul (g_iload_n rfl (g_iadd ?_))))))
    obtain ⟨h2, hp⟩ := hp
    refine g_bald (mz_at hS (Nat.le_of_ble_eq_true rfl) mzcS_331) h2 ?_
    obtain ⟨h3, hp⟩ := hp
    refine g_bast (mz_at hS (Nat.le_of_ble_eq_true rfl) mzcS_334) h3 ?_
    refine g_weak ?_ (g_cl (cg_601_104 hd hS hR v1 v2 s.1 (mz_wI s.2 334 (((s.2.1 232 141) + 2) + s.1) (mz_nb (mz_gI s.2 331 ((28 * v2) + s.1)))) hr hc1 hx1 hc2 hx2 hp hC))
    exact ⟨rfl, rfl, rfl, rfl, trivial⟩
  · have hp := hp.2 h1
    refine g_aload_n rfl (g_dup rfl (g_getI (mz_at hS (Nat.le_of_ble_eq_true rfl) mzcS_232) mzcf_12_141 (g_bipush mzb_30 (g_iadd (g_putI (mz_at hS (Nat.le_of_ble_eq_true rfl) mzcS_232) mzcf_12_141 ?_)))))
    refine g_weak ?_ (g_cl (cg_601_121 hd hS hR v1 v2 (mz_pI s.2 232 141 ((s.2.1 232 141) + 30)) hr hc1 hx1 hp (hx2 _ hC)))
    exact ⟨rfl, rfl, rfl, trivial⟩
theorem cg_601_74 (hd : 2 ≤ d) (hS : mz_extR S 342) (hR : mz_rok R 342)  (v1 : Int32) (v2 : Int32) (v3 : Int32) (N : mz_N) {C0 : (Int32 × mz_N) → Prop} (hr : ∀ (w : Int32) (N2 : mz_N), C0 (w, N2) → Q (.inl (some (.int w))) (mz_k S R N2 b t)) {C1 : ((Int32 × Int32 × mz_N) ⊕ (Int32 × mz_N)) → Prop} (hc1 : ∀ s2, C1 (.inl s2) → mz_G (d, mz_X0 L xs, some .int, [], mk_601, 4, Q) 18 mt_601_18 [(0, .ref 232), (1, .int s2.1), (2, .int s2.2.1)] [] false (mz_k S R s2.2.2 b t)) (hx1 : ∀ z, C1 (.inr z) → C0 z) (hp : cp_601_74 v1 v2 v3 N) (hC : C1 (cf_601_74 v1 v2 v3 N)) : mz_G (d, mz_X0 L xs, some .int, [], mk_601, 4, Q) 74 mt_601_74 [(0, .ref 232), (1, .int v1), (2, .int v2), (3, .int v3)] [] false (mz_k S R N b t) := by
  obtain ⟨n, hn⟩ := hp
  exact g_loop (G := fun s => mz_G (d, mz_X0 L xs, some .int, [], mk_601, 4, Q) 74 mt_601_74 [(0, .ref 232), (1, .int v1), (2, .int v2), (3, .int s.1)] [] false (mz_k S R s.2 b t)) (C := C1) (fun C2 hc hx s hP hC => cb_601_74 hd hS hR v1 v2 s hr hc1 hx1 hc hx hP hC) n (v3, N) hn hC
theorem cg_601_72 (hd : 2 ≤ d) (hS : mz_extR S 342) (hR : mz_rok R 342)  (v1 : Int32) (v2 : Int32) (N : mz_N) {C0 : (Int32 × mz_N) → Prop} (hr : ∀ (w : Int32) (N2 : mz_N), C0 (w, N2) → Q (.inl (some (.int w))) (mz_k S R N2 b t)) {C1 : ((Int32 × Int32 × mz_N) ⊕ (Int32 × mz_N)) → Prop} (hc1 : ∀ s2, C1 (.inl s2) → mz_G (d, mz_X0 L xs, some .int, [], mk_601, 4, Q) 18 mt_601_18 [(0, .ref 232), (1, .int s2.1), (2, .int s2.2.1)] [] false (mz_k S R s2.2.2 b t)) (hx1 : ∀ z, C1 (.inr z) → C0 z) (hp : cp_601_72 v1 v2 N) (hC : C1 (cf_601_72 v1 v2 N)) : mz_G (d, mz_X0 L xs, some .int, [], mk_601, 4, Q) 72 mt_601_72 [(0, .ref 232), (1, .int v1), (2, .int v2)] [] false (mz_k S R N b t) := by
  unfold cf_601_72 at hC
  unfold cp_601_72 at hp
  refine g_iconst mzi_0 (g_istore_n (Nat.le_of_ble_eq_true rfl) rfl ?_)
  refine g_weak ?_ (g_cl (cg_601_74 hd hS hR v1 v2 0 N hr hc1 hx1 hp hC))
  exact ⟨rfl, rfl, rfl, rfl, trivial⟩
theorem cg_601_163 (hd : 2 ≤ d) (hS : mz_extR S 342) (hR : mz_rok R 342)  (N : mz_N) {C0 : (Int32 × mz_N) → Prop} (hr : ∀ (w : Int32) (N2 : mz_N), C0 (w, N2) → Q (.inl (some (.int w))) (mz_k S R N2 b t)) (hp : cp_601_163 N) (hC : C0 (cf_601_163 N)) : mz_G (d, mz_X0 L xs, some .int, [], mk_601, 4, Q) 163 mt_601_163 [(0, .ref 232)] [] false (mz_k S R N b t) := by
  unfold cf_601_163 at hC
  unfold cp_601_163 at hp
  refine g_aload_n rfl (g_dup rfl (g_getI (mz_at hS (Nat.le_of_ble_eq_true rfl) mzcS_232) mzcf_12_141 (g_iconst mzi_4 (g_iadd (g_putI (mz_at hS (Nat.le_of_ble_eq_true rfl) mzcS_232) mzcf_12_141 (g_aload_n rfl (g_getI (mz_at hS (Nat.le_of_ble_eq_true rfl) mzcS_232) mzcf_12_141 ?_)))))))
  exact g_iret rfl (hr _ _ hC)
theorem cb_601_18 (hd : 2 ≤ d) (hS : mz_extR S 342) (hR : mz_rok R 342)   (s : Int32 × Int32 × mz_N) {C0 : (Int32 × mz_N) → Prop} (hr : ∀ (w : Int32) (N2 : mz_N), C0 (w, N2) → Q (.inl (some (.int w))) (mz_k S R N2 b t)) {C1 : ((Int32 × Int32 × mz_N) ⊕ (Int32 × mz_N)) → Prop} (hc1 : ∀ s2, C1 (.inl s2) → mz_G (d, mz_X0 L xs, some .int, [], mk_601, 4, Q) 18 mt_601_18 [(0, .ref 232), (1, .int s2.1), (2, .int s2.2.1)] [] false (mz_k S R s2.2.2 b t)) (hx1 : ∀ z, C1 (.inr z) → C0 z) (hp : cd_601_18  s) (hC : C1 (cq_601_18  s)) : mz_G (d, mz_X0 L xs, some .int, [], mk_601, 4, Q) 18 mt_601_18 [(0, .ref 232), (1, .int s.1), (2, .int s.2.1)] [] false (mz_k S R s.2.2 b t) := by
  unfold cq_601_18 at hC
  unfold cd_601_18 at hp
  refine g_iload_n rfl (g_sipush mzs_135 ?_)
  refine g_icge (tg := 127) rfl ms_601_127 hC (fun h1 hC => ?_) (fun h1 hC => ?_)
  · have hp := hp.1 h1
    refine g_aload_n rfl (g_getR (mz_at hS (Nat.le_of_ble_eq_true rfl) mzcS_232) mzcf_12_130 (mz_rb hR (Nat.le_of_ble_eq_true rfl) rfl mzcR_232_130) (g_iload_n rfl ?_))
    obtain ⟨h2, hp⟩ := hp
    obtain ⟨h3, hp⟩ := hp
    refine g_zald (mz_at hS (Nat.le_of_ble_eq_true rfl) mzcS_330) h2 h3 ?_
    refine g_zeq (tg := 121) rfl ms_601_121 hC (fun h4 hC => ?_) (fun h4 hC => ?_)
    · have hp := hp.1 h4
      refine g_iinc rfl mzi_1 (Nat.le_of_ble_eq_true rfl) rfl (g_aload_n rfl (g_getR (mz_at hS (Nat.le_of_ble_eq_true rfl) mzcS_232) mzcf_12_140 (mz_rb hR (Nat.le_of_ble_eq_true rfl) rfl mzcR_232_140) (g_aload_n rfl (g_getI (mz_at hS (Nat.le_of_ble_eq_true rfl) mzcS_232) mzcf_12_141 (g_iload_n rfl ?_)))))
      obtain ⟨h5, hp⟩ := hp
      refine g_s1v (Nat.le_of_ble_eq_true rfl) (fun _ hq => cs_419 (Nat.le_trans (Nat.le_of_ble_eq_true rfl) hd) (hS.le (Nat.le_of_ble_eq_true rfl)) (hR.le (Nat.le_of_ble_eq_true rfl))  s.2.1 h5 hq) (g_i2b ?_)
      obtain ⟨h6, hp⟩ := hp
      refine g_bast (mz_at hS (Nat.le_of_ble_eq_true rfl) mzcS_334) h6 (g_aload_n rfl (g_getR (mz_at hS (Nat.le_of_ble_eq_true rfl) mzcS_232) mzcf_12_140 (mz_rb hR (Nat.le_of_ble_eq_true rfl) rfl mzcR_232_140) (g_aload_n rfl (g_getI (mz_at hS (Nat.le_of_ble_eq_true rfl) mzcS_232) mzcf_12_141 (g_iconst mzi_1 (g_iadd (g_iload_n rfl ?_)))))))
      refine g_iload_n rfl ?_
      obtain ⟨h7, hp⟩ := hp
      refine g_s1v (Nat.le_of_ble_eq_true rfl) (fun _ hq => cs_419 (Nat.le_trans (Nat.le_of_ble_eq_true rfl) hd) (hS.le (Nat.le_of_ble_eq_true rfl)) (hR.le (Nat.le_of_ble_eq_true rfl))  s.2.1 h7 hq) ?_
      refine g_s1v (Nat.le_of_ble_eq_true rfl) (fun _ hq => cs_420 (Nat.le_trans (Nat.le_of_ble_eq_true rfl) hd) (hS.le (Nat.le_of_ble_eq_true rfl)) (hR.le (Nat.le_of_ble_eq_true rfl))  (cf_419_0 s.2.1) trivial hq) (g_isub (g_i2b ?_))
      obtain ⟨h9, hp⟩ := hp
      refine g_bast (mz_at hS (Nat.le_of_ble_eq_true rfl) mzcS_334) h9 ?_
      refine g_weak ?_ (g_cl (cg_601_72 hd hS hR (s.1 + 1) s.2.1 (mz_wI (mz_wI s.2.2 334 (s.2.2.1 232 141) (mz_nb (mz_i2b (cf_419_0 s.2.1)))) 334 (((mz_wI s.2.2 334 (s.2.2.1 232 141) (mz_nb (mz_i2b (cf_419_0 s.2.1)))).1 232 141) + 1) (mz_nb (mz_i2b (s.2.1 - (cf_420_0 (cf_419_0 s.2.1)))))) hr hc1 hx1 hp hC))
      exact ⟨rfl, rfl, rfl, trivial⟩
    · have hp := hp.2 h4
      refine g_weak ?_ (g_cl (cg_601_121 hd hS hR s.1 s.2.1 s.2.2 hr hc1 hx1 hp hC))
      exact ⟨rfl, rfl, rfl, trivial⟩
  · have hp := hp.2 h1
    refine g_aload_n rfl (g_getR (mz_at hS (Nat.le_of_ble_eq_true rfl) mzcS_232) mzcf_12_140 (mz_rb hR (Nat.le_of_ble_eq_true rfl) rfl mzcR_232_140) (g_iconst mzi_0 (g_iconst mzi_2 (g_iload_n rfl (g_i2l ?_)))))
    obtain ⟨h10, hp⟩ := hp
    refine g_s4n (Nat.le_of_ble_eq_true rfl) (fun _ hq => cs_412 (Nat.le_trans (Nat.le_of_ble_eq_true rfl) hd) (hS.le (Nat.le_of_ble_eq_true rfl)) (hR.le (Nat.le_of_ble_eq_true rfl)) 334 4100 (mz_at hS (Nat.le_of_ble_eq_true rfl) mzcS_334) 0 2 s.1.toInt64 s.2.2 h10 hq) (g_aload_n rfl (g_getR (mz_at hS (Nat.le_of_ble_eq_true rfl) mzcS_232) mzcf_12_140 (mz_rb hR (Nat.le_of_ble_eq_true rfl) rfl mzcR_232_140) (g_aload_n rfl (g_getI (mz_at hS (Nat.le_of_ble_eq_true rfl) mzcS_232) mzcf_12_141 (g_iconst mzi_4 (g_aload_n rfl (g_getR (mz_at hS (Nat.le_of_ble_eq_true rfl) mzcS_232) mzcf_12_140 (mz_rb hR (Nat.le_of_ble_eq_true rfl) rfl mzcR_232_140) ?_)))))))
    refine g_iconst mzi_0 (g_aload_n rfl (g_getI (mz_at hS (Nat.le_of_ble_eq_true rfl) mzcS_232) mzcf_12_141 ?_))
    obtain ⟨h11, hp⟩ := hp
    refine g_s3v (Nat.le_of_ble_eq_true rfl) (fun _ hq => cs_413 (Nat.le_trans (Nat.le_of_ble_eq_true rfl) hd) (hS.le (Nat.le_of_ble_eq_true rfl)) (hR.le (Nat.le_of_ble_eq_true rfl)) 334 4100 (mz_at hS (Nat.le_of_ble_eq_true rfl) mzcS_334) 0 ((cf_412_0 334 4100 0 2 s.1.toInt64 s.2.2).1 232 141) (cf_412_0 334 4100 0 2 s.1.toInt64 s.2.2) h11 hq) (g_i2l ?_)
    obtain ⟨h12, hp⟩ := hp
    refine g_s4n (Nat.le_of_ble_eq_true rfl) (fun _ hq => cs_412 (Nat.le_trans (Nat.le_of_ble_eq_true rfl) hd) (hS.le (Nat.le_of_ble_eq_true rfl)) (hR.le (Nat.le_of_ble_eq_true rfl)) 334 4100 (mz_at hS (Nat.le_of_ble_eq_true rfl) mzcS_334) ((cf_412_0 334 4100 0 2 s.1.toInt64 s.2.2).1 232 141) 4 ((cf_413_0 334 4100 0 ((cf_412_0 334 4100 0 2 s.1.toInt64 s.2.2).1 232 141) (cf_412_0 334 4100 0 2 s.1.toInt64 s.2.2)).toInt64) (cf_412_0 334 4100 0 2 s.1.toInt64 s.2.2) h12 hq) ?_
    refine g_weak ?_ (g_cl (cg_601_163 hd hS hR (cf_412_0 334 4100 ((cf_412_0 334 4100 0 2 s.1.toInt64 s.2.2).1 232 141) 4 ((cf_413_0 334 4100 0 ((cf_412_0 334 4100 0 2 s.1.toInt64 s.2.2).1 232 141) (cf_412_0 334 4100 0 2 s.1.toInt64 s.2.2)).toInt64) (cf_412_0 334 4100 0 2 s.1.toInt64 s.2.2)) hr hp (hx1 _ hC)))
    exact ⟨rfl, trivial⟩
theorem cg_601_18 (hd : 2 ≤ d) (hS : mz_extR S 342) (hR : mz_rok R 342)  (v1 : Int32) (v2 : Int32) (N : mz_N) {C0 : (Int32 × mz_N) → Prop} (hr : ∀ (w : Int32) (N2 : mz_N), C0 (w, N2) → Q (.inl (some (.int w))) (mz_k S R N2 b t)) (hp : cp_601_18 v1 v2 N) (hC : C0 (cf_601_18 v1 v2 N)) : mz_G (d, mz_X0 L xs, some .int, [], mk_601, 4, Q) 18 mt_601_18 [(0, .ref 232), (1, .int v1), (2, .int v2)] [] false (mz_k S R N b t) := by
  obtain ⟨n, hn⟩ := hp
  exact g_loop (G := fun s => mz_G (d, mz_X0 L xs, some .int, [], mk_601, 4, Q) 18 mt_601_18 [(0, .ref 232), (1, .int s.1), (2, .int s.2.1)] [] false (mz_k S R s.2.2 b t)) (C := C0) (fun C2 hc hx s hP hC => cb_601_18 hd hS hR  s hr hc hx hP hC) n (v1, v2, N) hn hC
theorem cg_601_0 (hd : 2 ≤ d) (hS : mz_extR S 342) (hR : mz_rok R 342)  (N : mz_N) {C0 : (Int32 × mz_N) → Prop} (hr : ∀ (w : Int32) (N2 : mz_N), C0 (w, N2) → Q (.inl (some (.int w))) (mz_k S R N2 b t)) (hp : cp_601_0 N) (hC : C0 (cf_601_0 N)) : mz_G (d, mz_X0 L xs, some .int, [], mk_601, 4, Q) 0 mk_601 [(0, .ref 232)] [] true (mz_k S R N b t) := by
  unfold cf_601_0 at hC
  unfold cp_601_0 at hp
  refine g_aload_n rfl ?_
  obtain ⟨h1, hp⟩ := hp
  refine g_v1v (Nat.le_of_ble_eq_true rfl) (mz_at hS (Nat.le_of_ble_eq_true rfl) mzcS_232) (fun _ hq => cs_484 (Nat.le_trans (Nat.le_of_ble_eq_true rfl) hd) (hS.le (Nat.le_of_ble_eq_true rfl)) (hR.le (Nat.le_of_ble_eq_true rfl))  N h1 hq) ?_
  refine g_zeq (tg := 9) rfl ms_601_9 hC (fun h2 hC => ?_) (fun h2 hC => ?_)
  · have hp := hp.1 h2
    refine g_iconst mzi_0 ?_
    exact g_iret rfl (hr _ _ hC)
  · have hp := hp.2 h2
    refine g_iconst mzi_0 (g_istore_n (Nat.le_of_ble_eq_true rfl) rfl (g_aload_n rfl (g_iconst mzi_2 (g_putI (mz_at hS (Nat.le_of_ble_eq_true rfl) mzcS_232) mzcf_12_141 (g_iconst mzi_0 (g_istore_n (Nat.le_of_ble_eq_true rfl) rfl ?_))))))
    refine g_weak ?_ (g_cl (cg_601_18 hd hS hR 0 0 (mz_pI ((cf_484_0 N).2) 232 141 2) hr hp hC))
    exact ⟨rfl, rfl, rfl, trivial⟩
theorem cs_601 (hd : 3 ≤ d) (hS : mz_extR S 342) (hR : mz_rok R 342)  (N : mz_N) (hp : cp_601_0 N) (hq : Q (.inl (some (.int ((cf_601_0 N).1)))) (mz_k S R ((cf_601_0 N).2) b t)) : mz_Ed (mz_X0 L xs) d 601 [.ref 232] (mz_k S R N b t) Q :=
  by
  refine g_in mzq_601 (Nat.le_of_ble_eq_true rfl) (Nat.le_of_ble_eq_true rfl) (Nat.le_trans (Nat.le_of_ble_eq_true rfl) hd) ?_
  refine g_weak ?_ (cg_601_0 (d := d - 1) (by omega) hS hR N (C0 := fun z => Q (.inl (some (.int z.1))) (mz_k S R z.2 b t)) (fun _ _ h => h) hp hq)
  exact ⟨rfl, trivial⟩
end Fn35
