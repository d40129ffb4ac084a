/-! THE FUNCTIONS: written by program: each method comes to its function. -/
section Fn34
variable {L : Nat} {xs : Nat → Int32} {d : Nat} {S : mz_S} {R : Nat → Nat → Option Nat} {Q : mz_Q} {N : mz_N} {b : Bool} {t : Nat}
/-! 572 KeptHouseModel.order (II)I -/
theorem ms_572_0 : mz_sf mk_572 0 = mk_572 := mz_sf_zero _
theorem ms_572_29 : mz_sf mk_572 29 = mt_572_29 := mz_sf_add ms_572_0 (t := 29) rfl rfl
theorem ms_572_30 : mz_sf mk_572 30 = mt_572_30 := mz_sf_add ms_572_29 (t := 1) rfl rfl
theorem ms_572_39 : mz_sf mk_572 39 = mt_572_39 := mz_sf_add ms_572_30 (t := 9) rfl rfl
theorem ms_572_52 : mz_sf mk_572 52 = mt_572_52 := mz_sf_add ms_572_39 (t := 13) rfl rfl
theorem ms_572_72 : mz_sf mk_572 72 = mt_572_72 := mz_sf_add ms_572_52 (t := 20) rfl rfl
theorem ms_572_99 : mz_sf mk_572 99 = mt_572_99 := mz_sf_add ms_572_72 (t := 27) rfl rfl
set_option maxRecDepth 100000 in
theorem mzq_572 : mz_PG0 572 = some (12, ⟨"KeptHouseModel", "order", "(II)I"⟩, prog_14_method_135_code, 3, some .int, [], mk_572, []) := rfl
theorem cg_572_99 (hd : 1 ≤ d) (hS : mz_extR S 342) (hR : mz_rok R 342)  (N : mz_N) {C0 : (Int32 × mz_N) → Prop} (hr : ∀ (w : Int32) (N2 : mz_N), C0 (w, N2) → Q (.inl (some (.int w))) (mz_k S R N2 b t)) (hp : cp_572_99 N) (hC : C0 (cf_572_99 N)) : mz_G (d, mz_X0 L xs, some .int, [], mk_572, 3, Q) 99 mt_572_99 [(0, .ref 232)] [] false (mz_k S R N b t) := by
  unfold cf_572_99 at hC
  unfold cp_572_99 at hp
  refine g_aload_n rfl (g_getL (mz_at hS (Nat.le_of_ble_eq_true rfl) mzcS_232) mzcf_12_2 (g_l2i (g_sipush mzs_480 (g_iadd ?_))))
  exact g_iret rfl (hr _ _ hC)
theorem cg_572_72 (hd : 1 ≤ d) (hS : mz_extR S 342) (hR : mz_rok R 342)  (N : mz_N) {C0 : (Int32 × mz_N) → Prop} (hr : ∀ (w : Int32) (N2 : mz_N), C0 (w, N2) → Q (.inl (some (.int w))) (mz_k S R N2 b t)) (hp : cp_572_72 N) (hC : C0 (cf_572_72 N)) : mz_G (d, mz_X0 L xs, some .int, [], mk_572, 3, Q) 72 mt_572_72 [(0, .ref 232)] [] false (mz_k S R N b t) := by
  unfold cf_572_72 at hC
  unfold cp_572_72 at hp
  refine g_aload_n rfl (g_getR (mz_at hS (Nat.le_of_ble_eq_true rfl) mzcS_232) mzcf_12_99 (mz_rb hR (Nat.le_of_ble_eq_true rfl) rfl mzcR_232_99) (g_aload_n rfl (g_getI (mz_at hS (Nat.le_of_ble_eq_true rfl) mzcS_232) mzcf_12_96 (g_aload_n rfl (g_getL (mz_at hS (Nat.le_of_ble_eq_true rfl) mzcS_232) mzcf_12_2 (g_con3 (g_ladd ?_)))))))
  obtain ⟨h1, hp⟩ := hp
  refine g_last (mz_at hS (Nat.le_of_ble_eq_true rfl) mzcS_304) h1 (g_aload_n rfl (g_dup rfl (g_getI (mz_at hS (Nat.le_of_ble_eq_true rfl) mzcS_232) mzcf_12_96 (g_iconst mzi_1 (g_iadd (g_putI (mz_at hS (Nat.le_of_ble_eq_true rfl) mzcS_232) mzcf_12_96 ?_))))))
  refine g_weak ?_ (g_cl (cg_572_99 hd hS hR (mz_pI (mz_wL N 304 (N.1 232 96) ((N.2 232 2) + 480)) 232 96 (((mz_wL N 304 (N.1 232 96) ((N.2 232 2) + 480)).1 232 96) + 1)) hr hp hC))
  exact ⟨rfl, trivial⟩
theorem cg_572_30 (hd : 1 ≤ d) (hS : mz_extR S 342) (hR : mz_rok R 342)  (s1 : Bool) (v1 : Int32) (v2 : Int32) (N : mz_N) {C0 : (Int32 × mz_N) → Prop} (hr : ∀ (w : Int32) (N2 : mz_N), C0 (w, N2) → Q (.inl (some (.int w))) (mz_k S R N2 b t)) (hp : cp_572_30 s1 v1 v2 N) (hC : C0 (cf_572_30 s1 v1 v2 N)) : mz_G (d, mz_X0 L xs, some .int, [], mk_572, 3, Q) 30 mt_572_30 [(0, .ref 232), (1, .int v1), (2, .int v2)] [.int (mz_b01 s1), .ref 232] false (mz_k S R N b t) := by
  unfold cf_572_30 at hC
  unfold cp_572_30 at hp
  refine g_iconst mzi_1 ?_
  obtain ⟨h1, hp⟩ := hp
  refine g_v3v (Nat.le_of_ble_eq_true rfl) (mz_at hS (Nat.le_of_ble_eq_true rfl) mzcS_232) (fun _ hq => cs_462 (Nat.le_trans (Nat.le_of_ble_eq_true rfl) hd) (hS.le (Nat.le_of_ble_eq_true rfl)) (hR.le (Nat.le_of_ble_eq_true rfl))  s1 true N h1 hq) ?_
  refine g_zeq (tg := 39) rfl ms_572_39 hC (fun h2 hC => ?_) (fun h2 hC => ?_)
  · have hp := hp.1 h2
    refine g_iconst mzi_0 ?_
    exact g_iret rfl (hr _ _ hC)
  · have hp := hp.2 h2
    refine g_aload_n rfl (g_getI (mz_at hS (Nat.le_of_ble_eq_true rfl) mzcS_232) mzcf_12_96 (g_bipush mzb_8 ?_))
    refine g_icne (tg := 52) rfl ms_572_52 hC (fun h3 hC => ?_) (fun h3 hC => ?_)
    · have hp := hp.1 h3
      refine g_sipush mzs_m1003 ?_
      exact g_iret rfl (hr _ _ hC)
    · have hp := hp.2 h3
      refine g_aload_n rfl (g_getR (mz_at hS (Nat.le_of_ble_eq_true rfl) mzcS_232) mzcf_12_97 (mz_rb hR (Nat.le_of_ble_eq_true rfl) rfl mzcR_232_97) (g_aload_n rfl (g_getI (mz_at hS (Nat.le_of_ble_eq_true rfl) mzcS_232) mzcf_12_96 (g_iload_n rfl ?_))))
      obtain ⟨h4, hp⟩ := hp
      refine g_iast (mz_at hS (Nat.le_of_ble_eq_true rfl) mzcS_302) h4 (g_aload_n rfl (g_getR (mz_at hS (Nat.le_of_ble_eq_true rfl) mzcS_232) mzcf_12_98 (mz_rb hR (Nat.le_of_ble_eq_true rfl) rfl mzcR_232_98) (g_aload_n rfl (g_getI (mz_at hS (Nat.le_of_ble_eq_true rfl) mzcS_232) mzcf_12_96 (g_iload_n rfl ?_)))))
      obtain ⟨h5, hp⟩ := hp
      refine g_iast (mz_at hS (Nat.le_of_ble_eq_true rfl) mzcS_303) h5 ?_
      refine g_weak ?_ (g_cl (cg_572_72 hd hS hR (mz_wI (mz_wI ((cf_462_0 s1 true N).2) 302 (((cf_462_0 s1 true N).2).1 232 96) v1) 303 ((mz_wI ((cf_462_0 s1 true N).2) 302 (((cf_462_0 s1 true N).2).1 232 96) v1).1 232 96) v2) hr hp hC))
      exact ⟨rfl, trivial⟩
theorem cg_572_29 (hd : 1 ≤ d) (hS : mz_extR S 342) (hR : mz_rok R 342)  (v1 : Int32) (v2 : Int32) (N : mz_N) {C0 : (Int32 × mz_N) → Prop} (hr : ∀ (w : Int32) (N2 : mz_N), C0 (w, N2) → Q (.inl (some (.int w))) (mz_k S R N2 b t)) (hp : cp_572_29 v1 v2 N) (hC : C0 (cf_572_29 v1 v2 N)) : mz_G (d, mz_X0 L xs, some .int, [], mk_572, 3, Q) 29 mt_572_29 [(0, .ref 232), (1, .int v1), (2, .int v2)] [.ref 232] false (mz_k S R N b t) := by
  unfold cf_572_29 at hC
  unfold cp_572_29 at hp
  refine g_iconst mzi_0 ?_
  refine g_weak ?_ (g_cl (cg_572_30 hd hS hR false v1 v2 N hr hp hC))
  exact ⟨rfl, rfl, rfl, trivial⟩
theorem cg_572_0 (hd : 1 ≤ d) (hS : mz_extR S 342) (hR : mz_rok R 342)  (v1 : Int32) (v2 : Int32) (N : mz_N) {C0 : (Int32 × mz_N) → Prop} (hr : ∀ (w : Int32) (N2 : mz_N), C0 (w, N2) → Q (.inl (some (.int w))) (mz_k S R N2 b t)) (hp : cp_572_0 v1 v2 N) (hC : C0 (cf_572_0 v1 v2 N)) : mz_G (d, mz_X0 L xs, some .int, [], mk_572, 3, Q) 0 mk_572 [(0, .ref 232), (1, .int v1), (2, .int v2)] [] true (mz_k S R N b t) := by
  unfold cf_572_0 at hC
  unfold cp_572_0 at hp
  refine g_aload_n rfl (g_iload_n rfl (g_i2l (g_lconst mzl_0 (g_con3 ?_))))
  refine g_s3v (Nat.le_of_ble_eq_true rfl) (fun _ hq => cs_466 (Nat.le_trans (Nat.le_of_ble_eq_true rfl) hd) (hS.le (Nat.le_of_ble_eq_true rfl)) (hR.le (Nat.le_of_ble_eq_true rfl))  v1.toInt64 0 2 trivial hq) ?_
  refine g_zeq (tg := 29) rfl ms_572_29 hC (fun h2 hC => ?_) (fun h2 hC => ?_)
  · have hp := hp.1 h2
    refine g_iload_n rfl (g_i2l (g_lconst mzl_1 (g_con3 ?_)))
    refine g_s3v (Nat.le_of_ble_eq_true rfl) (fun _ hq => cs_466 (Nat.le_trans (Nat.le_of_ble_eq_true rfl) hd) (hS.le (Nat.le_of_ble_eq_true rfl)) (hR.le (Nat.le_of_ble_eq_true rfl))  v2.toInt64 1 9 trivial hq) ?_
    refine g_zeq (tg := 29) rfl ms_572_29 hC (fun h4 hC => ?_) (fun h4 hC => ?_)
    · have hp := hp.1 h4
      refine g_iconst mzi_1 (g_goto (tg := 30) rfl ms_572_30 ?_)
      refine g_weak ?_ (g_cl (cg_572_30 hd hS hR true v1 v2 N hr hp hC))
      exact ⟨rfl, rfl, rfl, trivial⟩
    · have hp := hp.2 h4
      refine g_weak ?_ (g_cl (cg_572_29 hd hS hR v1 v2 N hr hp hC))
      exact ⟨rfl, rfl, rfl, trivial⟩
  · have hp := hp.2 h2
    refine g_weak ?_ (g_cl (cg_572_29 hd hS hR v1 v2 N hr hp hC))
    exact ⟨rfl, rfl, rfl, trivial⟩
theorem cs_572 (hd : 2 ≤ d) (hS : mz_extR S 342) (hR : mz_rok R 342)  (v1 : Int32) (v2 : Int32) (N : mz_N) (hp : cp_572_0 v1 v2 N) (hq : Q (.inl (some (.int ((cf_572_0 v1 v2 N).1)))) (mz_k S R ((cf_572_0 v1 v2 N).2) b t)) : mz_Ed (mz_X0 L xs) d 572 [.ref 232, .int v1, .int v2] (mz_k S R N b t) Q :=
  by
  refine g_in mzq_572 (Nat.le_of_ble_eq_true rfl) (Nat.le_of_ble_eq_true rfl) (Nat.le_trans (Nat.le_of_ble_eq_true rfl) hd) ?_
  refine g_weak ?_ (cg_572_0 (d := d - 1) (by omega) hS hR v1 v2 N (C0 := fun z => Q (.inl (some (.int z.1))) (mz_k S R z.2 b t)) (fun _ _ h => h) hp hq)
  exact ⟨rfl, rfl, rfl, trivial⟩
/-! 573 KeptHouseModel.part (II)I -/
theorem ms_573_0 : mz_sf mk_573 0 = mk_573 := mz_sf_zero _
theorem ms_573_29 : mz_sf mk_573 29 = mt_573_29 := mz_sf_add ms_573_0 (t := 29) rfl rfl
theorem ms_573_30 : mz_sf mk_573 30 = mt_573_30 := mz_sf_add ms_573_29 (t := 1) rfl rfl
theorem ms_573_39 : mz_sf mk_573 39 = mt_573_39 := mz_sf_add ms_573_30 (t := 9) rfl rfl
theorem ms_573_52 : mz_sf mk_573 52 = mt_573_52 := mz_sf_add ms_573_39 (t := 13) rfl rfl
theorem ms_573_67 : mz_sf mk_573 67 = mt_573_67 := mz_sf_add ms_573_52 (t := 15) rfl rfl
theorem ms_573_81 : mz_sf mk_573 81 = mt_573_81 := mz_sf_add ms_573_67 (t := 14) rfl rfl
theorem ms_573_94 : mz_sf mk_573 94 = mt_573_94 := mz_sf_add ms_573_81 (t := 13) rfl rfl
theorem ms_573_95 : mz_sf mk_573 95 = mt_573_95 := mz_sf_add ms_573_94 (t := 1) rfl rfl
set_option maxRecDepth 100000 in
theorem mzq_573 : mz_PG0 573 = some (12, ⟨"KeptHouseModel", "part", "(II)I"⟩, prog_14_method_138_code, 3, some .int, [], mk_573, []) := rfl
theorem cg_573_30 (hd : 1 ≤ d) (hS : mz_extR S 342) (hR : mz_rok R 342)  (s1 : Bool) (v1 : Int32) (v2 : Int32) (N : mz_N) {C0 : (Int32 × mz_N) → Prop} (hr : ∀ (w : Int32) (N2 : mz_N), C0 (w, N2) → Q (.inl (some (.int w))) (mz_k S R N2 b t)) (hp : cp_573_30 s1 v1 v2 N) (hC : C0 (cf_573_30 s1 v1 v2 N)) : mz_G (d, mz_X0 L xs, some .int, [], mk_573, 3, Q) 30 mt_573_30 [(0, .ref 232), (1, .int v1), (2, .int v2)] [.int (mz_b01 s1), .ref 232] false (mz_k S R N b t) := by
  unfold cf_573_30 at hC
  unfold cp_573_30 at hp
  refine g_iconst mzi_1 ?_
  obtain ⟨h1, hp⟩ := hp
  refine g_v3v (Nat.le_of_ble_eq_true rfl) (mz_at hS (Nat.le_of_ble_eq_true rfl) mzcS_232) (fun _ hq => cs_462 (Nat.le_trans (Nat.le_of_ble_eq_true rfl) hd) (hS.le (Nat.le_of_ble_eq_true rfl)) (hR.le (Nat.le_of_ble_eq_true rfl))  s1 true N h1 hq) ?_
  refine g_zeq (tg := 39) rfl ms_573_39 hC (fun h2 hC => ?_) (fun h2 hC => ?_)
  · have hp := hp.1 h2
    refine g_iconst mzi_0 ?_
    exact g_iret rfl (hr _ _ hC)
  · have hp := hp.2 h2
    refine g_iload_n rfl ?_
    refine g_ifne (tg := 52) rfl ms_573_52 hC (fun h3 hC => ?_) (fun h3 hC => ?_)
    · have hp := hp.1 h3
      refine g_aload_n rfl (g_getR (mz_at hS (Nat.le_of_ble_eq_true rfl) mzcS_232) mzcf_12_23 (mz_rb hR (Nat.le_of_ble_eq_true rfl) rfl mzcR_232_23) (g_iload_n rfl ?_))
      have h4 := hp
      refine g_iald hS.1 (mz_at hS (Nat.le_of_ble_eq_true rfl) mzcS_250) h4 (g_goto (tg := 95) rfl ms_573_95 ?_)
      exact g_iret rfl (hr _ _ hC)
    · have hp := hp.2 h3
      refine g_iload_n rfl (g_iconst mzi_1 ?_)
      refine g_icne (tg := 67) rfl ms_573_67 hC (fun h5 hC => ?_) (fun h5 hC => ?_)
      · have hp := hp.1 h5
        refine g_aload_n rfl (g_getR (mz_at hS (Nat.le_of_ble_eq_true rfl) mzcS_232) mzcf_12_100 (mz_rb hR (Nat.le_of_ble_eq_true rfl) rfl mzcR_232_100) (g_iload_n rfl ?_))
        have h6 := hp
        refine g_lald (mz_at hS (Nat.le_of_ble_eq_true rfl) mzcS_305) h6 (g_l2i (g_goto (tg := 95) rfl ms_573_95 ?_))
        exact g_iret rfl (hr _ _ hC)
      · have hp := hp.2 h5
        refine g_iload_n rfl (g_iconst mzi_2 ?_)
        refine g_icne (tg := 81) rfl ms_573_81 hC (fun h7 hC => ?_) (fun h7 hC => ?_)
        · have hp := hp.1 h7
          refine g_aload_n rfl (g_getR (mz_at hS (Nat.le_of_ble_eq_true rfl) mzcS_232) mzcf_12_101 (mz_rb hR (Nat.le_of_ble_eq_true rfl) rfl mzcR_232_101) (g_iload_n rfl ?_))
          have h8 := hp
          refine g_iald hS.1 (mz_at hS (Nat.le_of_ble_eq_true rfl) mzcS_306) h8 (g_goto (tg := 95) rfl ms_573_95 ?_)
          exact g_iret rfl (hr _ _ hC)
        · have hp := hp.2 h7
          refine g_aload_n rfl (g_getR (mz_at hS (Nat.le_of_ble_eq_true rfl) mzcS_232) mzcf_12_102 (mz_rb hR (Nat.le_of_ble_eq_true rfl) rfl mzcR_232_102) (g_iload_n rfl ?_))
          obtain ⟨h9, hp⟩ := hp
          have h10 := hp
          refine g_zald (mz_at hS (Nat.le_of_ble_eq_true rfl) mzcS_307) h9 h10 ?_
          refine g_zeq (tg := 94) rfl ms_573_94 hC (fun h11 hC => ?_) (fun h11 hC => ?_)
          · refine g_iconst mzi_1 (g_goto (tg := 95) rfl ms_573_95 ?_)
            exact g_iret rfl (hr _ _ hC)
          · refine g_iconst mzi_0 ?_
            exact g_iret rfl (hr _ _ hC)
theorem cg_573_29 (hd : 1 ≤ d) (hS : mz_extR S 342) (hR : mz_rok R 342)  (v1 : Int32) (v2 : Int32) (N : mz_N) {C0 : (Int32 × mz_N) → Prop} (hr : ∀ (w : Int32) (N2 : mz_N), C0 (w, N2) → Q (.inl (some (.int w))) (mz_k S R N2 b t)) (hp : cp_573_29 v1 v2 N) (hC : C0 (cf_573_29 v1 v2 N)) : mz_G (d, mz_X0 L xs, some .int, [], mk_573, 3, Q) 29 mt_573_29 [(0, .ref 232), (1, .int v1), (2, .int v2)] [.ref 232] false (mz_k S R N b t) := by
  unfold cf_573_29 at hC
  unfold cp_573_29 at hp
  refine g_iconst mzi_0 ?_
  refine g_weak ?_ (g_cl (cg_573_30 hd hS hR false v1 v2 N hr hp hC))
  exact ⟨rfl, rfl, rfl, trivial⟩
theorem cg_573_0 (hd : 1 ≤ d) (hS : mz_extR S 342) (hR : mz_rok R 342)  (v1 : Int32) (v2 : Int32) (N : mz_N) {C0 : (Int32 × mz_N) → Prop} (hr : ∀ (w : Int32) (N2 : mz_N), C0 (w, N2) → Q (.inl (some (.int w))) (mz_k S R N2 b t)) (hp : cp_573_0 v1 v2 N) (hC : C0 (cf_573_0 v1 v2 N)) : mz_G (d, mz_X0 L xs, some .int, [], mk_573, 3, Q) 0 mk_573 [(0, .ref 232), (1, .int v1), (2, .int v2)] [] true (mz_k S R N b t) := by
  unfold cf_573_0 at hC
  unfold cp_573_0 at hp
  refine g_aload_n rfl (g_iload_n rfl (g_i2l (g_lconst mzl_0 (g_con3 ?_))))
  refine g_s3v (Nat.le_of_ble_eq_true rfl) (fun _ hq => cs_466 (Nat.le_trans (Nat.le_of_ble_eq_true rfl) hd) (hS.le (Nat.le_of_ble_eq_true rfl)) (hR.le (Nat.le_of_ble_eq_true rfl))  v1.toInt64 0 2 trivial hq) ?_
  refine g_zeq (tg := 29) rfl ms_573_29 hC (fun h2 hC => ?_) (fun h2 hC => ?_)
  · have hp := hp.1 h2
    refine g_iload_n rfl (g_i2l (g_lconst mzl_0 (g_con3 ?_)))
    refine g_s3v (Nat.le_of_ble_eq_true rfl) (fun _ hq => cs_466 (Nat.le_trans (Nat.le_of_ble_eq_true rfl) hd) (hS.le (Nat.le_of_ble_eq_true rfl)) (hR.le (Nat.le_of_ble_eq_true rfl))  v2.toInt64 0 3 trivial hq) ?_
    refine g_zeq (tg := 29) rfl ms_573_29 hC (fun h4 hC => ?_) (fun h4 hC => ?_)
    · have hp := hp.1 h4
      refine g_iconst mzi_1 (g_goto (tg := 30) rfl ms_573_30 ?_)
      refine g_weak ?_ (g_cl (cg_573_30 hd hS hR true v1 v2 N hr hp hC))
      exact ⟨rfl, rfl, rfl, trivial⟩
    · have hp := hp.2 h4
      refine g_weak ?_ (g_cl (cg_573_29 hd hS hR v1 v2 N hr hp hC))
      exact ⟨rfl, rfl, rfl, trivial⟩
  · have hp := hp.2 h2
    refine g_weak ?_ (g_cl (cg_573_29 hd hS hR v1 v2 N hr hp hC))
    exact ⟨rfl, rfl, rfl, trivial⟩
theorem cs_573 (hd : 2 ≤ d) (hS : mz_extR S 342) (hR : mz_rok R 342)  (v1 : Int32) (v2 : Int32) (N : mz_N) (hp : cp_573_0 v1 v2 N) (hq : Q (.inl (some (.int ((cf_573_0 v1 v2 N).1)))) (mz_k S R ((cf_573_0 v1 v2 N).2) b t)) : mz_Ed (mz_X0 L xs) d 573 [.ref 232, .int v1, .int v2] (mz_k S R N b t) Q :=
  by
  refine g_in mzq_573 (Nat.le_of_ble_eq_true rfl) (Nat.le_of_ble_eq_true rfl) (Nat.le_trans (Nat.le_of_ble_eq_true rfl) hd) ?_
  refine g_weak ?_ (cg_573_0 (d := d - 1) (by omega) hS hR v1 v2 N (C0 := fun z => Q (.inl (some (.int z.1))) (mz_k S R z.2 b t)) (fun _ _ h => h) hp hq)
  exact ⟨rfl, rfl, rfl, trivial⟩
/-! 575 KeptHouseModel.mayHaveDoor (II)Z -/
theorem ms_575_0 : mz_sf mk_575 0 = mk_575 := mz_sf_zero _
theorem ms_575_19 : mz_sf mk_575 19 = mt_575_19 := mz_sf_add ms_575_0 (t := 19) rfl rfl
theorem ms_575_23 : mz_sf mk_575 23 = mt_575_23 := mz_sf_add ms_575_19 (t := 4) rfl rfl
theorem ms_575_24 : mz_sf mk_575 24 = mt_575_24 := mz_sf_add ms_575_23 (t := 1) rfl rfl
set_option maxRecDepth 100000 in
theorem mzq_575 : mz_PG0 575 = some (12, ⟨"KeptHouseModel", "mayHaveDoor", "(II)Z"⟩, prog_14_method_140_code, 2, some .boolean, [], mk_575, []) := rfl
theorem cg_575_0 (hd : 2 ≤ d) (hS : mz_extR S 342) (hR : mz_rok R 342)  (v0 : Int32) (v1 : Int32) {C0 : (Bool) → Prop} (hr : ∀ (w : Bool), C0 w → Q (.inl (some (.int (mz_b01 w)))) (mz_k S R N b t)) (hp : cp_575_0 v0 v1) (hC : C0 (cf_575_0 v0 v1)) : mz_G (d, mz_X0 L xs, some .boolean, [], mk_575, 2, Q) 0 mk_575 [(0, .int v0), (1, .int v1)] [] true (mz_k S R N b t) := by
  unfold cf_575_0 at hC
  unfold cp_575_0 at hp
  refine g_iload_n rfl (g_iload_n rfl ?_)
  refine g_s2v (Nat.le_of_ble_eq_true rfl) (fun _ hq => cs_464 (Nat.le_trans (Nat.le_of_ble_eq_true rfl) hd) (hS.le (Nat.le_of_ble_eq_true rfl)) (hR.le (Nat.le_of_ble_eq_true rfl))  v0 v1 trivial hq) ?_
  refine g_zeq (tg := 23) rfl ms_575_23 hC (fun h2 hC => ?_) (fun h2 hC => ?_)
  · refine g_iload_n rfl ?_
    refine g_ifeq (tg := 19) rfl ms_575_19 hC (fun h3 hC => ?_) (fun h3 hC => ?_)
    · refine g_iconst mzi_1 (g_goto (tg := 24) rfl ms_575_24 ?_)
      exact g_zret (z := true) rfl (hr _ hC)
    · refine g_iload_n rfl ?_
      refine g_s1v (Nat.le_of_ble_eq_true rfl) (fun _ hq => cs_417 (Nat.le_trans (Nat.le_of_ble_eq_true rfl) hd) (hS.le (Nat.le_of_ble_eq_true rfl)) (hR.le (Nat.le_of_ble_eq_true rfl))  v1 trivial hq) ?_
      refine g_zne (tg := 23) rfl ms_575_23 hC (fun h5 hC => ?_) (fun h5 hC => ?_)
      · refine g_iconst mzi_0 ?_
        exact g_zret (z := false) rfl (hr _ hC)
      · refine g_iconst mzi_1 (g_goto (tg := 24) rfl ms_575_24 ?_)
        exact g_zret (z := true) rfl (hr _ hC)
  · refine g_iconst mzi_0 ?_
    exact g_zret (z := false) rfl (hr _ hC)
theorem cs_575 (hd : 3 ≤ d) (hS : mz_extR S 342) (hR : mz_rok R 342)  (v0 : Int32) (v1 : Int32) (hp : cp_575_0 v0 v1) (hq : Q (.inl (some (.int (mz_b01 (cf_575_0 v0 v1))))) (mz_k S R N b t)) : mz_Ed (mz_X0 L xs) d 575 [.int v0, .int v1] (mz_k S R N b t) Q :=
  by
  refine g_in mzq_575 (Nat.le_of_ble_eq_true rfl) (Nat.le_of_ble_eq_true rfl) (Nat.le_trans (Nat.le_of_ble_eq_true rfl) hd) ?_
  refine g_weak ?_ (cg_575_0 (d := d - 1) (by omega) hS hR v0 v1 (C0 := fun z => Q (.inl (some (.int (mz_b01 z)))) (mz_k S R N b t)) (fun _ h => h) hp hq)
  exact ⟨rfl, rfl, trivial⟩
/-! 576 KeptHouseModel.doors ()I -/
theorem ms_576_0 : mz_sf mk_576 0 = mk_576 := mz_sf_zero _
theorem ms_576_4 : mz_sf mk_576 4 = mt_576_4 := mz_sf_add ms_576_0 (t := 4) rfl rfl
theorem ms_576_24 : mz_sf mk_576 24 = mt_576_24 := mz_sf_add ms_576_4 (t := 20) rfl rfl
theorem ms_576_25 : mz_sf mk_576 25 = mt_576_25 := mz_sf_add ms_576_24 (t := 1) rfl rfl
theorem ms_576_33 : mz_sf mk_576 33 = mt_576_33 := mz_sf_add ms_576_25 (t := 8) rfl rfl
set_option maxRecDepth 100000 in
theorem mzq_576 : mz_PG0 576 = some (12, ⟨"KeptHouseModel", "doors", "()I"⟩, prog_14_method_139_code, 3, some .int, [], mk_576, []) := rfl
theorem cg_576_25 (hd : 0 ≤ d) (hS : mz_extR S 342) (hR : mz_rok R 342)  (s0 : Int32) (s1 : Bool) (v2 : Int32) (N : mz_N) {C0 : (Int32) → Prop} (hr : ∀ (w : Int32), C0 w → Q (.inl (some (.int w))) (mz_k S R N b t)) {C1 : ((Int32 × Int32) ⊕ (Int32)) → Prop} (hc1 : ∀ s2, C1 (.inl s2) → mz_G (d, mz_X0 L xs, some .int, [], mk_576, 3, Q) 4 mt_576_4 [(0, .ref 232), (1, .int s2.1), (2, .int s2.2)] [] false (mz_k S R N b t)) (hx1 : ∀ z, C1 (.inr z) → C0 z) (hp : cp_576_25 s0 s1 v2 N) (hC : C1 (cf_576_25 s0 s1 v2 N)) : mz_G (d, mz_X0 L xs, some .int, [], mk_576, 3, Q) 25 mt_576_25 [(0, .ref 232), (2, .int v2)] [.int (mz_b01 s1), .int s0] false (mz_k S R N b t) := by
  unfold cf_576_25 at hC
  unfold cp_576_25 at hp
  refine g_iadd (g_istore_n (Nat.le_of_ble_eq_true rfl) rfl (g_iinc rfl mzi_1 (Nat.le_of_ble_eq_true rfl) rfl (g_goto (tg := 4) rfl ms_576_4 ?_)))
  refine g_weak ?_ (g_cl (hc1 ((s0 + (mz_b01 s1)), (v2 + 1)) hC))
  exact ⟨rfl, rfl, rfl, trivial⟩
theorem cb_576_4 (hd : 0 ≤ d) (hS : mz_extR S 342) (hR : mz_rok R 342)  (N : mz_N) (s : Int32 × Int32) {C0 : (Int32) → Prop} (hr : ∀ (w : Int32), C0 w → Q (.inl (some (.int w))) (mz_k S R N b t)) {C1 : ((Int32 × Int32) ⊕ (Int32)) → Prop} (hc1 : ∀ s2, C1 (.inl s2) → mz_G (d, mz_X0 L xs, some .int, [], mk_576, 3, Q) 4 mt_576_4 [(0, .ref 232), (1, .int s2.1), (2, .int s2.2)] [] false (mz_k S R N b t)) (hx1 : ∀ z, C1 (.inr z) → C0 z) (hp : cd_576_4 N s) (hC : C1 (cq_576_4 N s)) : mz_G (d, mz_X0 L xs, some .int, [], mk_576, 3, Q) 4 mt_576_4 [(0, .ref 232), (1, .int s.1), (2, .int s.2)] [] false (mz_k S R N b t) := by
  unfold cq_576_4 at hC
  unfold cd_576_4 at hp
  refine g_iload_n rfl (g_bipush mzb_20 ?_)
  refine g_icge (tg := 33) rfl ms_576_33 hC (fun h1 hC => ?_) (fun h1 hC => ?_)
  · have hp := hp.1 h1
    refine g_iload_n rfl (g_aload_n rfl (g_getR (mz_at hS (Nat.le_of_ble_eq_true rfl) mzcS_232) mzcf_12_103 (mz_rb hR (Nat.le_of_ble_eq_true rfl) rfl mzcR_232_103) (g_iload_n rfl ?_)))
    obtain ⟨h2, hp⟩ := hp
    obtain ⟨h3, hp⟩ := hp
    refine g_zald (mz_at hS (Nat.le_of_ble_eq_true rfl) mzcS_308) h2 h3 ?_
    refine g_zeq (tg := 24) rfl ms_576_24 hC (fun h4 hC => ?_) (fun h4 hC => ?_)
    · have hp := hp.1 h4
      refine g_iconst mzi_1 (g_goto (tg := 25) rfl ms_576_25 ?_)
      refine g_weak ?_ (g_cl (cg_576_25 hd hS hR s.1 true s.2 N hr hc1 hx1 hp hC))
      exact ⟨rfl, rfl, trivial⟩
    · have hp := hp.2 h4
      refine g_iconst mzi_0 ?_
      refine g_weak ?_ (g_cl (cg_576_25 hd hS hR s.1 false s.2 N hr hc1 hx1 hp hC))
      exact ⟨rfl, rfl, trivial⟩
  · have hp := hp.2 h1
    refine g_iload_n rfl ?_
    exact g_iret rfl (hr _ (hx1 _ hC))
theorem cg_576_4 (hd : 0 ≤ d) (hS : mz_extR S 342) (hR : mz_rok R 342)  (v1 : Int32) (v2 : Int32) (N : mz_N) {C0 : (Int32) → Prop} (hr : ∀ (w : Int32), C0 w → Q (.inl (some (.int w))) (mz_k S R N b t)) (hp : cp_576_4 v1 v2 N) (hC : C0 (cf_576_4 v1 v2 N)) : mz_G (d, mz_X0 L xs, some .int, [], mk_576, 3, Q) 4 mt_576_4 [(0, .ref 232), (1, .int v1), (2, .int v2)] [] false (mz_k S R N b t) := by
  obtain ⟨n, hn⟩ := hp
  exact g_loop (G := fun s => mz_G (d, mz_X0 L xs, some .int, [], mk_576, 3, Q) 4 mt_576_4 [(0, .ref 232), (1, .int s.1), (2, .int s.2)] [] false (mz_k S R N b t)) (C := C0) (fun C2 hc hx s hP hC => cb_576_4 hd hS hR N s hr hc hx hP hC) n (v1, v2) hn hC
theorem cg_576_0 (hd : 0 ≤ d) (hS : mz_extR S 342) (hR : mz_rok R 342)  (N : mz_N) {C0 : (Int32) → Prop} (hr : ∀ (w : Int32), C0 w → Q (.inl (some (.int w))) (mz_k S R N b t)) (hp : cp_576_0 N) (hC : C0 (cf_576_0 N)) : mz_G (d, mz_X0 L xs, some .int, [], mk_576, 3, Q) 0 mk_576 [(0, .ref 232)] [] true (mz_k S R N b t) := by
  unfold cf_576_0 at hC
  unfold cp_576_0 at hp
  refine g_iconst mzi_0 (g_istore_n (Nat.le_of_ble_eq_true rfl) rfl (g_iconst mzi_0 (g_istore_n (Nat.le_of_ble_eq_true rfl) rfl ?_)))
  refine g_weak ?_ (g_cl (cg_576_4 hd hS hR 0 0 N hr hp hC))
  exact ⟨rfl, rfl, rfl, trivial⟩
theorem cs_576 (hd : 1 ≤ d) (hS : mz_extR S 342) (hR : mz_rok R 342)  (N : mz_N) (hp : cp_576_0 N) (hq : Q (.inl (some (.int (cf_576_0 N)))) (mz_k S R N b t)) : mz_Ed (mz_X0 L xs) d 576 [.ref 232] (mz_k S R N b t) Q :=
  by
  refine g_in mzq_576 (Nat.le_of_ble_eq_true rfl) (Nat.le_of_ble_eq_true rfl) (Nat.le_trans (Nat.le_of_ble_eq_true rfl) hd) ?_
  refine g_weak ?_ (cg_576_0 (d := d - 1) (by omega) hS hR N (C0 := fun z => Q (.inl (some (.int z))) (mz_k S R N b t)) (fun _ h => h) hp hq)
  exact ⟨rfl, trivial⟩
/-! 574 KeptHouseModel.door (II)I -/
theorem ms_574_0 : mz_sf mk_574 0 = mk_574 := mz_sf_zero _
theorem ms_574_15 : mz_sf mk_574 15 = mt_574_15 := mz_sf_add ms_574_0 (t := 15) rfl rfl
theorem ms_574_28 : mz_sf mk_574 28 = mt_574_28 := mz_sf_add ms_574_15 (t := 13) rfl rfl
theorem ms_574_30 : mz_sf mk_574 30 = mt_574_30 := mz_sf_add ms_574_28 (t := 2) rfl rfl
theorem ms_574_45 : mz_sf mk_574 45 = mt_574_45 := mz_sf_add ms_574_30 (t := 15) rfl rfl
theorem ms_574_66 : mz_sf mk_574 66 = mt_574_66 := mz_sf_add ms_574_45 (t := 21) rfl rfl
theorem ms_574_80 : mz_sf mk_574 80 = mt_574_80 := mz_sf_add ms_574_66 (t := 14) rfl rfl
theorem ms_574_83 : mz_sf mk_574 83 = mt_574_83 := mz_sf_add ms_574_80 (t := 3) rfl rfl
set_option maxRecDepth 100000 in
theorem mzq_574 : mz_PG0 574 = some (12, ⟨"KeptHouseModel", "door", "(II)I"⟩, prog_14_method_141_code, 4, some .int, [], mk_574, []) := rfl
theorem cg_574_80 (hd : 6 ≤ d) (hS : mz_extR S 342) (hR : mz_rok R 342)  (N : mz_N) {C0 : (Int32 × mz_N) → Prop} (hr : ∀ (w : Int32) (N2 : mz_N), C0 (w, N2) → Q (.inl (some (.int w))) (mz_k S R N2 b t)) (hp : cp_574_80 N) (hC : C0 (cf_574_80 N)) : mz_G (d, mz_X0 L xs, some .int, [], mk_574, 4, Q) 80 mt_574_80 [] [] false (mz_k S R N b t) := by
  unfold cf_574_80 at hC
  unfold cp_574_80 at hp
  refine g_sipush mzs_m1001 ?_
  exact g_iret rfl (hr _ _ hC)
theorem cb_574_30 (hd : 6 ≤ d) (hS : mz_extR S 342) (hR : mz_rok R 342)  (v1 : Int32) (v2 : Int32) (N : mz_N) (s : Int32) {C0 : (Int32 × mz_N) → Prop} (hr : ∀ (w : Int32) (N2 : mz_N), C0 (w, N2) → Q (.inl (some (.int w))) (mz_k S R N2 b t)) {C1 : ((Int32) ⊕ (Int32 × mz_N)) → Prop} (hc1 : ∀ s2, C1 (.inl s2) → mz_G (d, mz_X0 L xs, some .int, [], mk_574, 4, Q) 30 mt_574_30 [(0, .ref 232), (1, .int v1), (2, .int v2), (3, .int s2)] [] false (mz_k S R N b t)) (hx1 : ∀ z, C1 (.inr z) → C0 z) (hp : cd_574_30 v1 v2 N s) (hC : C1 (cq_574_30 v1 v2 N s)) : mz_G (d, mz_X0 L xs, some .int, [], mk_574, 4, Q) 30 mt_574_30 [(0, .ref 232), (1, .int v1), (2, .int v2), (3, .int s)] [] false (mz_k S R N b t) := by
  unfold cq_574_30 at hC
  unfold cd_574_30 at hp
  refine g_aload_n rfl (g_getR (mz_at hS (Nat.le_of_ble_eq_true rfl) mzcS_232) mzcf_12_103 (mz_rb hR (Nat.le_of_ble_eq_true rfl) rfl mzcR_232_103) (g_iload_n rfl ?_))
  obtain ⟨h1, hp⟩ := hp
  obtain ⟨h2, hp⟩ := hp
  refine g_zald (mz_at hS (Nat.le_of_ble_eq_true rfl) mzcS_308) h1 h2 ?_
  refine g_zeq (tg := 45) rfl ms_574_45 hC (fun h3 hC => ?_) (fun h3 hC => ?_)
  · have hp := hp.1 h3
    refine g_iinc rfl mzi_1 (Nat.le_of_ble_eq_true rfl) rfl (g_goto (tg := 30) rfl ms_574_30 ?_)
    refine g_weak ?_ (g_cl (hc1 ((s + 1)) hC))
    exact ⟨rfl, rfl, rfl, rfl, trivial⟩
  · have hp := hp.2 h3
    refine g_aload_n rfl (g_getR (mz_at hS (Nat.le_of_ble_eq_true rfl) mzcS_232) mzcf_12_103 (mz_rb hR (Nat.le_of_ble_eq_true rfl) rfl mzcR_232_103) (g_iload_n rfl (g_iconst mzi_1 ?_)))
    obtain ⟨h4, hp⟩ := hp
    refine g_zast (z := true) (mz_at hS (Nat.le_of_ble_eq_true rfl) mzcS_308) h4 (g_aload_n rfl (g_getR (mz_at hS (Nat.le_of_ble_eq_true rfl) mzcS_232) mzcf_12_104 (mz_rb hR (Nat.le_of_ble_eq_true rfl) rfl mzcR_232_104) (g_iload_n rfl (g_iload_n rfl ?_))))
    obtain ⟨h5, hp⟩ := hp
    refine g_iast (mz_at hS (Nat.le_of_ble_eq_true rfl) mzcS_309) h5 (g_aload_n rfl (g_getR (mz_at hS (Nat.le_of_ble_eq_true rfl) mzcS_232) mzcf_12_105 (mz_rb hR (Nat.le_of_ble_eq_true rfl) rfl mzcR_232_105) (g_iload_n rfl (g_iload_n rfl ?_))))
    obtain ⟨h6, hp⟩ := hp
    refine g_iast (mz_at hS (Nat.le_of_ble_eq_true rfl) mzcS_310) h6 (g_aload_n rfl (g_bipush mzb_13 (g_iload_n rfl ?_)))
    obtain ⟨h7, hp⟩ := hp
    refine g_v3v (Nat.le_of_ble_eq_true rfl) (mz_at hS (Nat.le_of_ble_eq_true rfl) mzcS_232) (fun _ hq => cs_494 (Nat.le_trans (Nat.le_of_ble_eq_true rfl) hd) (hS.le (Nat.le_of_ble_eq_true rfl)) (hR.le (Nat.le_of_ble_eq_true rfl))  13 s (mz_wI (mz_wI (mz_wI N 308 s (mz_b01 true)) 309 s v1) 310 s v2) h7 hq) ?_
    refine g_zeq (tg := 80) rfl ms_574_80 hC (fun h8 hC => ?_) (fun h8 hC => ?_)
    · have hp := hp.1 h8
      refine g_iload_n rfl (g_goto (tg := 83) rfl ms_574_83 ?_)
      exact g_iret rfl (hr _ _ (hx1 _ hC))
    · have hp := hp.2 h8
      refine g_weak ?_ (g_cl (cg_574_80 hd hS hR ((cf_494_0 13 s (mz_wI (mz_wI (mz_wI N 308 s (mz_b01 true)) 309 s v1) 310 s v2)).2) hr hp (hx1 _ hC)))
      exact trivial
theorem cg_574_30 (hd : 6 ≤ d) (hS : mz_extR S 342) (hR : mz_rok R 342)  (v1 : Int32) (v2 : Int32) (v3 : Int32) (N : mz_N) {C0 : (Int32 × mz_N) → Prop} (hr : ∀ (w : Int32) (N2 : mz_N), C0 (w, N2) → Q (.inl (some (.int w))) (mz_k S R N2 b t)) (hp : cp_574_30 v1 v2 v3 N) (hC : C0 (cf_574_30 v1 v2 v3 N)) : mz_G (d, mz_X0 L xs, some .int, [], mk_574, 4, Q) 30 mt_574_30 [(0, .ref 232), (1, .int v1), (2, .int v2), (3, .int v3)] [] false (mz_k S R N b t) := by
  obtain ⟨n, hn⟩ := hp
  exact g_loop (G := fun s => mz_G (d, mz_X0 L xs, some .int, [], mk_574, 4, Q) 30 mt_574_30 [(0, .ref 232), (1, .int v1), (2, .int v2), (3, .int s)] [] false (mz_k S R N b t)) (C := C0) (fun C2 hc hx s hP hC => cb_574_30 hd hS hR v1 v2 N s hr hc hx hP hC) n (v3) hn hC
theorem cg_574_0 (hd : 6 ≤ d) (hS : mz_extR S 342) (hR : mz_rok R 342)  (v1 : Int32) (v2 : Int32) (N : mz_N) {C0 : (Int32 × mz_N) → Prop} (hr : ∀ (w : Int32) (N2 : mz_N), C0 (w, N2) → Q (.inl (some (.int w))) (mz_k S R N2 b t)) (hp : cp_574_0 v1 v2 N) (hC : C0 (cf_574_0 v1 v2 N)) : mz_G (d, mz_X0 L xs, some .int, [], mk_574, 4, Q) 0 mk_574 [(0, .ref 232), (1, .int v1), (2, .int v2)] [] true (mz_k S R N b t) := by
  unfold cf_574_0 at hC
  unfold cp_574_0 at hp
  refine g_aload_n rfl (g_iload_n rfl (g_iload_n rfl ?_))
  refine g_s2v (Nat.le_of_ble_eq_true rfl) (fun _ hq => cs_575 (Nat.le_trans (Nat.le_of_ble_eq_true rfl) hd) (hS.le (Nat.le_of_ble_eq_true rfl)) (hR.le (Nat.le_of_ble_eq_true rfl))  v1 v2 trivial hq) (g_iconst mzi_1 ?_)
  obtain ⟨h2, hp⟩ := hp
  refine g_v3v (Nat.le_of_ble_eq_true rfl) (mz_at hS (Nat.le_of_ble_eq_true rfl) mzcS_232) (fun _ hq => cs_462 (Nat.le_trans (Nat.le_of_ble_eq_true rfl) hd) (hS.le (Nat.le_of_ble_eq_true rfl)) (hR.le (Nat.le_of_ble_eq_true rfl))  (cf_575_0 v1 v2) true N h2 hq) ?_
  refine g_zeq (tg := 15) rfl ms_574_15 hC (fun h3 hC => ?_) (fun h3 hC => ?_)
  · have hp := hp.1 h3
    refine g_iconst mzi_0 ?_
    exact g_iret rfl (hr _ _ hC)
  · have hp := hp.2 h3
    refine g_aload_n rfl ?_
    obtain ⟨h4, hp⟩ := hp
    refine g_v1v (Nat.le_of_ble_eq_true rfl) (mz_at hS (Nat.le_of_ble_eq_true rfl) mzcS_232) (fun _ hq => cs_576 (Nat.le_trans (Nat.le_of_ble_eq_true rfl) hd) (hS.le (Nat.le_of_ble_eq_true rfl)) (hR.le (Nat.le_of_ble_eq_true rfl))  ((cf_462_0 (cf_575_0 v1 v2) true N).2) h4 hq) (g_bipush mzb_20 ?_)
    refine g_icne (tg := 28) rfl ms_574_28 hC (fun h5 hC => ?_) (fun h5 hC => ?_)
    · have hp := hp.1 h5
      refine g_sipush mzs_m1003 ?_
      exact g_iret rfl (hr _ _ hC)
    · have hp := hp.2 h5
      refine g_iconst mzi_0 (g_istore_n (Nat.le_of_ble_eq_true rfl) rfl ?_)
      refine g_weak ?_ (g_cl (cg_574_30 hd hS hR v1 v2 0 ((cf_462_0 (cf_575_0 v1 v2) true N).2) hr hp hC))
      exact ⟨rfl, rfl, rfl, rfl, trivial⟩
theorem cs_574 (hd : 7 ≤ d) (hS : mz_extR S 342) (hR : mz_rok R 342)  (v1 : Int32) (v2 : Int32) (N : mz_N) (hp : cp_574_0 v1 v2 N) (hq : Q (.inl (some (.int ((cf_574_0 v1 v2 N).1)))) (mz_k S R ((cf_574_0 v1 v2 N).2) b t)) : mz_Ed (mz_X0 L xs) d 574 [.ref 232, .int v1, .int v2] (mz_k S R N b t) Q :=
  by
  refine g_in mzq_574 (Nat.le_of_ble_eq_true rfl) (Nat.le_of_ble_eq_true rfl) (Nat.le_trans (Nat.le_of_ble_eq_true rfl) hd) ?_
  refine g_weak ?_ (cg_574_0 (d := d - 1) (by omega) hS hR v1 v2 N (C0 := fun z => Q (.inl (some (.int z.1))) (mz_k S R z.2 b t)) (fun _ _ h => h) hp hq)
  exact ⟨rfl, rfl, rfl, trivial⟩
/-! 577 KeptHouseModel.card (IIIIZ)I -/
theorem ms_577_0 : mz_sf mk_577 0 = mk_577 := mz_sf_zero _
theorem ms_577_53 : mz_sf mk_577 53 = mt_577_53 := mz_sf_add ms_577_0 (t := 53) rfl rfl
theorem ms_577_54 : mz_sf mk_577 54 = mt_577_54 := mz_sf_add ms_577_53 (t := 1) rfl rfl
theorem ms_577_63 : mz_sf mk_577 63 = mt_577_63 := mz_sf_add ms_577_54 (t := 9) rfl rfl
theorem ms_577_86 : mz_sf mk_577 86 = mt_577_86 := mz_sf_add ms_577_63 (t := 23) rfl rfl
theorem ms_577_87 : mz_sf mk_577 87 = mt_577_87 := mz_sf_add ms_577_86 (t := 1) rfl rfl
theorem ms_577_109 : mz_sf mk_577 109 = mt_577_109 := mz_sf_add ms_577_87 (t := 22) rfl rfl
theorem ms_577_135 : mz_sf mk_577 135 = mt_577_135 := mz_sf_add ms_577_109 (t := 26) rfl rfl
theorem ms_577_139 : mz_sf mk_577 139 = mt_577_139 := mz_sf_add ms_577_135 (t := 4) rfl rfl
theorem ms_577_142 : mz_sf mk_577 142 = mt_577_142 := mz_sf_add ms_577_139 (t := 3) rfl rfl
set_option maxRecDepth 100000 in
theorem mzq_577 : mz_PG0 577 = some (12, ⟨"KeptHouseModel", "card", "(IIIIZ)I"⟩, prog_14_method_142_code, 6, some .int, [], mk_577, []) := rfl
theorem cg_577_109 (hd : 6 ≤ d) (hS : mz_extR S 342) (hR : mz_rok R 342)  (v1 : Int32) (v4 : Int32) (v5 : Bool) (N : mz_N) {C0 : (Int32 × mz_N) → Prop} (hr : ∀ (w : Int32) (N2 : mz_N), C0 (w, N2) → Q (.inl (some (.int w))) (mz_k S R N2 b t)) (hp : cp_577_109 v1 v4 v5 N) (hC : C0 (cf_577_109 v1 v4 v5 N)) : mz_G (d, mz_X0 L xs, some .int, [], mk_577, 6, Q) 109 mt_577_109 [(0, .ref 232), (1, .int v1), (4, .int v4), (5, .int (mz_b01 v5))] [] false (mz_k S R N b t) := by
  unfold cf_577_109 at hC
  unfold cp_577_109 at hp
  refine g_aload_n rfl (g_getR (mz_at hS (Nat.le_of_ble_eq_true rfl) mzcS_232) mzcf_12_109 (mz_rb hR (Nat.le_of_ble_eq_true rfl) rfl mzcR_232_109) (g_iload_n rfl (g_iload rfl ?_)))
  obtain ⟨h1, hp⟩ := hp
  refine g_iast (mz_at hS (Nat.le_of_ble_eq_true rfl) mzcS_314) h1 (g_aload_n rfl (g_getR (mz_at hS (Nat.le_of_ble_eq_true rfl) mzcS_232) mzcf_12_110 (mz_rb hR (Nat.le_of_ble_eq_true rfl) rfl mzcR_232_110) (g_iload_n rfl (g_iload rfl ?_))))
  obtain ⟨h2, hp⟩ := hp
  refine g_zast (z := v5) (mz_at hS (Nat.le_of_ble_eq_true rfl) mzcS_315) h2 (g_aload_n rfl (g_bipush mzb_14 (g_iload_n rfl ?_)))
  have h3 := hp
  refine g_v3v (Nat.le_of_ble_eq_true rfl) (mz_at hS (Nat.le_of_ble_eq_true rfl) mzcS_232) (fun _ hq => cs_494 (Nat.le_trans (Nat.le_of_ble_eq_true rfl) hd) (hS.le (Nat.le_of_ble_eq_true rfl)) (hR.le (Nat.le_of_ble_eq_true rfl))  14 v1 (mz_wI (mz_wI N 314 v1 v4) 315 v1 (mz_b01 v5)) h3 hq) ?_
  refine g_zeq (tg := 139) rfl ms_577_139 hC (fun h4 hC => ?_) (fun h4 hC => ?_)
  · refine g_iconst mzi_0 (g_goto (tg := 142) rfl ms_577_142 ?_)
    exact g_iret rfl (hr _ _ hC)
  · refine g_sipush mzs_m1001 ?_
    exact g_iret rfl (hr _ _ hC)
theorem cg_577_87 (hd : 6 ≤ d) (hS : mz_extR S 342) (hR : mz_rok R 342)  (s1 : Int32) (s2 : Int32) (v1 : Int32) (v2 : Int32) (v3 : Int32) (v4 : Int32) (v5 : Bool) (N : mz_N) {C0 : (Int32 × mz_N) → Prop} (hr : ∀ (w : Int32) (N2 : mz_N), C0 (w, N2) → Q (.inl (some (.int w))) (mz_k S R N2 b t)) (hp : cp_577_87 s1 s2 v1 v2 v3 v4 v5 N) (hC : C0 (cf_577_87 s1 s2 v1 v2 v3 v4 v5 N)) : mz_G (d, mz_X0 L xs, some .int, [], mk_577, 6, Q) 87 mt_577_87 [(0, .ref 232), (1, .int v1), (2, .int v2), (3, .int v3), (4, .int v4), (5, .int (mz_b01 v5))] [.int s2, .int s1, .ref 316] false (mz_k S R N b t) := by
  unfold cf_577_87 at hC
  unfold cp_577_87 at hp
  obtain ⟨h1, hp⟩ := hp
  refine g_iast (mz_at hS (Nat.le_of_ble_eq_true rfl) mzcS_316) h1 (g_aload_n rfl (g_getR (mz_at hS (Nat.le_of_ble_eq_true rfl) mzcS_232) mzcf_12_106 (mz_rb hR (Nat.le_of_ble_eq_true rfl) rfl mzcR_232_106) (g_iload_n rfl (g_iconst mzi_1 ?_))))
  obtain ⟨h2, hp⟩ := hp
  refine g_zast (z := true) (mz_at hS (Nat.le_of_ble_eq_true rfl) mzcS_311) h2 (g_aload_n rfl (g_getR (mz_at hS (Nat.le_of_ble_eq_true rfl) mzcS_232) mzcf_12_107 (mz_rb hR (Nat.le_of_ble_eq_true rfl) rfl mzcR_232_107) (g_iload_n rfl (g_iload_n rfl ?_))))
  obtain ⟨h3, hp⟩ := hp
  refine g_iast (mz_at hS (Nat.le_of_ble_eq_true rfl) mzcS_312) h3 (g_aload_n rfl (g_getR (mz_at hS (Nat.le_of_ble_eq_true rfl) mzcS_232) mzcf_12_108 (mz_rb hR (Nat.le_of_ble_eq_true rfl) rfl mzcR_232_108) (g_iload_n rfl (g_iload_n rfl ?_))))
  obtain ⟨h4, hp⟩ := hp
  refine g_iast (mz_at hS (Nat.le_of_ble_eq_true rfl) mzcS_313) h4 ?_
  refine g_weak ?_ (g_cl (cg_577_109 hd hS hR v1 v4 v5 (mz_wI (mz_wI (mz_wI (mz_wI N 316 s1 s2) 311 v1 (mz_b01 true)) 312 v1 v2) 313 v1 v3) hr hp hC))
  exact ⟨rfl, rfl, rfl, rfl, trivial⟩
theorem cg_577_54 (hd : 6 ≤ d) (hS : mz_extR S 342) (hR : mz_rok R 342)  (s1 : Bool) (v1 : Int32) (v2 : Int32) (v3 : Int32) (v4 : Int32) (v5 : Bool) (N : mz_N) {C0 : (Int32 × mz_N) → Prop} (hr : ∀ (w : Int32) (N2 : mz_N), C0 (w, N2) → Q (.inl (some (.int w))) (mz_k S R N2 b t)) (hp : cp_577_54 s1 v1 v2 v3 v4 v5 N) (hC : C0 (cf_577_54 s1 v1 v2 v3 v4 v5 N)) : mz_G (d, mz_X0 L xs, some .int, [], mk_577, 6, Q) 54 mt_577_54 [(0, .ref 232), (1, .int v1), (2, .int v2), (3, .int v3), (4, .int v4), (5, .int (mz_b01 v5))] [.int (mz_b01 s1), .ref 232] false (mz_k S R N b t) := by
  unfold cf_577_54 at hC
  unfold cp_577_54 at hp
  refine g_iconst mzi_1 ?_
  obtain ⟨h1, hp⟩ := hp
  refine g_v3v (Nat.le_of_ble_eq_true rfl) (mz_at hS (Nat.le_of_ble_eq_true rfl) mzcS_232) (fun _ hq => cs_462 (Nat.le_trans (Nat.le_of_ble_eq_true rfl) hd) (hS.le (Nat.le_of_ble_eq_true rfl)) (hR.le (Nat.le_of_ble_eq_true rfl))  s1 true N h1 hq) ?_
  refine g_zeq (tg := 63) rfl ms_577_63 hC (fun h2 hC => ?_) (fun h2 hC => ?_)
  · have hp := hp.1 h2
    refine g_iconst mzi_0 ?_
    exact g_iret rfl (hr _ _ hC)
  · have hp := hp.2 h2
    refine g_aload_n rfl (g_getR (mz_at hS (Nat.le_of_ble_eq_true rfl) mzcS_232) mzcf_12_111 (mz_rb hR (Nat.le_of_ble_eq_true rfl) rfl mzcR_232_111) (g_iload_n rfl (g_aload_n rfl (g_getR (mz_at hS (Nat.le_of_ble_eq_true rfl) mzcS_232) mzcf_12_106 (mz_rb hR (Nat.le_of_ble_eq_true rfl) rfl mzcR_232_106) (g_iload_n rfl ?_)))))
    obtain ⟨h3, hp⟩ := hp
    obtain ⟨h4, hp⟩ := hp
    refine g_zald (mz_at hS (Nat.le_of_ble_eq_true rfl) mzcS_311) h3 h4 ?_
    refine g_zeq (tg := 86) rfl ms_577_86 hC (fun h5 hC => ?_) (fun h5 hC => ?_)
    · have hp := hp.1 h5
      refine g_aload_n rfl (g_getR (mz_at hS (Nat.le_of_ble_eq_true rfl) mzcS_232) mzcf_12_111 (mz_rb hR (Nat.le_of_ble_eq_true rfl) rfl mzcR_232_111) (g_iload_n rfl ?_))
      obtain ⟨h6, hp⟩ := hp
      refine g_iald hS.1 (mz_at hS (Nat.le_of_ble_eq_true rfl) mzcS_316) h6 (g_goto (tg := 87) rfl ms_577_87 ?_)
      refine g_weak ?_ (g_cl (cg_577_87 hd hS hR v1 (mz_gI ((cf_462_0 s1 true N).2) 316 v1) v1 v2 v3 v4 v5 ((cf_462_0 s1 true N).2) hr hp hC))
      exact ⟨rfl, rfl, rfl, rfl, rfl, rfl, trivial⟩
    · have hp := hp.2 h5
      refine g_iconst mzi_m1 ?_
      refine g_weak ?_ (g_cl (cg_577_87 hd hS hR v1 (-1) v1 v2 v3 v4 v5 ((cf_462_0 s1 true N).2) hr hp hC))
      exact ⟨rfl, rfl, rfl, rfl, rfl, rfl, trivial⟩
theorem cg_577_53 (hd : 6 ≤ d) (hS : mz_extR S 342) (hR : mz_rok R 342)  (v1 : Int32) (v2 : Int32) (v3 : Int32) (v4 : Int32) (v5 : Bool) (N : mz_N) {C0 : (Int32 × mz_N) → Prop} (hr : ∀ (w : Int32) (N2 : mz_N), C0 (w, N2) → Q (.inl (some (.int w))) (mz_k S R N2 b t)) (hp : cp_577_53 v1 v2 v3 v4 v5 N) (hC : C0 (cf_577_53 v1 v2 v3 v4 v5 N)) : mz_G (d, mz_X0 L xs, some .int, [], mk_577, 6, Q) 53 mt_577_53 [(0, .ref 232), (1, .int v1), (2, .int v2), (3, .int v3), (4, .int v4), (5, .int (mz_b01 v5))] [.ref 232] false (mz_k S R N b t) := by
  unfold cf_577_53 at hC
  unfold cp_577_53 at hp
  refine g_iconst mzi_0 ?_
  refine g_weak ?_ (g_cl (cg_577_54 hd hS hR false v1 v2 v3 v4 v5 N hr hp hC))
  exact ⟨rfl, rfl, rfl, rfl, rfl, rfl, trivial⟩
theorem cg_577_0 (hd : 6 ≤ d) (hS : mz_extR S 342) (hR : mz_rok R 342)  (v1 : Int32) (v2 : Int32) (v3 : Int32) (v4 : Int32) (v5 : Bool) (N : mz_N) {C0 : (Int32 × mz_N) → Prop} (hr : ∀ (w : Int32) (N2 : mz_N), C0 (w, N2) → Q (.inl (some (.int w))) (mz_k S R N2 b t)) (hp : cp_577_0 v1 v2 v3 v4 v5 N) (hC : C0 (cf_577_0 v1 v2 v3 v4 v5 N)) : mz_G (d, mz_X0 L xs, some .int, [], mk_577, 6, Q) 0 mk_577 [(0, .ref 232), (1, .int v1), (2, .int v2), (3, .int v3), (4, .int v4), (5, .int (mz_b01 v5))] [] true (mz_k S R N b t) := by
  unfold cf_577_0 at hC
  unfold cp_577_0 at hp
  refine g_aload_n rfl (g_iload_n rfl (g_i2l (g_lconst mzl_0 (g_con3 ?_))))
  refine g_s3v (Nat.le_of_ble_eq_true rfl) (fun _ hq => cs_466 (Nat.le_trans (Nat.le_of_ble_eq_true rfl) hd) (hS.le (Nat.le_of_ble_eq_true rfl)) (hR.le (Nat.le_of_ble_eq_true rfl))  v1.toInt64 0 39 trivial hq) ?_
  refine g_zeq (tg := 53) rfl ms_577_53 hC (fun h2 hC => ?_) (fun h2 hC => ?_)
  · have hp := hp.1 h2
    refine g_iload_n rfl ?_
    refine g_iflt (tg := 53) rfl ms_577_53 hC (fun h3 hC => ?_) (fun h3 hC => ?_)
    · have hp := hp.1 h3
      refine g_weak ?_ (g_cl (cg_577_53 hd hS hR v1 v2 v3 v4 v5 N hr hp hC))
      exact ⟨rfl, rfl, rfl, rfl, rfl, rfl, trivial⟩
    · have hp := hp.2 h3
      refine g_iload_n rfl (g_con3 ?_)
      refine g_icge (tg := 53) rfl ms_577_53 hC (fun h4 hC => ?_) (fun h4 hC => ?_)
      · have hp := hp.1 h4
        refine g_iload_n rfl (g_i2l (g_lconst mzl_0 (g_con3 ?_)))
        refine g_s3v (Nat.le_of_ble_eq_true rfl) (fun _ hq => cs_466 (Nat.le_trans (Nat.le_of_ble_eq_true rfl) hd) (hS.le (Nat.le_of_ble_eq_true rfl)) (hR.le (Nat.le_of_ble_eq_true rfl))  v3.toInt64 0 23 trivial hq) ?_
        refine g_zeq (tg := 53) rfl ms_577_53 hC (fun h6 hC => ?_) (fun h6 hC => ?_)
        · have hp := hp.1 h6
          refine g_iload rfl (g_i2l (g_lconst mzl_0 (g_con3 ?_)))
          refine g_s3v (Nat.le_of_ble_eq_true rfl) (fun _ hq => cs_466 (Nat.le_trans (Nat.le_of_ble_eq_true rfl) hd) (hS.le (Nat.le_of_ble_eq_true rfl)) (hR.le (Nat.le_of_ble_eq_true rfl))  v4.toInt64 0 23 trivial hq) ?_
          refine g_zeq (tg := 53) rfl ms_577_53 hC (fun h8 hC => ?_) (fun h8 hC => ?_)
          · have hp := hp.1 h8
            refine g_iconst mzi_1 (g_goto (tg := 54) rfl ms_577_54 ?_)
            refine g_weak ?_ (g_cl (cg_577_54 hd hS hR true v1 v2 v3 v4 v5 N hr hp hC))
            exact ⟨rfl, rfl, rfl, rfl, rfl, rfl, trivial⟩
          · have hp := hp.2 h8
            refine g_weak ?_ (g_cl (cg_577_53 hd hS hR v1 v2 v3 v4 v5 N hr hp hC))
            exact ⟨rfl, rfl, rfl, rfl, rfl, rfl, trivial⟩
        · have hp := hp.2 h6
          refine g_weak ?_ (g_cl (cg_577_53 hd hS hR v1 v2 v3 v4 v5 N hr hp hC))
          exact ⟨rfl, rfl, rfl, rfl, rfl, rfl, trivial⟩
      · have hp := hp.2 h4
        refine g_weak ?_ (g_cl (cg_577_53 hd hS hR v1 v2 v3 v4 v5 N hr hp hC))
        exact ⟨rfl, rfl, rfl, rfl, rfl, rfl, trivial⟩
  · have hp := hp.2 h2
    refine g_weak ?_ (g_cl (cg_577_53 hd hS hR v1 v2 v3 v4 v5 N hr hp hC))
    exact ⟨rfl, rfl, rfl, rfl, rfl, rfl, trivial⟩
theorem cs_577 (hd : 7 ≤ d) (hS : mz_extR S 342) (hR : mz_rok R 342)  (v1 : Int32) (v2 : Int32) (v3 : Int32) (v4 : Int32) (v5 : Bool) (N : mz_N) (hp : cp_577_0 v1 v2 v3 v4 v5 N) (hq : Q (.inl (some (.int ((cf_577_0 v1 v2 v3 v4 v5 N).1)))) (mz_k S R ((cf_577_0 v1 v2 v3 v4 v5 N).2) b t)) : mz_Ed (mz_X0 L xs) d 577 [.ref 232, .int v1, .int v2, .int v3, .int v4, .int (mz_b01 v5)] (mz_k S R N b t) Q :=
  by
  refine g_in mzq_577 (Nat.le_of_ble_eq_true rfl) (Nat.le_of_ble_eq_true rfl) (Nat.le_trans (Nat.le_of_ble_eq_true rfl) hd) ?_
  refine g_weak ?_ (cg_577_0 (d := d - 1) (by omega) hS hR v1 v2 v3 v4 v5 N (C0 := fun z => Q (.inl (some (.int z.1))) (mz_k S R z.2 b t)) (fun _ _ h => h) hp hq)
  exact ⟨rfl, rfl, rfl, rfl, rfl, rfl, trivial⟩
/-! 579 KeptHouseModel.isCard (I)Z -/
theorem ms_579_0 : mz_sf mk_579 0 = mk_579 := mz_sf_zero _
theorem ms_579_23 : mz_sf mk_579 23 = mt_579_23 := mz_sf_add ms_579_0 (t := 23) rfl rfl
theorem ms_579_24 : mz_sf mk_579 24 = mt_579_24 := mz_sf_add ms_579_23 (t := 1) rfl rfl
set_option maxRecDepth 100000 in
theorem mzq_579 : mz_PG0 579 = some (12, ⟨"KeptHouseModel", "isCard", "(I)Z"⟩, prog_14_method_143_code, 2, some .boolean, [], mk_579, []) := rfl
theorem cg_579_0 (hd : 0 ≤ d) (hS : mz_extR S 342) (hR : mz_rok R 342)  (v1 : Int32) (N : mz_N) {C0 : (Bool) → Prop} (hr : ∀ (w : Bool), C0 w → Q (.inl (some (.int (mz_b01 w)))) (mz_k S R N b t)) (hp : cp_579_0 v1 N) (hC : C0 (cf_579_0 v1 N)) : mz_G (d, mz_X0 L xs, some .boolean, [], mk_579, 2, Q) 0 mk_579 [(0, .ref 232), (1, .int v1)] [] true (mz_k S R N b t) := by
  unfold cf_579_0 at hC
  unfold cp_579_0 at hp
  refine g_iload_n rfl ?_
  refine g_iflt (tg := 23) rfl ms_579_23 hC (fun h1 hC => ?_) (fun h1 hC => ?_)
  · have hp := hp.1 h1
    refine g_iconst mzi_0 ?_
    exact g_zret (z := false) rfl (hr _ hC)
  · have hp := hp.2 h1
    refine g_iload_n rfl (g_bipush mzb_40 ?_)
    refine g_icge (tg := 23) rfl ms_579_23 hC (fun h2 hC => ?_) (fun h2 hC => ?_)
    · have hp := hp.1 h2
      refine g_aload_n rfl (g_getR (mz_at hS (Nat.le_of_ble_eq_true rfl) mzcS_232) mzcf_12_106 (mz_rb hR (Nat.le_of_ble_eq_true rfl) rfl mzcR_232_106) (g_iload_n rfl ?_))
      obtain ⟨h3, hp⟩ := hp
      have h4 := hp
      refine g_zald (mz_at hS (Nat.le_of_ble_eq_true rfl) mzcS_311) h3 h4 ?_
      refine g_zeq (tg := 23) rfl ms_579_23 hC (fun h5 hC => ?_) (fun h5 hC => ?_)
      · refine g_iconst mzi_1 (g_goto (tg := 24) rfl ms_579_24 ?_)
        exact g_zret (z := true) rfl (hr _ hC)
      · refine g_iconst mzi_0 ?_
        exact g_zret (z := false) rfl (hr _ hC)
    · have hp := hp.2 h2
      refine g_iconst mzi_0 ?_
      exact g_zret (z := false) rfl (hr _ hC)
theorem cs_579 (hd : 1 ≤ d) (hS : mz_extR S 342) (hR : mz_rok R 342)  (v1 : Int32) (N : mz_N) (hp : cp_579_0 v1 N) (hq : Q (.inl (some (.int (mz_b01 (cf_579_0 v1 N))))) (mz_k S R N b t)) : mz_Ed (mz_X0 L xs) d 579 [.ref 232, .int v1] (mz_k S R N b t) Q :=
  by
  refine g_in mzq_579 (Nat.le_of_ble_eq_true rfl) (Nat.le_of_ble_eq_true rfl) (Nat.le_trans (Nat.le_of_ble_eq_true rfl) hd) ?_
  refine g_weak ?_ (cg_579_0 (d := d - 1) (by omega) hS hR v1 N (C0 := fun z => Q (.inl (some (.int (mz_b01 z)))) (mz_k S R N b t)) (fun _ h => h) hp hq)
  exact ⟨rfl, rfl, trivial⟩
/-! 580 KeptHouseModel.isAt (II)Z -/
theorem ms_580_0 : mz_sf mk_580 0 = mk_580 := mz_sf_zero _
theorem ms_580_21 : mz_sf mk_580 21 = mt_580_21 := mz_sf_add ms_580_0 (t := 21) rfl rfl
theorem ms_580_41 : mz_sf mk_580 41 = mt_580_41 := mz_sf_add ms_580_21 (t := 20) rfl rfl
theorem ms_580_50 : mz_sf mk_580 50 = mt_580_50 := mz_sf_add ms_580_41 (t := 9) rfl rfl
theorem ms_580_54 : mz_sf mk_580 54 = mt_580_54 := mz_sf_add ms_580_50 (t := 4) rfl rfl
theorem ms_580_55 : mz_sf mk_580 55 = mt_580_55 := mz_sf_add ms_580_54 (t := 1) rfl rfl
theorem ms_580_56 : mz_sf mk_580 56 = mt_580_56 := mz_sf_add ms_580_55 (t := 1) rfl rfl
theorem ms_580_87 : mz_sf mk_580 87 = mt_580_87 := mz_sf_add ms_580_56 (t := 31) rfl rfl
theorem ms_580_107 : mz_sf mk_580 107 = mt_580_107 := mz_sf_add ms_580_87 (t := 20) rfl rfl
theorem ms_580_111 : mz_sf mk_580 111 = mt_580_111 := mz_sf_add ms_580_107 (t := 4) rfl rfl
theorem ms_580_112 : mz_sf mk_580 112 = mt_580_112 := mz_sf_add ms_580_111 (t := 1) rfl rfl
set_option maxRecDepth 100000 in
theorem mzq_580 : mz_PG0 580 = some (12, ⟨"KeptHouseModel", "isAt", "(II)Z"⟩, prog_14_method_145_code, 7, some .boolean, [], mk_580, []) := rfl
theorem cg_580_87 (hd : 1 ≤ d) (hS : mz_extR S 342) (hR : mz_rok R 342)  (v4 : Int32) (v5 : Int32) (v6 : Int32) (N : mz_N) {C0 : (Bool) → Prop} (hr : ∀ (w : Bool), C0 w → Q (.inl (some (.int (mz_b01 w)))) (mz_k S R N b t)) (hp : cp_580_87 v4 v5 v6 N) (hC : C0 (cf_580_87 v4 v5 v6 N)) : mz_G (d, mz_X0 L xs, some .boolean, [], mk_580, 7, Q) 87 mt_580_87 [(0, .ref 232), (4, .int v4), (5, .int v5), (6, .int v6)] [] false (mz_k S R N b t) := by
  unfold cf_580_87 at hC
  unfold cp_580_87 at hp
  refine g_iload rfl ?_
  refine g_iflt (tg := 111) rfl ms_580_111 hC (fun h1 hC => ?_) (fun h1 hC => ?_)
  · have hp := hp.1 h1
    refine g_iconst mzi_0 ?_
    exact g_zret (z := false) rfl (hr _ hC)
  · have hp := hp.2 h1
    refine g_aload_n rfl (g_getR (mz_at hS (Nat.le_of_ble_eq_true rfl) mzcS_232) mzcf_12_6 (mz_rb hR (Nat.le_of_ble_eq_true rfl) rfl mzcR_232_6) (g_iload rfl (g_iload rfl (g_iadd ?_))))
    have h2 := hp
    refine g_iald hS.1 (mz_at hS (Nat.le_of_ble_eq_true rfl) mzcS_235) h2 (g_iload rfl ?_)
    refine g_icne (tg := 111) rfl ms_580_111 hC (fun h3 hC => ?_) (fun h3 hC => ?_)
    · refine g_iconst mzi_1 (g_goto (tg := 112) rfl ms_580_112 ?_)
      exact g_zret (z := true) rfl (hr _ hC)
    · refine g_iconst mzi_0 ?_
      exact g_zret (z := false) rfl (hr _ hC)
theorem cg_580_0 (hd : 1 ≤ d) (hS : mz_extR S 342) (hR : mz_rok R 342)  (v1 : Int32) (v2 : Int32) (N : mz_N) {C0 : (Bool) → Prop} (hr : ∀ (w : Bool), C0 w → Q (.inl (some (.int (mz_b01 w)))) (mz_k S R N b t)) (hp : cp_580_0 v1 v2 N) (hC : C0 (cf_580_0 v1 v2 N)) : mz_G (d, mz_X0 L xs, some .boolean, [], mk_580, 7, Q) 0 mk_580 [(0, .ref 232), (1, .int v1), (2, .int v2)] [] true (mz_k S R N b t) := by
  unfold cf_580_0 at hC
  unfold cp_580_0 at hp
  refine g_aload_n rfl (g_getR (mz_at hS (Nat.le_of_ble_eq_true rfl) mzcS_232) mzcf_12_105 (mz_rb hR (Nat.le_of_ble_eq_true rfl) rfl mzcR_232_105) (g_iload_n rfl ?_))
  obtain ⟨h1, hp⟩ := hp
  refine g_iald hS.1 (mz_at hS (Nat.le_of_ble_eq_true rfl) mzcS_310) h1 ?_
  refine g_s1v (Nat.le_of_ble_eq_true rfl) (fun _ hq => cs_432 (Nat.le_trans (Nat.le_of_ble_eq_true rfl) hd) (hS.le (Nat.le_of_ble_eq_true rfl)) (hR.le (Nat.le_of_ble_eq_true rfl))  (mz_gI N 310 v2) trivial hq) (g_istore_n (Nat.le_of_ble_eq_true rfl) rfl (g_aload_n rfl (g_getR (mz_at hS (Nat.le_of_ble_eq_true rfl) mzcS_232) mzcf_12_105 (mz_rb hR (Nat.le_of_ble_eq_true rfl) rfl mzcR_232_105) (g_iload_n rfl ?_))))
  obtain ⟨h3, hp⟩ := hp
  refine g_iald hS.1 (mz_at hS (Nat.le_of_ble_eq_true rfl) mzcS_310) h3 ?_
  refine g_s1v (Nat.le_of_ble_eq_true rfl) (fun _ hq => cs_433 (Nat.le_trans (Nat.le_of_ble_eq_true rfl) hd) (hS.le (Nat.le_of_ble_eq_true rfl)) (hR.le (Nat.le_of_ble_eq_true rfl))  (mz_gI N 310 v2) trivial hq) (g_istore (Nat.le_of_ble_eq_true rfl) rfl (g_bipush mzb_48 (g_aload_n rfl (g_getR (mz_at hS (Nat.le_of_ble_eq_true rfl) mzcS_232) mzcf_12_104 (mz_rb hR (Nat.le_of_ble_eq_true rfl) rfl mzcR_232_104) (g_iload_n rfl ?_)))))
  obtain ⟨h5, hp⟩ := hp
  refine g_iald hS.1 (mz_at hS (Nat.le_of_ble_eq_true rfl) mzcS_309) h5 (g_imul (g_istore (Nat.le_of_ble_eq_true rfl) rfl (g_aload_n rfl (g_getR (mz_at hS (Nat.le_of_ble_eq_true rfl) mzcS_232) mzcf_12_111 (mz_rb hR (Nat.le_of_ble_eq_true rfl) rfl mzcR_232_111) (g_iload_n rfl ?_)))))
  obtain ⟨h6, hp⟩ := hp
  refine g_iald hS.1 (mz_at hS (Nat.le_of_ble_eq_true rfl) mzcS_316) h6 ?_
  refine g_ifge (tg := 56) rfl ms_580_56 hC (fun h7 hC => ?_) (fun h7 hC => ?_)
  · have hp := hp.1 h7
    refine g_iload_n rfl ?_
    refine g_iflt (tg := 50) rfl ms_580_50 hC (fun h8 hC => ?_) (fun h8 hC => ?_)
    · refine g_iconst mzi_1 (g_goto (tg := 55) rfl ms_580_55 ?_)
      exact g_zret (z := true) rfl (hr _ hC)
    · refine g_iload rfl ?_
      refine g_ifge (tg := 54) rfl ms_580_54 hC (fun h9 hC => ?_) (fun h9 hC => ?_)
      · refine g_iconst mzi_1 (g_goto (tg := 55) rfl ms_580_55 ?_)
        exact g_zret (z := true) rfl (hr _ hC)
      · refine g_iconst mzi_0 ?_
        exact g_zret (z := false) rfl (hr _ hC)
  · have hp := hp.2 h7
    refine g_aload_n rfl (g_getR (mz_at hS (Nat.le_of_ble_eq_true rfl) mzcS_232) mzcf_12_6 (mz_rb hR (Nat.le_of_ble_eq_true rfl) rfl mzcR_232_6) (g_aload_n rfl (g_getR (mz_at hS (Nat.le_of_ble_eq_true rfl) mzcS_232) mzcf_12_111 (mz_rb hR (Nat.le_of_ble_eq_true rfl) rfl mzcR_232_111) (g_iload_n rfl ?_))))
    obtain ⟨h10, hp⟩ := hp
    refine g_iald hS.1 (mz_at hS (Nat.le_of_ble_eq_true rfl) mzcS_316) h10 ?_
    obtain ⟨h11, hp⟩ := hp
    refine g_iald hS.1 (mz_at hS (Nat.le_of_ble_eq_true rfl) mzcS_235) h11 (g_istore (Nat.le_of_ble_eq_true rfl) rfl (g_iload_n rfl ?_))
    refine g_iflt (tg := 87) rfl ms_580_87 hC (fun h12 hC => ?_) (fun h12 hC => ?_)
    · have hp := hp.1 h12
      refine g_weak ?_ (g_cl (cg_580_87 hd hS hR (cf_433_0 (mz_gI N 310 v2)) (48 * (mz_gI N 309 v2)) (mz_gI N 235 (mz_gI N 316 v1)) N hr hp hC))
      exact ⟨rfl, rfl, rfl, rfl, trivial⟩
    · have hp := hp.2 h12
      refine g_aload_n rfl (g_getR (mz_at hS (Nat.le_of_ble_eq_true rfl) mzcS_232) mzcf_12_6 (mz_rb hR (Nat.le_of_ble_eq_true rfl) rfl mzcR_232_6) (g_iload rfl (g_iload_n rfl (g_iadd ?_))))
      obtain ⟨h13, hp⟩ := hp
      refine g_iald hS.1 (mz_at hS (Nat.le_of_ble_eq_true rfl) mzcS_235) h13 (g_iload rfl ?_)
      refine g_iceq (tg := 107) rfl ms_580_107 hC (fun h14 hC => ?_) (fun h14 hC => ?_)
      · have hp := hp.1 h14
        refine g_iconst mzi_1 (g_goto (tg := 112) rfl ms_580_112 ?_)
        exact g_zret (z := true) rfl (hr _ hC)
      · have hp := hp.2 h14
        refine g_weak ?_ (g_cl (cg_580_87 hd hS hR (cf_433_0 (mz_gI N 310 v2)) (48 * (mz_gI N 309 v2)) (mz_gI N 235 (mz_gI N 316 v1)) N hr hp hC))
        exact ⟨rfl, rfl, rfl, rfl, trivial⟩
theorem cs_580 (hd : 2 ≤ d) (hS : mz_extR S 342) (hR : mz_rok R 342)  (v1 : Int32) (v2 : Int32) (N : mz_N) (hp : cp_580_0 v1 v2 N) (hq : Q (.inl (some (.int (mz_b01 (cf_580_0 v1 v2 N))))) (mz_k S R N b t)) : mz_Ed (mz_X0 L xs) d 580 [.ref 232, .int v1, .int v2] (mz_k S R N b t) Q :=
  by
  refine g_in mzq_580 (Nat.le_of_ble_eq_true rfl) (Nat.le_of_ble_eq_true rfl) (Nat.le_trans (Nat.le_of_ble_eq_true rfl) hd) ?_
  refine g_weak ?_ (cg_580_0 (d := d - 1) (by omega) hS hR v1 v2 N (C0 := fun z => Q (.inl (some (.int (mz_b01 z)))) (mz_k S R N b t)) (fun _ h => h) hp hq)
  exact ⟨rfl, rfl, rfl, trivial⟩
/-! 581 KeptHouseModel.isInTime (I)Z -/
theorem ms_581_0 : mz_sf mk_581 0 = mk_581 := mz_sf_zero _
theorem ms_581_19 : mz_sf mk_581 19 = mt_581_19 := mz_sf_add ms_581_0 (t := 19) rfl rfl
theorem ms_581_20 : mz_sf mk_581 20 = mt_581_20 := mz_sf_add ms_581_19 (t := 1) rfl rfl
theorem ms_581_35 : mz_sf mk_581 35 = mt_581_35 := mz_sf_add ms_581_20 (t := 15) rfl rfl
theorem ms_581_36 : mz_sf mk_581 36 = mt_581_36 := mz_sf_add ms_581_35 (t := 1) rfl rfl
theorem ms_581_57 : mz_sf mk_581 57 = mt_581_57 := mz_sf_add ms_581_36 (t := 21) rfl rfl
theorem ms_581_62 : mz_sf mk_581 62 = mt_581_62 := mz_sf_add ms_581_57 (t := 5) rfl rfl
theorem ms_581_66 : mz_sf mk_581 66 = mt_581_66 := mz_sf_add ms_581_62 (t := 4) rfl rfl
theorem ms_581_70 : mz_sf mk_581 70 = mt_581_70 := mz_sf_add ms_581_66 (t := 4) rfl rfl
theorem ms_581_83 : mz_sf mk_581 83 = mt_581_83 := mz_sf_add ms_581_70 (t := 13) rfl rfl
theorem ms_581_84 : mz_sf mk_581 84 = mt_581_84 := mz_sf_add ms_581_83 (t := 1) rfl rfl
set_option maxRecDepth 100000 in
theorem mzq_581 : mz_PG0 581 = some (12, ⟨"KeptHouseModel", "isInTime", "(I)Z"⟩, prog_14_method_144_code, 5, some .boolean, [], mk_581, []) := rfl
theorem cg_581_36 (hd : 1 ≤ d) (hS : mz_extR S 342) (hR : mz_rok R 342)  (s0 : Bool) (v1 : Int32) (v3 : Bool) (N : mz_N) {C0 : (Bool) → Prop} (hr : ∀ (w : Bool), C0 w → Q (.inl (some (.int (mz_b01 w)))) (mz_k S R N b t)) (hp : cp_581_36 s0 v1 v3 N) (hC : C0 (cf_581_36 s0 v1 v3 N)) : mz_G (d, mz_X0 L xs, some .boolean, [], mk_581, 5, Q) 36 mt_581_36 [(0, .ref 232), (1, .int v1), (3, .int (mz_b01 v3))] [.int (mz_b01 s0)] false (mz_k S R N b t) := by
  unfold cf_581_36 at hC
  unfold cp_581_36 at hp
  refine g_istore (Nat.le_of_ble_eq_true rfl) rfl (g_aload_n rfl (g_getR (mz_at hS (Nat.le_of_ble_eq_true rfl) mzcS_232) mzcf_12_108 (mz_rb hR (Nat.le_of_ble_eq_true rfl) rfl mzcR_232_108) (g_iload_n rfl ?_)))
  obtain ⟨h1, hp⟩ := hp
  refine g_iald hS.1 (mz_at hS (Nat.le_of_ble_eq_true rfl) mzcS_313) h1 (g_aload_n rfl (g_getR (mz_at hS (Nat.le_of_ble_eq_true rfl) mzcS_232) mzcf_12_109 (mz_rb hR (Nat.le_of_ble_eq_true rfl) rfl mzcR_232_109) (g_iload_n rfl ?_)))
  have h2 := hp
  refine g_iald hS.1 (mz_at hS (Nat.le_of_ble_eq_true rfl) mzcS_314) h2 ?_
  refine g_icle (tg := 70) rfl ms_581_70 hC (fun h3 hC => ?_) (fun h3 hC => ?_)
  · refine g_iload_n rfl ?_
    refine g_zne (tg := 62) rfl ms_581_62 hC (fun h4 hC => ?_) (fun h4 hC => ?_)
    · refine g_iconst mzi_1 (g_goto (tg := 84) rfl ms_581_84 ?_)
      exact g_zret (z := true) rfl (hr _ hC)
    · refine g_iload rfl ?_
      refine g_zeq (tg := 66) rfl ms_581_66 hC (fun h5 hC => ?_) (fun h5 hC => ?_)
      · refine g_iconst mzi_1 (g_goto (tg := 84) rfl ms_581_84 ?_)
        exact g_zret (z := true) rfl (hr _ hC)
      · refine g_iconst mzi_0 (g_goto (tg := 84) rfl ms_581_84 ?_)
        exact g_zret (z := false) rfl (hr _ hC)
  · refine g_iload_n rfl ?_
    refine g_zeq (tg := 83) rfl ms_581_83 hC (fun h6 hC => ?_) (fun h6 hC => ?_)
    · refine g_iload rfl ?_
      refine g_zeq (tg := 83) rfl ms_581_83 hC (fun h7 hC => ?_) (fun h7 hC => ?_)
      · refine g_iconst mzi_1 (g_goto (tg := 84) rfl ms_581_84 ?_)
        exact g_zret (z := true) rfl (hr _ hC)
      · refine g_iconst mzi_0 ?_
        exact g_zret (z := false) rfl (hr _ hC)
    · refine g_iconst mzi_0 ?_
      exact g_zret (z := false) rfl (hr _ hC)
theorem cg_581_20 (hd : 1 ≤ d) (hS : mz_extR S 342) (hR : mz_rok R 342)  (s0 : Bool) (v1 : Int32) (v2 : Int32) (N : mz_N) {C0 : (Bool) → Prop} (hr : ∀ (w : Bool), C0 w → Q (.inl (some (.int (mz_b01 w)))) (mz_k S R N b t)) (hp : cp_581_20 s0 v1 v2 N) (hC : C0 (cf_581_20 s0 v1 v2 N)) : mz_G (d, mz_X0 L xs, some .boolean, [], mk_581, 5, Q) 20 mt_581_20 [(0, .ref 232), (1, .int v1), (2, .int v2)] [.int (mz_b01 s0)] false (mz_k S R N b t) := by
  unfold cf_581_20 at hC
  unfold cp_581_20 at hp
  refine g_istore_n (Nat.le_of_ble_eq_true rfl) rfl (g_iload_n rfl (g_aload_n rfl (g_getR (mz_at hS (Nat.le_of_ble_eq_true rfl) mzcS_232) mzcf_12_109 (mz_rb hR (Nat.le_of_ble_eq_true rfl) rfl mzcR_232_109) (g_iload_n rfl ?_))))
  obtain ⟨h1, hp⟩ := hp
  refine g_iald hS.1 (mz_at hS (Nat.le_of_ble_eq_true rfl) mzcS_314) h1 ?_
  refine g_icgt (tg := 35) rfl ms_581_35 hC (fun h2 hC => ?_) (fun h2 hC => ?_)
  · have hp := hp.1 h2
    refine g_iconst mzi_0 ?_
    refine g_weak ?_ (g_cl (cg_581_36 hd hS hR false v1 s0 N hr hp hC))
    exact ⟨rfl, rfl, rfl, trivial⟩
  · have hp := hp.2 h2
    refine g_iconst mzi_1 (g_goto (tg := 36) rfl ms_581_36 ?_)
    refine g_weak ?_ (g_cl (cg_581_36 hd hS hR true v1 s0 N hr hp hC))
    exact ⟨rfl, rfl, rfl, trivial⟩
theorem cg_581_0 (hd : 1 ≤ d) (hS : mz_extR S 342) (hR : mz_rok R 342)  (v1 : Int32) (N : mz_N) {C0 : (Bool) → Prop} (hr : ∀ (w : Bool), C0 w → Q (.inl (some (.int (mz_b01 w)))) (mz_k S R N b t)) (hp : cp_581_0 v1 N) (hC : C0 (cf_581_0 v1 N)) : mz_G (d, mz_X0 L xs, some .boolean, [], mk_581, 5, Q) 0 mk_581 [(0, .ref 232), (1, .int v1)] [] true (mz_k S R N b t) := by
  unfold cf_581_0 at hC
  unfold cp_581_0 at hp
  refine g_aload_n rfl ?_
  refine g_v1v (Nat.le_of_ble_eq_true rfl) (mz_at hS (Nat.le_of_ble_eq_true rfl) mzcS_232) (fun _ hq => cs_508 (Nat.le_trans (Nat.le_of_ble_eq_true rfl) hd) (hS.le (Nat.le_of_ble_eq_true rfl)) (hR.le (Nat.le_of_ble_eq_true rfl))  N trivial hq) (g_istore_n (Nat.le_of_ble_eq_true rfl) rfl (g_iload_n rfl (g_aload_n rfl (g_getR (mz_at hS (Nat.le_of_ble_eq_true rfl) mzcS_232) mzcf_12_108 (mz_rb hR (Nat.le_of_ble_eq_true rfl) rfl mzcR_232_108) (g_iload_n rfl ?_)))))
  obtain ⟨h2, hp⟩ := hp
  refine g_iald hS.1 (mz_at hS (Nat.le_of_ble_eq_true rfl) mzcS_313) h2 ?_
  refine g_iclt (tg := 19) rfl ms_581_19 hC (fun h3 hC => ?_) (fun h3 hC => ?_)
  · have hp := hp.1 h3
    refine g_iconst mzi_0 ?_
    refine g_weak ?_ (g_cl (cg_581_20 hd hS hR false v1 (cf_508_0 N) N hr hp hC))
    exact ⟨rfl, rfl, rfl, trivial⟩
  · have hp := hp.2 h3
    refine g_iconst mzi_1 (g_goto (tg := 20) rfl ms_581_20 ?_)
    refine g_weak ?_ (g_cl (cg_581_20 hd hS hR true v1 (cf_508_0 N) N hr hp hC))
    exact ⟨rfl, rfl, rfl, trivial⟩
theorem cs_581 (hd : 2 ≤ d) (hS : mz_extR S 342) (hR : mz_rok R 342)  (v1 : Int32) (N : mz_N) (hp : cp_581_0 v1 N) (hq : Q (.inl (some (.int (mz_b01 (cf_581_0 v1 N))))) (mz_k S R N b t)) : mz_Ed (mz_X0 L xs) d 581 [.ref 232, .int v1] (mz_k S R N b t) Q :=
  by
  refine g_in mzq_581 (Nat.le_of_ble_eq_true rfl) (Nat.le_of_ble_eq_true rfl) (Nat.le_trans (Nat.le_of_ble_eq_true rfl) hd) ?_
  refine g_weak ?_ (cg_581_0 (d := d - 1) (by omega) hS hR v1 N (C0 := fun z => Q (.inl (some (.int (mz_b01 z)))) (mz_k S R N b t)) (fun _ h => h) hp hq)
  exact ⟨rfl, rfl, trivial⟩
/-! 582 KeptHouseModel.pass (II)V -/
theorem ms_582_0 : mz_sf mk_582 0 = mk_582 := mz_sf_zero _
theorem ms_582_21 : mz_sf mk_582 21 = mt_582_21 := mz_sf_add ms_582_0 (t := 21) rfl rfl
theorem ms_582_41 : mz_sf mk_582 41 = mt_582_41 := mz_sf_add ms_582_21 (t := 20) rfl rfl
theorem ms_582_66 : mz_sf mk_582 66 = mt_582_66 := mz_sf_add ms_582_41 (t := 25) rfl rfl
theorem ms_582_67 : mz_sf mk_582 67 = mt_582_67 := mz_sf_add ms_582_66 (t := 1) rfl rfl
theorem ms_582_71 : mz_sf mk_582 71 = mt_582_71 := mz_sf_add ms_582_67 (t := 4) rfl rfl
theorem ms_582_72 : mz_sf mk_582 72 = mt_582_72 := mz_sf_add ms_582_71 (t := 1) rfl rfl
theorem ms_582_76 : mz_sf mk_582 76 = mt_582_76 := mz_sf_add ms_582_72 (t := 4) rfl rfl
theorem ms_582_130 : mz_sf mk_582 130 = mt_582_130 := mz_sf_add ms_582_76 (t := 54) rfl rfl
theorem ms_582_135 : mz_sf mk_582 135 = mt_582_135 := mz_sf_add ms_582_130 (t := 5) rfl rfl
theorem ms_582_136 : mz_sf mk_582 136 = mt_582_136 := mz_sf_add ms_582_135 (t := 1) rfl rfl
set_option maxRecDepth 100000 in
theorem mzq_582 : mz_PG0 582 = some (12, ⟨"KeptHouseModel", "pass", "(II)V"⟩, prog_14_method_146_code, 7, none, [], mk_582, []) := rfl
theorem cg_582_72 (hd : 1 ≤ d) (hS : mz_extR S 342) (hR : mz_rok R 342)  (s1 : Int32) (s2 : Int32) (N : mz_N) {C0 : (mz_N) → Prop} (hr : ∀ (N2 : mz_N), C0 N2 → Q (.inl none) (mz_k S R N2 b t)) (hp : cp_582_72 s1 s2 N) (hC : C0 (cf_582_72 s1 s2 N)) : mz_G (d, mz_X0 L xs, none, [], mk_582, 7, Q) 72 mt_582_72 [] [.int s2, .int s1, .ref 316] false (mz_k S R N b t) := by
  unfold cf_582_72 at hC
  unfold cp_582_72 at hp
  have h1 := hp
  refine g_iast (mz_at hS (Nat.le_of_ble_eq_true rfl) mzcS_316) h1 (g_goto (tg := 136) rfl ms_582_136 ?_)
  exact g_vret rfl (hr _ hC)
theorem cg_582_67 (hd : 1 ≤ d) (hS : mz_extR S 342) (hR : mz_rok R 342)  (s1 : Int32) (s2 : Int32) (s3 : Int32) (N : mz_N) {C0 : (mz_N) → Prop} (hr : ∀ (N2 : mz_N), C0 N2 → Q (.inl none) (mz_k S R N2 b t)) (hp : cp_582_67 s1 s2 s3 N) (hC : C0 (cf_582_67 s1 s2 s3 N)) : mz_G (d, mz_X0 L xs, none, [], mk_582, 7, Q) 67 mt_582_67 [] [.int s3, .int s2, .int s1, .ref 316] false (mz_k S R N b t) := by
  unfold cf_582_67 at hC
  unfold cp_582_67 at hp
  refine g_iadd (g_goto (tg := 72) rfl ms_582_72 ?_)
  refine g_weak ?_ (g_cl (cg_582_72 hd hS hR s1 (s2 + s3) N hr hp hC))
  exact trivial
theorem cg_582_41 (hd : 1 ≤ d) (hS : mz_extR S 342) (hR : mz_rok R 342)  (v1 : Int32) (v3 : Int32) (v4 : Int32) (v5 : Int32) (N : mz_N) {C0 : (mz_N) → Prop} (hr : ∀ (N2 : mz_N), C0 N2 → Q (.inl none) (mz_k S R N2 b t)) (hp : cp_582_41 v1 v3 v4 v5 N) (hC : C0 (cf_582_41 v1 v3 v4 v5 N)) : mz_G (d, mz_X0 L xs, none, [], mk_582, 7, Q) 41 mt_582_41 [(0, .ref 232), (1, .int v1), (3, .int v3), (4, .int v4), (5, .int v5)] [] false (mz_k S R N b t) := by
  unfold cf_582_41 at hC
  unfold cp_582_41 at hp
  refine g_aload_n rfl (g_getR (mz_at hS (Nat.le_of_ble_eq_true rfl) mzcS_232) mzcf_12_111 (mz_rb hR (Nat.le_of_ble_eq_true rfl) rfl mzcR_232_111) (g_iload_n rfl (g_aload_n rfl (g_getR (mz_at hS (Nat.le_of_ble_eq_true rfl) mzcS_232) mzcf_12_111 (mz_rb hR (Nat.le_of_ble_eq_true rfl) rfl mzcR_232_111) (g_iload_n rfl ?_)))))
  obtain ⟨h1, hp⟩ := hp
  refine g_iald hS.1 (mz_at hS (Nat.le_of_ble_eq_true rfl) mzcS_316) h1 ?_
  refine g_ifge (tg := 71) rfl ms_582_71 hC (fun h2 hC => ?_) (fun h2 hC => ?_)
  · have hp := hp.1 h2
    refine g_iload rfl (g_iload_n rfl ?_)
    refine g_ifge (tg := 66) rfl ms_582_66 hC (fun h3 hC => ?_) (fun h3 hC => ?_)
    · have hp := hp.1 h3
      refine g_iload rfl (g_goto (tg := 67) rfl ms_582_67 ?_)
      refine g_weak ?_ (g_cl (cg_582_67 hd hS hR v1 v5 v4 N hr hp hC))
      exact trivial
    · have hp := hp.2 h3
      refine g_iload_n rfl ?_
      refine g_weak ?_ (g_cl (cg_582_67 hd hS hR v1 v5 v3 N hr hp hC))
      exact trivial
  · have hp := hp.2 h2
    refine g_iconst mzi_m1 ?_
    refine g_weak ?_ (g_cl (cg_582_72 hd hS hR v1 (-1) N hr hp hC))
    exact trivial
theorem cg_582_135 (hd : 1 ≤ d) (hS : mz_extR S 342) (hR : mz_rok R 342)  (s1 : Int32) (s2 : Int32) (N : mz_N) {C0 : (mz_N) → Prop} (hr : ∀ (N2 : mz_N), C0 N2 → Q (.inl none) (mz_k S R N2 b t)) (hp : cp_582_135 s1 s2 N) (hC : C0 (cf_582_135 s1 s2 N)) : mz_G (d, mz_X0 L xs, none, [], mk_582, 7, Q) 135 mt_582_135 [] [.int s2, .int s1, .ref 316] false (mz_k S R N b t) := by
  unfold cf_582_135 at hC
  unfold cp_582_135 at hp
  have h1 := hp
  refine g_iast (mz_at hS (Nat.le_of_ble_eq_true rfl) mzcS_316) h1 ?_
  exact g_vret rfl (hr _ hC)
theorem cg_582_130 (hd : 1 ≤ d) (hS : mz_extR S 342) (hR : mz_rok R 342)  (s1 : Int32) (v4 : Int32) (v5 : Int32) (N : mz_N) {C0 : (mz_N) → Prop} (hr : ∀ (N2 : mz_N), C0 N2 → Q (.inl none) (mz_k S R N2 b t)) (hp : cp_582_130 s1 v4 v5 N) (hC : C0 (cf_582_130 s1 v4 v5 N)) : mz_G (d, mz_X0 L xs, none, [], mk_582, 7, Q) 130 mt_582_130 [(4, .int v4), (5, .int v5)] [.int s1, .ref 316] false (mz_k S R N b t) := by
  unfold cf_582_130 at hC
  unfold cp_582_130 at hp
  refine g_iload rfl (g_iload rfl (g_iadd ?_))
  refine g_weak ?_ (g_cl (cg_582_135 hd hS hR s1 (v5 + v4) N hr hp hC))
  exact trivial
theorem cg_582_0 (hd : 1 ≤ d) (hS : mz_extR S 342) (hR : mz_rok R 342)  (v1 : Int32) (v2 : Int32) (N : mz_N) {C0 : (mz_N) → Prop} (hr : ∀ (N2 : mz_N), C0 N2 → Q (.inl none) (mz_k S R N2 b t)) (hp : cp_582_0 v1 v2 N) (hC : C0 (cf_582_0 v1 v2 N)) : mz_G (d, mz_X0 L xs, none, [], mk_582, 7, Q) 0 mk_582 [(0, .ref 232), (1, .int v1), (2, .int v2)] [] true (mz_k S R N b t) := by
  unfold cf_582_0 at hC
  unfold cp_582_0 at hp
  refine g_aload_n rfl (g_getR (mz_at hS (Nat.le_of_ble_eq_true rfl) mzcS_232) mzcf_12_105 (mz_rb hR (Nat.le_of_ble_eq_true rfl) rfl mzcR_232_105) (g_iload_n rfl ?_))
  obtain ⟨h1, hp⟩ := hp
  refine g_iald hS.1 (mz_at hS (Nat.le_of_ble_eq_true rfl) mzcS_310) h1 ?_
  refine g_s1v (Nat.le_of_ble_eq_true rfl) (fun _ hq => cs_432 (Nat.le_trans (Nat.le_of_ble_eq_true rfl) hd) (hS.le (Nat.le_of_ble_eq_true rfl)) (hR.le (Nat.le_of_ble_eq_true rfl))  (mz_gI N 310 v2) trivial hq) (g_istore_n (Nat.le_of_ble_eq_true rfl) rfl (g_aload_n rfl (g_getR (mz_at hS (Nat.le_of_ble_eq_true rfl) mzcS_232) mzcf_12_105 (mz_rb hR (Nat.le_of_ble_eq_true rfl) rfl mzcR_232_105) (g_iload_n rfl ?_))))
  obtain ⟨h3, hp⟩ := hp
  refine g_iald hS.1 (mz_at hS (Nat.le_of_ble_eq_true rfl) mzcS_310) h3 ?_
  refine g_s1v (Nat.le_of_ble_eq_true rfl) (fun _ hq => cs_433 (Nat.le_trans (Nat.le_of_ble_eq_true rfl) hd) (hS.le (Nat.le_of_ble_eq_true rfl)) (hR.le (Nat.le_of_ble_eq_true rfl))  (mz_gI N 310 v2) trivial hq) (g_istore (Nat.le_of_ble_eq_true rfl) rfl (g_bipush mzb_48 (g_aload_n rfl (g_getR (mz_at hS (Nat.le_of_ble_eq_true rfl) mzcS_232) mzcf_12_104 (mz_rb hR (Nat.le_of_ble_eq_true rfl) rfl mzcR_232_104) (g_iload_n rfl ?_)))))
  obtain ⟨h5, hp⟩ := hp
  refine g_iald hS.1 (mz_at hS (Nat.le_of_ble_eq_true rfl) mzcS_309) h5 (g_imul (g_istore (Nat.le_of_ble_eq_true rfl) rfl (g_iload_n rfl ?_)))
  refine g_iflt (tg := 41) rfl ms_582_41 hC (fun h6 hC => ?_) (fun h6 hC => ?_)
  · have hp := hp.1 h6
    refine g_weak ?_ (g_cl (cg_582_41 hd hS hR v1 (cf_432_0 (mz_gI N 310 v2)) (cf_433_0 (mz_gI N 310 v2)) (48 * (mz_gI N 309 v2)) N hr hp hC))
    exact ⟨rfl, rfl, rfl, rfl, rfl, trivial⟩
  · have hp := hp.2 h6
    refine g_iload rfl ?_
    refine g_ifge (tg := 76) rfl ms_582_76 hC (fun h7 hC => ?_) (fun h7 hC => ?_)
    · have hp := hp.1 h7
      refine g_weak ?_ (g_cl (cg_582_41 hd hS hR v1 (cf_432_0 (mz_gI N 310 v2)) (cf_433_0 (mz_gI N 310 v2)) (48 * (mz_gI N 309 v2)) N hr hp hC))
      exact ⟨rfl, rfl, rfl, rfl, rfl, trivial⟩
    · have hp := hp.2 h7
      refine g_aload_n rfl (g_getR (mz_at hS (Nat.le_of_ble_eq_true rfl) mzcS_232) mzcf_12_6 (mz_rb hR (Nat.le_of_ble_eq_true rfl) rfl mzcR_232_6) (g_aload_n rfl (g_getR (mz_at hS (Nat.le_of_ble_eq_true rfl) mzcS_232) mzcf_12_111 (mz_rb hR (Nat.le_of_ble_eq_true rfl) rfl mzcR_232_111) (g_iload_n rfl ?_))))
      obtain ⟨h8, hp⟩ := hp
      refine g_iald hS.1 (mz_at hS (Nat.le_of_ble_eq_true rfl) mzcS_316) h8 ?_
      obtain ⟨h9, hp⟩ := hp
      refine g_iald hS.1 (mz_at hS (Nat.le_of_ble_eq_true rfl) mzcS_235) h9 (g_istore (Nat.le_of_ble_eq_true rfl) rfl (g_aload_n rfl (g_getR (mz_at hS (Nat.le_of_ble_eq_true rfl) mzcS_232) mzcf_12_111 (mz_rb hR (Nat.le_of_ble_eq_true rfl) rfl mzcR_232_111) (g_iload_n rfl (g_aload_n rfl (g_getR (mz_at hS (Nat.le_of_ble_eq_true rfl) mzcS_232) mzcf_12_6 (mz_rb hR (Nat.le_of_ble_eq_true rfl) rfl mzcR_232_6) (g_iload rfl ?_)))))))
      refine g_iload rfl (g_iadd ?_)
      obtain ⟨h10, hp⟩ := hp
      refine g_iald hS.1 (mz_at hS (Nat.le_of_ble_eq_true rfl) mzcS_235) h10 (g_iload rfl ?_)
      refine g_icne (tg := 130) rfl ms_582_130 hC (fun h11 hC => ?_) (fun h11 hC => ?_)
      · have hp := hp.1 h11
        refine g_aload_n rfl (g_getR (mz_at hS (Nat.le_of_ble_eq_true rfl) mzcS_232) mzcf_12_6 (mz_rb hR (Nat.le_of_ble_eq_true rfl) rfl mzcR_232_6) (g_iload rfl (g_iload_n rfl (g_iadd ?_))))
        obtain ⟨h12, hp⟩ := hp
        refine g_iald hS.1 (mz_at hS (Nat.le_of_ble_eq_true rfl) mzcS_235) h12 (g_iload rfl ?_)
        refine g_iceq (tg := 130) rfl ms_582_130 hC (fun h13 hC => ?_) (fun h13 hC => ?_)
        · have hp := hp.1 h13
          refine g_weak ?_ (g_cl (cg_582_130 hd hS hR v1 (cf_433_0 (mz_gI N 310 v2)) (48 * (mz_gI N 309 v2)) N hr hp hC))
          exact ⟨rfl, rfl, trivial⟩
        · have hp := hp.2 h13
          refine g_iload rfl (g_iload_n rfl (g_iadd (g_goto (tg := 135) rfl ms_582_135 ?_)))
          refine g_weak ?_ (g_cl (cg_582_135 hd hS hR v1 ((48 * (mz_gI N 309 v2)) + (cf_432_0 (mz_gI N 310 v2))) N hr hp hC))
          exact trivial
      · have hp := hp.2 h11
        refine g_weak ?_ (g_cl (cg_582_130 hd hS hR v1 (cf_433_0 (mz_gI N 310 v2)) (48 * (mz_gI N 309 v2)) N hr hp hC))
        exact ⟨rfl, rfl, trivial⟩
theorem cs_582 (hd : 2 ≤ d) (hS : mz_extR S 342) (hR : mz_rok R 342)  (v1 : Int32) (v2 : Int32) (N : mz_N) (hp : cp_582_0 v1 v2 N) (hq : Q (.inl none) (mz_k S R (cf_582_0 v1 v2 N) b t)) : mz_Ed (mz_X0 L xs) d 582 [.ref 232, .int v1, .int v2] (mz_k S R N b t) Q :=
  by
  refine g_in mzq_582 (Nat.le_of_ble_eq_true rfl) (Nat.le_of_ble_eq_true rfl) (Nat.le_trans (Nat.le_of_ble_eq_true rfl) hd) ?_
  refine g_weak ?_ (cg_582_0 (d := d - 1) (by omega) hS hR v1 v2 N (C0 := fun z => Q (.inl none) (mz_k S R z b t)) (fun _ h => h) hp hq)
  exact ⟨rfl, rfl, rfl, trivial⟩
/-! 578 KeptHouseModel.go (II)I -/
theorem ms_578_0 : mz_sf mk_578 0 = mk_578 := mz_sf_zero _
theorem ms_578_39 : mz_sf mk_578 39 = mt_578_39 := mz_sf_add ms_578_0 (t := 39) rfl rfl
theorem ms_578_40 : mz_sf mk_578 40 = mt_578_40 := mz_sf_add ms_578_39 (t := 1) rfl rfl
theorem ms_578_48 : mz_sf mk_578 48 = mt_578_48 := mz_sf_add ms_578_40 (t := 8) rfl rfl
theorem ms_578_49 : mz_sf mk_578 49 = mt_578_49 := mz_sf_add ms_578_48 (t := 1) rfl rfl
theorem ms_578_58 : mz_sf mk_578 58 = mt_578_58 := mz_sf_add ms_578_49 (t := 9) rfl rfl
theorem ms_578_71 : mz_sf mk_578 71 = mt_578_71 := mz_sf_add ms_578_58 (t := 13) rfl rfl
theorem ms_578_86 : mz_sf mk_578 86 = mt_578_86 := mz_sf_add ms_578_71 (t := 15) rfl rfl
theorem ms_578_99 : mz_sf mk_578 99 = mt_578_99 := mz_sf_add ms_578_86 (t := 13) rfl rfl
theorem ms_578_116 : mz_sf mk_578 116 = mt_578_116 := mz_sf_add ms_578_99 (t := 17) rfl rfl
theorem ms_578_128 : mz_sf mk_578 128 = mt_578_128 := mz_sf_add ms_578_116 (t := 12) rfl rfl
theorem ms_578_129 : mz_sf mk_578 129 = mt_578_129 := mz_sf_add ms_578_128 (t := 1) rfl rfl
theorem ms_578_140 : mz_sf mk_578 140 = mt_578_140 := mz_sf_add ms_578_129 (t := 11) rfl rfl
theorem ms_578_169 : mz_sf mk_578 169 = mt_578_169 := mz_sf_add ms_578_140 (t := 29) rfl rfl
theorem ms_578_195 : mz_sf mk_578 195 = mt_578_195 := mz_sf_add ms_578_169 (t := 26) rfl rfl
set_option maxRecDepth 100000 in
theorem mzq_578 : mz_PG0 578 = some (12, ⟨"KeptHouseModel", "go", "(II)I"⟩, prog_14_method_147_code, 4, some .int, [], mk_578, []) := rfl
theorem cg_578_195 (hd : 2 ≤ d) (hS : mz_extR S 342) (hR : mz_rok R 342)  (v3 : Int32) (N : mz_N) {C0 : (Int32 × mz_N) → Prop} (hr : ∀ (w : Int32) (N2 : mz_N), C0 (w, N2) → Q (.inl (some (.int w))) (mz_k S R N2 b t)) (hp : cp_578_195 v3 N) (hC : C0 (cf_578_195 v3 N)) : mz_G (d, mz_X0 L xs, some .int, [], mk_578, 4, Q) 195 mt_578_195 [(0, .ref 232), (3, .int v3)] [] false (mz_k S R N b t) := by
  unfold cf_578_195 at hC
  unfold cp_578_195 at hp
  refine g_aload_n rfl (g_dup rfl (g_getI (mz_at hS (Nat.le_of_ble_eq_true rfl) mzcS_232) mzcf_12_112 (g_iconst mzi_1 (g_iadd (g_putI (mz_at hS (Nat.le_of_ble_eq_true rfl) mzcS_232) mzcf_12_112 (g_iload_n rfl ?_))))))
  exact g_iret rfl (hr _ _ hC)
theorem cg_578_169 (hd : 2 ≤ d) (hS : mz_extR S 342) (hR : mz_rok R 342)  (v2 : Int32) (v3 : Int32) (N : mz_N) {C0 : (Int32 × mz_N) → Prop} (hr : ∀ (w : Int32) (N2 : mz_N), C0 (w, N2) → Q (.inl (some (.int w))) (mz_k S R N2 b t)) (hp : cp_578_169 v2 v3 N) (hC : C0 (cf_578_169 v2 v3 N)) : mz_G (d, mz_X0 L xs, some .int, [], mk_578, 4, Q) 169 mt_578_169 [(0, .ref 232), (2, .int v2), (3, .int v3)] [] false (mz_k S R N b t) := by
  unfold cf_578_169 at hC
  unfold cp_578_169 at hp
  refine g_aload_n rfl (g_getR (mz_at hS (Nat.le_of_ble_eq_true rfl) mzcS_232) mzcf_12_115 (mz_rb hR (Nat.le_of_ble_eq_true rfl) rfl mzcR_232_115) (g_aload_n rfl (g_getI (mz_at hS (Nat.le_of_ble_eq_true rfl) mzcS_232) mzcf_12_112 (g_bipush mzb_64 (g_irem (by decide) (g_iload_n rfl ?_))))))
  obtain ⟨h1, hp⟩ := hp
  refine g_iast (mz_at hS (Nat.le_of_ble_eq_true rfl) mzcS_319) h1 (g_aload_n rfl (g_getR (mz_at hS (Nat.le_of_ble_eq_true rfl) mzcS_232) mzcf_12_116 (mz_rb hR (Nat.le_of_ble_eq_true rfl) rfl mzcR_232_116) (g_aload_n rfl (g_getI (mz_at hS (Nat.le_of_ble_eq_true rfl) mzcS_232) mzcf_12_112 (g_bipush mzb_64 (g_irem (by decide) (g_iload_n rfl ?_)))))))
  obtain ⟨h2, hp⟩ := hp
  refine g_iast (mz_at hS (Nat.le_of_ble_eq_true rfl) mzcS_320) h2 ?_
  refine g_weak ?_ (g_cl (cg_578_195 hd hS hR v3 (mz_wI (mz_wI N 319 (mz_irem (N.1 232 112) 64) v2) 320 (mz_irem ((mz_wI N 319 (mz_irem (N.1 232 112) 64) v2).1 232 112) 64) v3) hr hp hC))
  exact ⟨rfl, rfl, trivial⟩
theorem cg_578_140 (hd : 2 ≤ d) (hS : mz_extR S 342) (hR : mz_rok R 342)  (v1 : Int32) (v2 : Int32) (v3 : Int32) (N : mz_N) {C0 : (Int32 × mz_N) → Prop} (hr : ∀ (w : Int32) (N2 : mz_N), C0 (w, N2) → Q (.inl (some (.int w))) (mz_k S R N2 b t)) (hp : cp_578_140 v1 v2 v3 N) (hC : C0 (cf_578_140 v1 v2 v3 N)) : mz_G (d, mz_X0 L xs, some .int, [], mk_578, 4, Q) 140 mt_578_140 [(0, .ref 232), (1, .int v1), (2, .int v2), (3, .int v3)] [] false (mz_k S R N b t) := by
  unfold cf_578_140 at hC
  unfold cp_578_140 at hp
  refine g_aload_n rfl (g_getR (mz_at hS (Nat.le_of_ble_eq_true rfl) mzcS_232) mzcf_12_113 (mz_rb hR (Nat.le_of_ble_eq_true rfl) rfl mzcR_232_113) (g_aload_n rfl (g_getI (mz_at hS (Nat.le_of_ble_eq_true rfl) mzcS_232) mzcf_12_112 (g_bipush mzb_64 (g_irem (by decide) (g_aload_n rfl (g_getL (mz_at hS (Nat.le_of_ble_eq_true rfl) mzcS_232) mzcf_12_2 ?_)))))))
  obtain ⟨h1, hp⟩ := hp
  refine g_last (mz_at hS (Nat.le_of_ble_eq_true rfl) mzcS_317) h1 (g_aload_n rfl (g_getR (mz_at hS (Nat.le_of_ble_eq_true rfl) mzcS_232) mzcf_12_114 (mz_rb hR (Nat.le_of_ble_eq_true rfl) rfl mzcR_232_114) (g_aload_n rfl (g_getI (mz_at hS (Nat.le_of_ble_eq_true rfl) mzcS_232) mzcf_12_112 (g_bipush mzb_64 (g_irem (by decide) (g_iload_n rfl ?_)))))))
  obtain ⟨h2, hp⟩ := hp
  refine g_iast (mz_at hS (Nat.le_of_ble_eq_true rfl) mzcS_318) h2 ?_
  refine g_weak ?_ (g_cl (cg_578_169 hd hS hR v2 v3 (mz_wI (mz_wL N 317 (mz_irem (N.1 232 112) 64) (N.2 232 2)) 318 (mz_irem ((mz_wL N 317 (mz_irem (N.1 232 112) 64) (N.2 232 2)).1 232 112) 64) v1) hr hp hC))
  exact ⟨rfl, rfl, rfl, trivial⟩
theorem cg_578_129 (hd : 2 ≤ d) (hS : mz_extR S 342) (hR : mz_rok R 342)  (s0 : Int32) (v1 : Int32) (v2 : Int32) (N : mz_N) {C0 : (Int32 × mz_N) → Prop} (hr : ∀ (w : Int32) (N2 : mz_N), C0 (w, N2) → Q (.inl (some (.int w))) (mz_k S R N2 b t)) (hp : cp_578_129 s0 v1 v2 N) (hC : C0 (cf_578_129 s0 v1 v2 N)) : mz_G (d, mz_X0 L xs, some .int, [], mk_578, 4, Q) 129 mt_578_129 [(0, .ref 232), (1, .int v1), (2, .int v2)] [.int s0] false (mz_k S R N b t) := by
  unfold cf_578_129 at hC
  unfold cp_578_129 at hp
  refine g_istore_n (Nat.le_of_ble_eq_true rfl) rfl (g_iload_n rfl ?_)
  refine g_ifne (tg := 140) rfl ms_578_140 hC (fun h1 hC => ?_) (fun h1 hC => ?_)
  · have hp := hp.1 h1
    refine g_aload_n rfl (g_iload_n rfl (g_iload_n rfl ?_))
    obtain ⟨h2, hp⟩ := hp
    refine g_v3n (Nat.le_of_ble_eq_true rfl) (mz_at hS (Nat.le_of_ble_eq_true rfl) mzcS_232) (fun _ hq => cs_582 (Nat.le_trans (Nat.le_of_ble_eq_true rfl) hd) (hS.le (Nat.le_of_ble_eq_true rfl)) (hR.le (Nat.le_of_ble_eq_true rfl))  v1 v2 N h2 hq) ?_
    refine g_weak ?_ (g_cl (cg_578_140 hd hS hR v1 v2 s0 (cf_582_0 v1 v2 N) hr hp hC))
    exact ⟨rfl, rfl, rfl, rfl, trivial⟩
  · have hp := hp.2 h1
    refine g_weak ?_ (g_cl (cg_578_140 hd hS hR v1 v2 s0 N hr hp hC))
    exact ⟨rfl, rfl, rfl, rfl, trivial⟩
theorem cg_578_49 (hd : 2 ≤ d) (hS : mz_extR S 342) (hR : mz_rok R 342)  (s1 : Bool) (v1 : Int32) (v2 : Int32) (N : mz_N) {C0 : (Int32 × mz_N) → Prop} (hr : ∀ (w : Int32) (N2 : mz_N), C0 (w, N2) → Q (.inl (some (.int w))) (mz_k S R N2 b t)) (hp : cp_578_49 s1 v1 v2 N) (hC : C0 (cf_578_49 s1 v1 v2 N)) : mz_G (d, mz_X0 L xs, some .int, [], mk_578, 4, Q) 49 mt_578_49 [(0, .ref 232), (1, .int v1), (2, .int v2)] [.int (mz_b01 s1), .ref 232] false (mz_k S R N b t) := by
  unfold cf_578_49 at hC
  unfold cp_578_49 at hp
  refine g_iconst mzi_1 ?_
  obtain ⟨h1, hp⟩ := hp
  refine g_v3v (Nat.le_of_ble_eq_true rfl) (mz_at hS (Nat.le_of_ble_eq_true rfl) mzcS_232) (fun _ hq => cs_462 (Nat.le_trans (Nat.le_of_ble_eq_true rfl) hd) (hS.le (Nat.le_of_ble_eq_true rfl)) (hR.le (Nat.le_of_ble_eq_true rfl))  s1 true N h1 hq) ?_
  refine g_zeq (tg := 58) rfl ms_578_58 hC (fun h2 hC => ?_) (fun h2 hC => ?_)
  · have hp := hp.1 h2
    refine g_iconst mzi_0 ?_
    exact g_iret rfl (hr _ _ hC)
  · have hp := hp.2 h2
    refine g_aload_n rfl (g_iload_n rfl (g_iload_n rfl ?_))
    obtain ⟨h3, hp⟩ := hp
    refine g_v3v (Nat.le_of_ble_eq_true rfl) (mz_at hS (Nat.le_of_ble_eq_true rfl) mzcS_232) (fun _ hq => cs_580 (Nat.le_trans (Nat.le_of_ble_eq_true rfl) hd) (hS.le (Nat.le_of_ble_eq_true rfl)) (hR.le (Nat.le_of_ble_eq_true rfl))  v1 v2 ((cf_462_0 s1 true N).2) h3 hq) ?_
    refine g_zne (tg := 71) rfl ms_578_71 hC (fun h4 hC => ?_) (fun h4 hC => ?_)
    · have hp := hp.1 h4
      refine g_aload_n rfl (g_getR (mz_at hS (Nat.le_of_ble_eq_true rfl) mzcS_232) mzcf_12_37 (mz_rb hR (Nat.le_of_ble_eq_true rfl) rfl mzcR_232_37) (g_bipush mzb_14 (g_iald hS.1 (mz_at hS (Nat.le_of_ble_eq_true rfl) mzcS_257) (mz_ibd (by decide)) (g_iconst mzi_1 ?_))))
      refine g_icne (tg := 86) rfl ms_578_86 hC (fun h5 hC => ?_) (fun h5 hC => ?_)
      · have hp := hp.1 h5
        refine g_iconst mzi_0 (g_goto (tg := 129) rfl ms_578_129 ?_)
        refine g_weak ?_ (g_cl (cg_578_129 hd hS hR 0 v1 v2 ((cf_462_0 s1 true N).2) hr hp hC))
        exact ⟨rfl, rfl, rfl, trivial⟩
      · have hp := hp.2 h5
        refine g_aload_n rfl (g_getR (mz_at hS (Nat.le_of_ble_eq_true rfl) mzcS_232) mzcf_12_110 (mz_rb hR (Nat.le_of_ble_eq_true rfl) rfl mzcR_232_110) (g_iload_n rfl ?_))
        obtain ⟨h6, hp⟩ := hp
        obtain ⟨h7, hp⟩ := hp
        refine g_zald (mz_at hS (Nat.le_of_ble_eq_true rfl) mzcS_315) h6 h7 ?_
        refine g_zeq (tg := 99) rfl ms_578_99 hC (fun h8 hC => ?_) (fun h8 hC => ?_)
        · have hp := hp.1 h8
          refine g_iconst mzi_3 (g_goto (tg := 129) rfl ms_578_129 ?_)
          refine g_weak ?_ (g_cl (cg_578_129 hd hS hR 3 v1 v2 ((cf_462_0 s1 true N).2) hr hp hC))
          exact ⟨rfl, rfl, rfl, trivial⟩
        · have hp := hp.2 h8
          refine g_aload_n rfl (g_getR (mz_at hS (Nat.le_of_ble_eq_true rfl) mzcS_232) mzcf_12_107 (mz_rb hR (Nat.le_of_ble_eq_true rfl) rfl mzcR_232_107) (g_iload_n rfl ?_))
          obtain ⟨h9, hp⟩ := hp
          refine g_iald hS.1 (mz_at hS (Nat.le_of_ble_eq_true rfl) mzcS_312) h9 (g_iload_n rfl (g_ishr (g_iconst mzi_1 (g_iand ?_))))
          refine g_ifne (tg := 116) rfl ms_578_116 hC (fun h10 hC => ?_) (fun h10 hC => ?_)
          · have hp := hp.1 h10
            refine g_iconst mzi_1 (g_goto (tg := 129) rfl ms_578_129 ?_)
            refine g_weak ?_ (g_cl (cg_578_129 hd hS hR 1 v1 v2 ((cf_462_0 s1 true N).2) hr hp hC))
            exact ⟨rfl, rfl, rfl, trivial⟩
          · have hp := hp.2 h10
            refine g_aload_n rfl (g_iload_n rfl ?_)
            obtain ⟨h11, hp⟩ := hp
            refine g_v2v (Nat.le_of_ble_eq_true rfl) (mz_at hS (Nat.le_of_ble_eq_true rfl) mzcS_232) (fun _ hq => cs_581 (Nat.le_trans (Nat.le_of_ble_eq_true rfl) hd) (hS.le (Nat.le_of_ble_eq_true rfl)) (hR.le (Nat.le_of_ble_eq_true rfl))  v1 ((cf_462_0 s1 true N).2) h11 hq) ?_
            refine g_zne (tg := 128) rfl ms_578_128 hC (fun h12 hC => ?_) (fun h12 hC => ?_)
            · have hp := hp.1 h12
              refine g_iconst mzi_0 ?_
              refine g_weak ?_ (g_cl (cg_578_129 hd hS hR 0 v1 v2 ((cf_462_0 s1 true N).2) hr hp hC))
              exact ⟨rfl, rfl, rfl, trivial⟩
            · have hp := hp.2 h12
              refine g_iconst mzi_2 (g_goto (tg := 129) rfl ms_578_129 ?_)
              refine g_weak ?_ (g_cl (cg_578_129 hd hS hR 2 v1 v2 ((cf_462_0 s1 true N).2) hr hp hC))
              exact ⟨rfl, rfl, rfl, trivial⟩
    · have hp := hp.2 h4
      refine g_iconst mzi_4 (g_goto (tg := 129) rfl ms_578_129 ?_)
      refine g_weak ?_ (g_cl (cg_578_129 hd hS hR 4 v1 v2 ((cf_462_0 s1 true N).2) hr hp hC))
      exact ⟨rfl, rfl, rfl, trivial⟩
theorem cg_578_48 (hd : 2 ≤ d) (hS : mz_extR S 342) (hR : mz_rok R 342)  (v1 : Int32) (v2 : Int32) (N : mz_N) {C0 : (Int32 × mz_N) → Prop} (hr : ∀ (w : Int32) (N2 : mz_N), C0 (w, N2) → Q (.inl (some (.int w))) (mz_k S R N2 b t)) (hp : cp_578_48 v1 v2 N) (hC : C0 (cf_578_48 v1 v2 N)) : mz_G (d, mz_X0 L xs, some .int, [], mk_578, 4, Q) 48 mt_578_48 [(0, .ref 232), (1, .int v1), (2, .int v2)] [.ref 232] false (mz_k S R N b t) := by
  unfold cf_578_48 at hC
  unfold cp_578_48 at hp
  refine g_iconst mzi_0 ?_
  refine g_weak ?_ (g_cl (cg_578_49 hd hS hR false v1 v2 N hr hp hC))
  exact ⟨rfl, rfl, rfl, trivial⟩
theorem cg_578_40 (hd : 2 ≤ d) (hS : mz_extR S 342) (hR : mz_rok R 342)  (s2 : Int32) (v1 : Int32) (v2 : Int32) (N : mz_N) {C0 : (Int32 × mz_N) → Prop} (hr : ∀ (w : Int32) (N2 : mz_N), C0 (w, N2) → Q (.inl (some (.int w))) (mz_k S R N2 b t)) (hp : cp_578_40 s2 v1 v2 N) (hC : C0 (cf_578_40 s2 v1 v2 N)) : mz_G (d, mz_X0 L xs, some .int, [], mk_578, 4, Q) 40 mt_578_40 [(0, .ref 232), (1, .int v1), (2, .int v2)] [.int s2, .ref 308, .ref 232] false (mz_k S R N b t) := by
  unfold cf_578_40 at hC
  unfold cp_578_40 at hp
  obtain ⟨h1, hp⟩ := hp
  obtain ⟨h2, hp⟩ := hp
  refine g_zald (mz_at hS (Nat.le_of_ble_eq_true rfl) mzcS_308) h1 h2 ?_
  refine g_zeq (tg := 48) rfl ms_578_48 hC (fun h3 hC => ?_) (fun h3 hC => ?_)
  · have hp := hp.1 h3
    refine g_iconst mzi_1 (g_goto (tg := 49) rfl ms_578_49 ?_)
    refine g_weak ?_ (g_cl (cg_578_49 hd hS hR true v1 v2 N hr hp hC))
    exact ⟨rfl, rfl, rfl, trivial⟩
  · have hp := hp.2 h3
    refine g_weak ?_ (g_cl (cg_578_48 hd hS hR v1 v2 N hr hp hC))
    exact ⟨rfl, rfl, rfl, trivial⟩
theorem cg_578_0 (hd : 2 ≤ d) (hS : mz_extR S 342) (hR : mz_rok R 342)  (v1 : Int32) (v2 : Int32) (N : mz_N) {C0 : (Int32 × mz_N) → Prop} (hr : ∀ (w : Int32) (N2 : mz_N), C0 (w, N2) → Q (.inl (some (.int w))) (mz_k S R N2 b t)) (hp : cp_578_0 v1 v2 N) (hC : C0 (cf_578_0 v1 v2 N)) : mz_G (d, mz_X0 L xs, some .int, [], mk_578, 4, Q) 0 mk_578 [(0, .ref 232), (1, .int v1), (2, .int v2)] [] true (mz_k S R N b t) := by
  unfold cf_578_0 at hC
  unfold cp_578_0 at hp
  refine g_aload_n rfl (g_aload_n rfl (g_iload_n rfl ?_))
  obtain ⟨h1, hp⟩ := hp
  refine g_v2v (Nat.le_of_ble_eq_true rfl) (mz_at hS (Nat.le_of_ble_eq_true rfl) mzcS_232) (fun _ hq => cs_579 (Nat.le_trans (Nat.le_of_ble_eq_true rfl) hd) (hS.le (Nat.le_of_ble_eq_true rfl)) (hR.le (Nat.le_of_ble_eq_true rfl))  v1 N h1 hq) ?_
  refine g_zeq (tg := 48) rfl ms_578_48 hC (fun h2 hC => ?_) (fun h2 hC => ?_)
  · have hp := hp.1 h2
    refine g_iload_n rfl ?_
    refine g_iflt (tg := 48) rfl ms_578_48 hC (fun h3 hC => ?_) (fun h3 hC => ?_)
    · have hp := hp.1 h3
      refine g_weak ?_ (g_cl (cg_578_48 hd hS hR v1 v2 N hr hp hC))
      exact ⟨rfl, rfl, rfl, trivial⟩
    · have hp := hp.2 h3
      refine g_iload_n rfl (g_bipush mzb_20 ?_)
      refine g_icge (tg := 48) rfl ms_578_48 hC (fun h4 hC => ?_) (fun h4 hC => ?_)
      · have hp := hp.1 h4
        refine g_aload_n rfl (g_getR (mz_at hS (Nat.le_of_ble_eq_true rfl) mzcS_232) mzcf_12_103 (mz_rb hR (Nat.le_of_ble_eq_true rfl) rfl mzcR_232_103) (g_iload_n rfl (g_i2l (g_lconst mzl_0 (g_con3 ?_)))))
        refine g_s3v (Nat.le_of_ble_eq_true rfl) (fun _ hq => cs_466 (Nat.le_trans (Nat.le_of_ble_eq_true rfl) hd) (hS.le (Nat.le_of_ble_eq_true rfl)) (hR.le (Nat.le_of_ble_eq_true rfl))  v2.toInt64 0 19 trivial hq) ?_
        refine g_zeq (tg := 39) rfl ms_578_39 hC (fun h6 hC => ?_) (fun h6 hC => ?_)
        · have hp := hp.1 h6
          refine g_iload_n rfl (g_goto (tg := 40) rfl ms_578_40 ?_)
          refine g_weak ?_ (g_cl (cg_578_40 hd hS hR v2 v1 v2 N hr hp hC))
          exact ⟨rfl, rfl, rfl, trivial⟩
        · have hp := hp.2 h6
          refine g_iconst mzi_0 ?_
          refine g_weak ?_ (g_cl (cg_578_40 hd hS hR 0 v1 v2 N hr hp hC))
          exact ⟨rfl, rfl, rfl, trivial⟩
      · have hp := hp.2 h4
        refine g_weak ?_ (g_cl (cg_578_48 hd hS hR v1 v2 N hr hp hC))
        exact ⟨rfl, rfl, rfl, trivial⟩
  · have hp := hp.2 h2
    refine g_weak ?_ (g_cl (cg_578_48 hd hS hR v1 v2 N hr hp hC))
    exact ⟨rfl, rfl, rfl, trivial⟩
theorem cs_578 (hd : 3 ≤ d) (hS : mz_extR S 342) (hR : mz_rok R 342)  (v1 : Int32) (v2 : Int32) (N : mz_N) (hp : cp_578_0 v1 v2 N) (hq : Q (.inl (some (.int ((cf_578_0 v1 v2 N).1)))) (mz_k S R ((cf_578_0 v1 v2 N).2) b t)) : mz_Ed (mz_X0 L xs) d 578 [.ref 232, .int v1, .int v2] (mz_k S R N b t) Q :=
  by
  refine g_in mzq_578 (Nat.le_of_ble_eq_true rfl) (Nat.le_of_ble_eq_true rfl) (Nat.le_trans (Nat.le_of_ble_eq_true rfl) hd) ?_
  refine g_weak ?_ (cg_578_0 (d := d - 1) (by omega) hS hR v1 v2 N (C0 := fun z => Q (.inl (some (.int z.1))) (mz_k S R z.2 b t)) (fun _ _ h => h) hp hq)
  exact ⟨rfl, rfl, rfl, trivial⟩
/-! 583 KeptHouseModel.place (I)I -/
theorem ms_583_0 : mz_sf mk_583 0 = mk_583 := mz_sf_zero _
theorem ms_583_17 : mz_sf mk_583 17 = mt_583_17 := mz_sf_add ms_583_0 (t := 17) rfl rfl
theorem ms_583_23 : mz_sf mk_583 23 = mt_583_23 := mz_sf_add ms_583_17 (t := 6) rfl rfl
set_option maxRecDepth 100000 in
theorem mzq_583 : mz_PG0 583 = some (12, ⟨"KeptHouseModel", "place", "(I)I"⟩, prog_14_method_148_code, 2, some .int, [], mk_583, []) := rfl
theorem cg_583_0 (hd : 1 ≤ d) (hS : mz_extR S 342) (hR : mz_rok R 342)  (v1 : Int32) (N : mz_N) {C0 : (Int32 × mz_N) → Prop} (hr : ∀ (w : Int32) (N2 : mz_N), C0 (w, N2) → Q (.inl (some (.int w))) (mz_k S R N2 b t)) (hp : cp_583_0 v1 N) (hC : C0 (cf_583_0 v1 N)) : mz_G (d, mz_X0 L xs, some .int, [], mk_583, 2, Q) 0 mk_583 [(0, .ref 232), (1, .int v1)] [] true (mz_k S R N b t) := by
  unfold cf_583_0 at hC
  unfold cp_583_0 at hp
  refine g_aload_n rfl (g_aload_n rfl (g_iload_n rfl ?_))
  obtain ⟨h1, hp⟩ := hp
  refine g_v2v (Nat.le_of_ble_eq_true rfl) (mz_at hS (Nat.le_of_ble_eq_true rfl) mzcS_232) (fun _ hq => cs_579 (Nat.le_trans (Nat.le_of_ble_eq_true rfl) hd) (hS.le (Nat.le_of_ble_eq_true rfl)) (hR.le (Nat.le_of_ble_eq_true rfl))  v1 N h1 hq) (g_iconst mzi_1 ?_)
  obtain ⟨h2, hp⟩ := hp
  refine g_v3v (Nat.le_of_ble_eq_true rfl) (mz_at hS (Nat.le_of_ble_eq_true rfl) mzcS_232) (fun _ hq => cs_462 (Nat.le_trans (Nat.le_of_ble_eq_true rfl) hd) (hS.le (Nat.le_of_ble_eq_true rfl)) (hR.le (Nat.le_of_ble_eq_true rfl))  (cf_579_0 v1 N) true N h2 hq) ?_
  refine g_zeq (tg := 17) rfl ms_583_17 hC (fun h3 hC => ?_) (fun h3 hC => ?_)
  · have hp := hp.1 h3
    refine g_iconst mzi_0 (g_goto (tg := 23) rfl ms_583_23 ?_)
    exact g_iret rfl (hr _ _ hC)
  · have hp := hp.2 h3
    refine g_aload_n rfl (g_getR (mz_at hS (Nat.le_of_ble_eq_true rfl) mzcS_232) mzcf_12_111 (mz_rb hR (Nat.le_of_ble_eq_true rfl) rfl mzcR_232_111) (g_iload_n rfl ?_))
    have h4 := hp
    refine g_iald hS.1 (mz_at hS (Nat.le_of_ble_eq_true rfl) mzcS_316) h4 ?_
    exact g_iret rfl (hr _ _ hC)
theorem cs_583 (hd : 2 ≤ d) (hS : mz_extR S 342) (hR : mz_rok R 342)  (v1 : Int32) (N : mz_N) (hp : cp_583_0 v1 N) (hq : Q (.inl (some (.int ((cf_583_0 v1 N).1)))) (mz_k S R ((cf_583_0 v1 N).2) b t)) : mz_Ed (mz_X0 L xs) d 583 [.ref 232, .int v1] (mz_k S R N b t) Q :=
  by
  refine g_in mzq_583 (Nat.le_of_ble_eq_true rfl) (Nat.le_of_ble_eq_true rfl) (Nat.le_trans (Nat.le_of_ble_eq_true rfl) hd) ?_
  refine g_weak ?_ (cg_583_0 (d := d - 1) (by omega) hS hR v1 N (C0 := fun z => Q (.inl (some (.int z.1))) (mz_k S R z.2 b t)) (fun _ _ h => h) hp hq)
  exact ⟨rfl, rfl, trivial⟩
/-! 584 KeptHouseModel.inside (I)I -/
theorem ms_584_0 : mz_sf mk_584 0 = mk_584 := mz_sf_zero _
theorem ms_584_21 : mz_sf mk_584 21 = mt_584_21 := mz_sf_add ms_584_0 (t := 21) rfl rfl
theorem ms_584_23 : mz_sf mk_584 23 = mt_584_23 := mz_sf_add ms_584_21 (t := 2) rfl rfl
theorem ms_584_27 : mz_sf mk_584 27 = mt_584_27 := mz_sf_add ms_584_23 (t := 4) rfl rfl
theorem ms_584_69 : mz_sf mk_584 69 = mt_584_69 := mz_sf_add ms_584_27 (t := 42) rfl rfl
theorem ms_584_75 : mz_sf mk_584 75 = mt_584_75 := mz_sf_add ms_584_69 (t := 6) rfl rfl
theorem ms_584_84 : mz_sf mk_584 84 = mt_584_84 := mz_sf_add ms_584_75 (t := 9) rfl rfl
theorem ms_584_85 : mz_sf mk_584 85 = mt_584_85 := mz_sf_add ms_584_84 (t := 1) rfl rfl
theorem ms_584_93 : mz_sf mk_584 93 = mt_584_93 := mz_sf_add ms_584_85 (t := 8) rfl rfl
set_option maxRecDepth 100000 in
theorem mzq_584 : mz_PG0 584 = some (12, ⟨"KeptHouseModel", "inside", "(I)I"⟩, prog_14_method_149_code, 4, some .int, [], mk_584, []) := rfl
theorem cg_584_21 (hd : 1 ≤ d) (hS : mz_extR S 342) (hR : mz_rok R 342)  (N : mz_N) {C0 : (Int32 × mz_N) → Prop} (hr : ∀ (w : Int32) (N2 : mz_N), C0 (w, N2) → Q (.inl (some (.int w))) (mz_k S R N2 b t)) (hp : cp_584_21 N) (hC : C0 (cf_584_21 N)) : mz_G (d, mz_X0 L xs, some .int, [], mk_584, 4, Q) 21 mt_584_21 [] [] false (mz_k S R N b t) := by
  unfold cf_584_21 at hC
  unfold cp_584_21 at hp
  refine g_iconst mzi_0 ?_
  exact g_iret rfl (hr _ _ hC)
theorem cg_584_85 (hd : 1 ≤ d) (hS : mz_extR S 342) (hR : mz_rok R 342)  (s0 : Int32) (s1 : Bool) (v1 : Int32) (v3 : Int32) (N : mz_N) {C0 : (Int32 × mz_N) → Prop} (hr : ∀ (w : Int32) (N2 : mz_N), C0 (w, N2) → Q (.inl (some (.int w))) (mz_k S R N2 b t)) {C1 : ((Int32 × Int32) ⊕ (Int32 × mz_N)) → Prop} (hc1 : ∀ s2, C1 (.inl s2) → mz_G (d, mz_X0 L xs, some .int, [], mk_584, 4, Q) 27 mt_584_27 [(0, .ref 232), (1, .int v1), (2, .int s2.1), (3, .int s2.2)] [] false (mz_k S R N b t)) (hx1 : ∀ z, C1 (.inr z) → C0 z) (hp : cp_584_85 s0 s1 v1 v3 N) (hC : C1 (cf_584_85 s0 s1 v1 v3 N)) : mz_G (d, mz_X0 L xs, some .int, [], mk_584, 4, Q) 85 mt_584_85 [(0, .ref 232), (1, .int v1), (3, .int v3)] [.int (mz_b01 s1), .int s0] false (mz_k S R N b t) := by
  unfold cf_584_85 at hC
  unfold cp_584_85 at hp
  refine g_iadd (g_istore_n (Nat.le_of_ble_eq_true rfl) rfl (g_iinc rfl mzi_1 (Nat.le_of_ble_eq_true rfl) rfl (g_goto (tg := 27) rfl ms_584_27 ?_)))
  refine g_weak ?_ (g_cl (hc1 ((s0 + (mz_b01 s1)), (v3 + 1)) hC))
  exact ⟨rfl, rfl, rfl, rfl, trivial⟩
theorem cg_584_84 (hd : 1 ≤ d) (hS : mz_extR S 342) (hR : mz_rok R 342)  (s0 : Int32) (v1 : Int32) (v3 : Int32) (N : mz_N) {C0 : (Int32 × mz_N) → Prop} (hr : ∀ (w : Int32) (N2 : mz_N), C0 (w, N2) → Q (.inl (some (.int w))) (mz_k S R N2 b t)) {C1 : ((Int32 × Int32) ⊕ (Int32 × mz_N)) → Prop} (hc1 : ∀ s2, C1 (.inl s2) → mz_G (d, mz_X0 L xs, some .int, [], mk_584, 4, Q) 27 mt_584_27 [(0, .ref 232), (1, .int v1), (2, .int s2.1), (3, .int s2.2)] [] false (mz_k S R N b t)) (hx1 : ∀ z, C1 (.inr z) → C0 z) (hp : cp_584_84 s0 v1 v3 N) (hC : C1 (cf_584_84 s0 v1 v3 N)) : mz_G (d, mz_X0 L xs, some .int, [], mk_584, 4, Q) 84 mt_584_84 [(0, .ref 232), (1, .int v1), (3, .int v3)] [.int s0] false (mz_k S R N b t) := by
  unfold cf_584_84 at hC
  unfold cp_584_84 at hp
  refine g_iconst mzi_0 ?_
  refine g_weak ?_ (g_cl (cg_584_85 hd hS hR s0 false v1 v3 N hr hc1 hx1 hp hC))
  exact ⟨rfl, rfl, rfl, trivial⟩
theorem cg_584_75 (hd : 1 ≤ d) (hS : mz_extR S 342) (hR : mz_rok R 342)  (s0 : Int32) (s2 : Int32) (v1 : Int32) (v3 : Int32) (N : mz_N) {C0 : (Int32 × mz_N) → Prop} (hr : ∀ (w : Int32) (N2 : mz_N), C0 (w, N2) → Q (.inl (some (.int w))) (mz_k S R N2 b t)) {C1 : ((Int32 × Int32) ⊕ (Int32 × mz_N)) → Prop} (hc1 : ∀ s2, C1 (.inl s2) → mz_G (d, mz_X0 L xs, some .int, [], mk_584, 4, Q) 27 mt_584_27 [(0, .ref 232), (1, .int v1), (2, .int s2.1), (3, .int s2.2)] [] false (mz_k S R N b t)) (hx1 : ∀ z, C1 (.inr z) → C0 z) (hp : cp_584_75 s0 s2 v1 v3 N) (hC : C1 (cf_584_75 s0 s2 v1 v3 N)) : mz_G (d, mz_X0 L xs, some .int, [], mk_584, 4, Q) 75 mt_584_75 [(0, .ref 232), (1, .int v1), (3, .int v3)] [.int s2, .ref 235, .int s0] false (mz_k S R N b t) := by
  unfold cf_584_75 at hC
  unfold cp_584_75 at hp
  obtain ⟨h1, hp⟩ := hp
  refine g_iald hS.1 (mz_at hS (Nat.le_of_ble_eq_true rfl) mzcS_235) h1 (g_iload_n rfl ?_)
  refine g_icne (tg := 84) rfl ms_584_84 hC (fun h2 hC => ?_) (fun h2 hC => ?_)
  · have hp := hp.1 h2
    refine g_iconst mzi_1 (g_goto (tg := 85) rfl ms_584_85 ?_)
    refine g_weak ?_ (g_cl (cg_584_85 hd hS hR s0 true v1 v3 N hr hc1 hx1 hp hC))
    exact ⟨rfl, rfl, rfl, trivial⟩
  · have hp := hp.2 h2
    refine g_weak ?_ (g_cl (cg_584_84 hd hS hR s0 v1 v3 N hr hc1 hx1 hp hC))
    exact ⟨rfl, rfl, rfl, trivial⟩
theorem cb_584_27 (hd : 1 ≤ d) (hS : mz_extR S 342) (hR : mz_rok R 342)  (v1 : Int32) (N : mz_N) (s : Int32 × Int32) {C0 : (Int32 × mz_N) → Prop} (hr : ∀ (w : Int32) (N2 : mz_N), C0 (w, N2) → Q (.inl (some (.int w))) (mz_k S R N2 b t)) {C1 : ((Int32 × Int32) ⊕ (Int32 × mz_N)) → Prop} (hc1 : ∀ s2, C1 (.inl s2) → mz_G (d, mz_X0 L xs, some .int, [], mk_584, 4, Q) 27 mt_584_27 [(0, .ref 232), (1, .int v1), (2, .int s2.1), (3, .int s2.2)] [] false (mz_k S R N b t)) (hx1 : ∀ z, C1 (.inr z) → C0 z) (hp : cd_584_27 v1 N s) (hC : C1 (cq_584_27 v1 N s)) : mz_G (d, mz_X0 L xs, some .int, [], mk_584, 4, Q) 27 mt_584_27 [(0, .ref 232), (1, .int v1), (2, .int s.1), (3, .int s.2)] [] false (mz_k S R N b t) := by
  unfold cq_584_27 at hC
  unfold cd_584_27 at hp
  refine g_iload_n rfl (g_bipush mzb_40 ?_)
  refine g_icge (tg := 93) rfl ms_584_93 hC (fun h1 hC => ?_) (fun h1 hC => ?_)
  · have hp := hp.1 h1
    refine g_iload_n rfl (g_aload_n rfl (g_getR (mz_at hS (Nat.le_of_ble_eq_true rfl) mzcS_232) mzcf_12_106 (mz_rb hR (Nat.le_of_ble_eq_true rfl) rfl mzcR_232_106) (g_iload_n rfl ?_)))
    obtain ⟨h2, hp⟩ := hp
    obtain ⟨h3, hp⟩ := hp
    refine g_zald (mz_at hS (Nat.le_of_ble_eq_true rfl) mzcS_311) h2 h3 ?_
    refine g_zeq (tg := 84) rfl ms_584_84 hC (fun h4 hC => ?_) (fun h4 hC => ?_)
    · have hp := hp.1 h4
      refine g_aload_n rfl (g_getR (mz_at hS (Nat.le_of_ble_eq_true rfl) mzcS_232) mzcf_12_111 (mz_rb hR (Nat.le_of_ble_eq_true rfl) rfl mzcR_232_111) (g_iload_n rfl ?_))
      obtain ⟨h5, hp⟩ := hp
      refine g_iald hS.1 (mz_at hS (Nat.le_of_ble_eq_true rfl) mzcS_316) h5 ?_
      refine g_iflt (tg := 84) rfl ms_584_84 hC (fun h6 hC => ?_) (fun h6 hC => ?_)
      · have hp := hp.1 h6
        refine g_weak ?_ (g_cl (cg_584_84 hd hS hR s.1 v1 s.2 N hr hc1 hx1 hp hC))
        exact ⟨rfl, rfl, rfl, trivial⟩
      · have hp := hp.2 h6
        refine g_aload_n rfl (g_getR (mz_at hS (Nat.le_of_ble_eq_true rfl) mzcS_232) mzcf_12_6 (mz_rb hR (Nat.le_of_ble_eq_true rfl) rfl mzcR_232_6) (g_aload_n rfl (g_getR (mz_at hS (Nat.le_of_ble_eq_true rfl) mzcS_232) mzcf_12_111 (mz_rb hR (Nat.le_of_ble_eq_true rfl) rfl mzcR_232_111) (g_iload_n rfl ?_))))
        obtain ⟨h7, hp⟩ := hp
        refine g_iald hS.1 (mz_at hS (Nat.le_of_ble_eq_true rfl) mzcS_316) h7 ?_
        refine g_ifge (tg := 69) rfl ms_584_69 hC (fun h8 hC => ?_) (fun h8 hC => ?_)
        · have hp := hp.1 h8
          refine g_iconst mzi_0 (g_goto (tg := 75) rfl ms_584_75 ?_)
          refine g_weak ?_ (g_cl (cg_584_75 hd hS hR s.1 0 v1 s.2 N hr hc1 hx1 hp hC))
          exact ⟨rfl, rfl, rfl, trivial⟩
        · have hp := hp.2 h8
          refine g_aload_n rfl (g_getR (mz_at hS (Nat.le_of_ble_eq_true rfl) mzcS_232) mzcf_12_111 (mz_rb hR (Nat.le_of_ble_eq_true rfl) rfl mzcR_232_111) (g_iload_n rfl ?_))
          obtain ⟨h9, hp⟩ := hp
          refine g_iald hS.1 (mz_at hS (Nat.le_of_ble_eq_true rfl) mzcS_316) h9 ?_
          refine g_weak ?_ (g_cl (cg_584_75 hd hS hR s.1 (mz_gI N 316 s.2) v1 s.2 N hr hc1 hx1 hp hC))
          exact ⟨rfl, rfl, rfl, trivial⟩
    · have hp := hp.2 h4
      refine g_weak ?_ (g_cl (cg_584_84 hd hS hR s.1 v1 s.2 N hr hc1 hx1 hp hC))
      exact ⟨rfl, rfl, rfl, trivial⟩
  · have hp := hp.2 h1
    refine g_iload_n rfl ?_
    exact g_iret rfl (hr _ _ (hx1 _ hC))
theorem cg_584_27 (hd : 1 ≤ d) (hS : mz_extR S 342) (hR : mz_rok R 342)  (v1 : Int32) (v2 : Int32) (v3 : Int32) (N : mz_N) {C0 : (Int32 × mz_N) → Prop} (hr : ∀ (w : Int32) (N2 : mz_N), C0 (w, N2) → Q (.inl (some (.int w))) (mz_k S R N2 b t)) (hp : cp_584_27 v1 v2 v3 N) (hC : C0 (cf_584_27 v1 v2 v3 N)) : mz_G (d, mz_X0 L xs, some .int, [], mk_584, 4, Q) 27 mt_584_27 [(0, .ref 232), (1, .int v1), (2, .int v2), (3, .int v3)] [] false (mz_k S R N b t) := by
  obtain ⟨n, hn⟩ := hp
  exact g_loop (G := fun s => mz_G (d, mz_X0 L xs, some .int, [], mk_584, 4, Q) 27 mt_584_27 [(0, .ref 232), (1, .int v1), (2, .int s.1), (3, .int s.2)] [] false (mz_k S R N b t)) (C := C0) (fun C2 hc hx s hP hC => cb_584_27 hd hS hR v1 N s hr hc hx hP hC) n (v2, v3) hn hC
theorem cg_584_23 (hd : 1 ≤ d) (hS : mz_extR S 342) (hR : mz_rok R 342)  (v1 : Int32) (N : mz_N) {C0 : (Int32 × mz_N) → Prop} (hr : ∀ (w : Int32) (N2 : mz_N), C0 (w, N2) → Q (.inl (some (.int w))) (mz_k S R N2 b t)) (hp : cp_584_23 v1 N) (hC : C0 (cf_584_23 v1 N)) : mz_G (d, mz_X0 L xs, some .int, [], mk_584, 4, Q) 23 mt_584_23 [(0, .ref 232), (1, .int v1)] [] false (mz_k S R N b t) := by
  unfold cf_584_23 at hC
  unfold cp_584_23 at hp
  refine g_iconst mzi_0 (g_istore_n (Nat.le_of_ble_eq_true rfl) rfl (g_iconst mzi_0 (g_istore_n (Nat.le_of_ble_eq_true rfl) rfl ?_)))
  refine g_weak ?_ (g_cl (cg_584_27 hd hS hR v1 0 0 N hr hp hC))
  exact ⟨rfl, rfl, rfl, rfl, trivial⟩
theorem cg_584_0 (hd : 1 ≤ d) (hS : mz_extR S 342) (hR : mz_rok R 342)  (v1 : Int32) (N : mz_N) {C0 : (Int32 × mz_N) → Prop} (hr : ∀ (w : Int32) (N2 : mz_N), C0 (w, N2) → Q (.inl (some (.int w))) (mz_k S R N2 b t)) (hp : cp_584_0 v1 N) (hC : C0 (cf_584_0 v1 N)) : mz_G (d, mz_X0 L xs, some .int, [], mk_584, 4, Q) 0 mk_584 [(0, .ref 232), (1, .int v1)] [] true (mz_k S R N b t) := by
  unfold cf_584_0 at hC
  unfold cp_584_0 at hp
  refine g_aload_n rfl (g_iload_n rfl (g_i2l (g_lconst mzl_0 (g_aload_n rfl (g_getI (mz_at hS (Nat.le_of_ble_eq_true rfl) mzcS_232) mzcf_12_7 (g_iconst mzi_1 (g_isub ?_)))))))
  refine g_i2l ?_
  refine g_s3v (Nat.le_of_ble_eq_true rfl) (fun _ hq => cs_466 (Nat.le_trans (Nat.le_of_ble_eq_true rfl) hd) (hS.le (Nat.le_of_ble_eq_true rfl)) (hR.le (Nat.le_of_ble_eq_true rfl))  v1.toInt64 0 (((N.1 232 7) - 1).toInt64) trivial hq) (g_iconst mzi_1 ?_)
  obtain ⟨h2, hp⟩ := hp
  refine g_v3v (Nat.le_of_ble_eq_true rfl) (mz_at hS (Nat.le_of_ble_eq_true rfl) mzcS_232) (fun _ hq => cs_462 (Nat.le_trans (Nat.le_of_ble_eq_true rfl) hd) (hS.le (Nat.le_of_ble_eq_true rfl)) (hR.le (Nat.le_of_ble_eq_true rfl))  (cf_466_0 v1.toInt64 0 (((N.1 232 7) - 1).toInt64)) true N h2 hq) ?_
  refine g_zeq (tg := 23) rfl ms_584_23 hC (fun h3 hC => ?_) (fun h3 hC => ?_)
  · have hp := hp.1 h3
    refine g_weak ?_ (g_cl (cg_584_21 hd hS hR ((cf_462_0 (cf_466_0 v1.toInt64 0 (((N.1 232 7) - 1).toInt64)) true N).2) hr hp hC))
    exact trivial
  · have hp := hp.2 h3
    refine g_weak ?_ (g_cl (cg_584_23 hd hS hR v1 ((cf_462_0 (cf_466_0 v1.toInt64 0 (((N.1 232 7) - 1).toInt64)) true N).2) hr hp hC))
    exact ⟨rfl, rfl, trivial⟩
theorem cs_584 (hd : 2 ≤ d) (hS : mz_extR S 342) (hR : mz_rok R 342)  (v1 : Int32) (N : mz_N) (hp : cp_584_0 v1 N) (hq : Q (.inl (some (.int ((cf_584_0 v1 N).1)))) (mz_k S R ((cf_584_0 v1 N).2) b t)) : mz_Ed (mz_X0 L xs) d 584 [.ref 232, .int v1] (mz_k S R N b t) Q :=
  by
  refine g_in mzq_584 (Nat.le_of_ble_eq_true rfl) (Nat.le_of_ble_eq_true rfl) (Nat.le_trans (Nat.le_of_ble_eq_true rfl) hd) ?_
  refine g_weak ?_ (cg_584_0 (d := d - 1) (by omega) hS hR v1 N (C0 := fun z => Q (.inl (some (.int z.1))) (mz_k S R z.2 b t)) (fun _ _ h => h) hp hq)
  exact ⟨rfl, rfl, trivial⟩
/-! 585 KeptHouseModel.log (II)I -/
theorem ms_585_0 : mz_sf mk_585 0 = mk_585 := mz_sf_zero _
theorem ms_585_30 : mz_sf mk_585 30 = mt_585_30 := mz_sf_add ms_585_0 (t := 30) rfl rfl
theorem ms_585_31 : mz_sf mk_585 31 = mt_585_31 := mz_sf_add ms_585_30 (t := 1) rfl rfl
theorem ms_585_40 : mz_sf mk_585 40 = mt_585_40 := mz_sf_add ms_585_31 (t := 9) rfl rfl
theorem ms_585_66 : mz_sf mk_585 66 = mt_585_66 := mz_sf_add ms_585_40 (t := 26) rfl rfl
theorem ms_585_80 : mz_sf mk_585 80 = mt_585_80 := mz_sf_add ms_585_66 (t := 14) rfl rfl
theorem ms_585_94 : mz_sf mk_585 94 = mt_585_94 := mz_sf_add ms_585_80 (t := 14) rfl rfl
theorem ms_585_100 : mz_sf mk_585 100 = mt_585_100 := mz_sf_add ms_585_94 (t := 6) rfl rfl
set_option maxRecDepth 100000 in
theorem mzq_585 : mz_PG0 585 = some (12, ⟨"KeptHouseModel", "log", "(II)I"⟩, prog_14_method_150_code, 4, some .int, [], mk_585, []) := rfl
theorem cg_585_31 (hd : 1 ≤ d) (hS : mz_extR S 342) (hR : mz_rok R 342)  (s1 : Bool) (v1 : Int32) (v2 : Int32) (N : mz_N) {C0 : (Int32 × mz_N) → Prop} (hr : ∀ (w : Int32) (N2 : mz_N), C0 (w, N2) → Q (.inl (some (.int w))) (mz_k S R N2 b t)) (hp : cp_585_31 s1 v1 v2 N) (hC : C0 (cf_585_31 s1 v1 v2 N)) : mz_G (d, mz_X0 L xs, some .int, [], mk_585, 4, Q) 31 mt_585_31 [(0, .ref 232), (1, .int v1), (2, .int v2)] [.int (mz_b01 s1), .ref 232] false (mz_k S R N b t) := by
  unfold cf_585_31 at hC
  unfold cp_585_31 at hp
  refine g_iconst mzi_1 ?_
  obtain ⟨h1, hp⟩ := hp
  refine g_v3v (Nat.le_of_ble_eq_true rfl) (mz_at hS (Nat.le_of_ble_eq_true rfl) mzcS_232) (fun _ hq => cs_462 (Nat.le_trans (Nat.le_of_ble_eq_true rfl) hd) (hS.le (Nat.le_of_ble_eq_true rfl)) (hR.le (Nat.le_of_ble_eq_true rfl))  s1 true N h1 hq) ?_
  refine g_zeq (tg := 40) rfl ms_585_40 hC (fun h2 hC => ?_) (fun h2 hC => ?_)
  · have hp := hp.1 h2
    refine g_iconst mzi_0 ?_
    exact g_iret rfl (hr _ _ hC)
  · have hp := hp.2 h2
    refine g_aload_n rfl (g_getI (mz_at hS (Nat.le_of_ble_eq_true rfl) mzcS_232) mzcf_12_112 (g_iconst mzi_1 (g_isub (g_iload_n rfl (g_isub (g_bipush mzb_64 (g_irem (by decide) ?_)))))))
    refine g_istore_n (Nat.le_of_ble_eq_true rfl) rfl (g_iload_n rfl ?_)
    refine g_ifne (tg := 66) rfl ms_585_66 hC (fun h3 hC => ?_) (fun h3 hC => ?_)
    · have hp := hp.1 h3
      refine g_aload_n rfl (g_getR (mz_at hS (Nat.le_of_ble_eq_true rfl) mzcS_232) mzcf_12_113 (mz_rb hR (Nat.le_of_ble_eq_true rfl) rfl mzcR_232_113) (g_iload_n rfl ?_))
      have h4 := hp
      refine g_lald (mz_at hS (Nat.le_of_ble_eq_true rfl) mzcS_317) h4 (g_l2i (g_goto (tg := 100) rfl ms_585_100 ?_))
      exact g_iret rfl (hr _ _ hC)
    · have hp := hp.2 h3
      refine g_iload_n rfl (g_iconst mzi_1 ?_)
      refine g_icne (tg := 80) rfl ms_585_80 hC (fun h5 hC => ?_) (fun h5 hC => ?_)
      · have hp := hp.1 h5
        refine g_aload_n rfl (g_getR (mz_at hS (Nat.le_of_ble_eq_true rfl) mzcS_232) mzcf_12_114 (mz_rb hR (Nat.le_of_ble_eq_true rfl) rfl mzcR_232_114) (g_iload_n rfl ?_))
        have h6 := hp
        refine g_iald hS.1 (mz_at hS (Nat.le_of_ble_eq_true rfl) mzcS_318) h6 (g_goto (tg := 100) rfl ms_585_100 ?_)
        exact g_iret rfl (hr _ _ hC)
      · have hp := hp.2 h5
        refine g_iload_n rfl (g_iconst mzi_2 ?_)
        refine g_icne (tg := 94) rfl ms_585_94 hC (fun h7 hC => ?_) (fun h7 hC => ?_)
        · have hp := hp.1 h7
          refine g_aload_n rfl (g_getR (mz_at hS (Nat.le_of_ble_eq_true rfl) mzcS_232) mzcf_12_115 (mz_rb hR (Nat.le_of_ble_eq_true rfl) rfl mzcR_232_115) (g_iload_n rfl ?_))
          have h8 := hp
          refine g_iald hS.1 (mz_at hS (Nat.le_of_ble_eq_true rfl) mzcS_319) h8 (g_goto (tg := 100) rfl ms_585_100 ?_)
          exact g_iret rfl (hr _ _ hC)
        · have hp := hp.2 h7
          refine g_aload_n rfl (g_getR (mz_at hS (Nat.le_of_ble_eq_true rfl) mzcS_232) mzcf_12_116 (mz_rb hR (Nat.le_of_ble_eq_true rfl) rfl mzcR_232_116) (g_iload_n rfl ?_))
          have h9 := hp
          refine g_iald hS.1 (mz_at hS (Nat.le_of_ble_eq_true rfl) mzcS_320) h9 ?_
          exact g_iret rfl (hr _ _ hC)
theorem cg_585_30 (hd : 1 ≤ d) (hS : mz_extR S 342) (hR : mz_rok R 342)  (v1 : Int32) (v2 : Int32) (N : mz_N) {C0 : (Int32 × mz_N) → Prop} (hr : ∀ (w : Int32) (N2 : mz_N), C0 (w, N2) → Q (.inl (some (.int w))) (mz_k S R N2 b t)) (hp : cp_585_30 v1 v2 N) (hC : C0 (cf_585_30 v1 v2 N)) : mz_G (d, mz_X0 L xs, some .int, [], mk_585, 4, Q) 30 mt_585_30 [(0, .ref 232), (1, .int v1), (2, .int v2)] [.ref 232] false (mz_k S R N b t) := by
  unfold cf_585_30 at hC
  unfold cp_585_30 at hp
  refine g_iconst mzi_0 ?_
  refine g_weak ?_ (g_cl (cg_585_31 hd hS hR false v1 v2 N hr hp hC))
  exact ⟨rfl, rfl, rfl, trivial⟩
theorem cg_585_0 (hd : 1 ≤ d) (hS : mz_extR S 342) (hR : mz_rok R 342)  (v1 : Int32) (v2 : Int32) (N : mz_N) {C0 : (Int32 × mz_N) → Prop} (hr : ∀ (w : Int32) (N2 : mz_N), C0 (w, N2) → Q (.inl (some (.int w))) (mz_k S R N2 b t)) (hp : cp_585_0 v1 v2 N) (hC : C0 (cf_585_0 v1 v2 N)) : mz_G (d, mz_X0 L xs, some .int, [], mk_585, 4, Q) 0 mk_585 [(0, .ref 232), (1, .int v1), (2, .int v2)] [] true (mz_k S R N b t) := by
  unfold cf_585_0 at hC
  unfold cp_585_0 at hp
  refine g_aload_n rfl (g_iload_n rfl (g_aload_n rfl (g_getI (mz_at hS (Nat.le_of_ble_eq_true rfl) mzcS_232) mzcf_12_112 (g_bipush mzb_64 ?_))))
  refine g_s3v (Nat.le_of_ble_eq_true rfl) (fun _ hq => cs_547 (Nat.le_trans (Nat.le_of_ble_eq_true rfl) hd) (hS.le (Nat.le_of_ble_eq_true rfl)) (hR.le (Nat.le_of_ble_eq_true rfl))  v1 (N.1 232 112) 64 trivial hq) ?_
  refine g_zeq (tg := 30) rfl ms_585_30 hC (fun h2 hC => ?_) (fun h2 hC => ?_)
  · have hp := hp.1 h2
    refine g_iload_n rfl (g_i2l (g_lconst mzl_0 (g_con3 ?_)))
    refine g_s3v (Nat.le_of_ble_eq_true rfl) (fun _ hq => cs_466 (Nat.le_trans (Nat.le_of_ble_eq_true rfl) hd) (hS.le (Nat.le_of_ble_eq_true rfl)) (hR.le (Nat.le_of_ble_eq_true rfl))  v2.toInt64 0 3 trivial hq) ?_
    refine g_zeq (tg := 30) rfl ms_585_30 hC (fun h4 hC => ?_) (fun h4 hC => ?_)
    · have hp := hp.1 h4
      refine g_iconst mzi_1 (g_goto (tg := 31) rfl ms_585_31 ?_)
      refine g_weak ?_ (g_cl (cg_585_31 hd hS hR true v1 v2 N hr hp hC))
      exact ⟨rfl, rfl, rfl, trivial⟩
    · have hp := hp.2 h4
      refine g_weak ?_ (g_cl (cg_585_30 hd hS hR v1 v2 N hr hp hC))
      exact ⟨rfl, rfl, rfl, trivial⟩
  · have hp := hp.2 h2
    refine g_weak ?_ (g_cl (cg_585_30 hd hS hR v1 v2 N hr hp hC))
    exact ⟨rfl, rfl, rfl, trivial⟩
theorem cs_585 (hd : 2 ≤ d) (hS : mz_extR S 342) (hR : mz_rok R 342)  (v1 : Int32) (v2 : Int32) (N : mz_N) (hp : cp_585_0 v1 v2 N) (hq : Q (.inl (some (.int ((cf_585_0 v1 v2 N).1)))) (mz_k S R ((cf_585_0 v1 v2 N).2) b t)) : mz_Ed (mz_X0 L xs) d 585 [.ref 232, .int v1, .int v2] (mz_k S R N b t) Q :=
  by
  refine g_in mzq_585 (Nat.le_of_ble_eq_true rfl) (Nat.le_of_ble_eq_true rfl) (Nat.le_trans (Nat.le_of_ble_eq_true rfl) hd) ?_
  refine g_weak ?_ (cg_585_0 (d := d - 1) (by omega) hS hR v1 v2 N (C0 := fun z => Q (.inl (some (.int z.1))) (mz_k S R z.2 b t)) (fun _ _ h => h) hp hq)
  exact ⟨rfl, rfl, rfl, trivial⟩
end Fn34
