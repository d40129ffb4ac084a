/-! THE FUNCTIONS: written by program: each method comes to its function. -/
section Fn13
variable {L : Nat} {xs : Nat → Int32} {d : Nat} {S : mz_S} {R : Nat → Nat → Option Nat} {Q : mz_Q} {N : mz_N} {b : Bool} {t : Nat}
/-! 263 KeptHouse$Watch.sound (IZI)V -/
theorem ms_263_0 : mz_sf mk_263 0 = mk_263 := mz_sf_zero _
theorem ms_263_28 : mz_sf mk_263 28 = mt_263_28 := mz_sf_add ms_263_0 (t := 28) rfl rfl
theorem ms_263_53 : mz_sf mk_263 53 = mt_263_53 := mz_sf_add ms_263_28 (t := 25) rfl rfl
set_option maxRecDepth 100000 in
theorem mzq_263 : mz_PG0 263 = some (10, ⟨"KeptHouse$Watch", "sound", "(IZI)V"⟩, prog_12_method_4_code, 4, none, [], mk_263, []) := rfl
theorem cg_263_53 (hd : 0 ≤ d) (hS : mz_extR S 232) (hR : mz_rok R 232)  (v1 : Int32) (v2 : Bool) (N : mz_N) {C0 : (mz_N) → Prop} (hr : ∀ (N2 : mz_N), C0 N2 → Q (.inl none) (mz_k S R N2 b t)) (hp : cp_263_53 v1 v2 N) (hC : C0 (cf_263_53 v1 v2 N)) : mz_G (d, mz_X0 L xs, none, [], mk_263, 4, Q) 53 mt_263_53 [(0, .ref 81), (1, .int v1), (2, .int (mz_b01 v2))] [] false (mz_k S R N b t) := by
  unfold cf_263_53 at hC
  unfold cp_263_53 at hp
  refine g_aload_n rfl (g_getR (mz_at hS (Nat.le_of_ble_eq_true rfl) mzcS_81) mzcf_10_1 (mz_rb hR (Nat.le_of_ble_eq_true rfl) rfl mzcR_81_1) (g_iload_n rfl (g_iload_n rfl ?_)))
  have h1 := hp
  refine g_zast (z := v2) (mz_at hS (Nat.le_of_ble_eq_true rfl) mzcS_83) h1 ?_
  exact g_vret rfl (hr _ hC)
theorem cg_263_0 (hd : 0 ≤ d) (hS : mz_extR S 232) (hR : mz_rok R 232)  (v1 : Int32) (v2 : Bool) (v3 : Int32) (N : mz_N) {C0 : (mz_N) → Prop} (hr : ∀ (N2 : mz_N), C0 N2 → Q (.inl none) (mz_k S R N2 b t)) (hp : cp_263_0 v1 v2 v3 N) (hC : C0 (cf_263_0 v1 v2 v3 N)) : mz_G (d, mz_X0 L xs, none, [], mk_263, 4, Q) 0 mk_263 [(0, .ref 81), (1, .int v1), (2, .int (mz_b01 v2)), (3, .int v3)] [] true (mz_k S R N b t) := by
  unfold cf_263_0 at hC
  unfold cp_263_0 at hp
  refine g_iload_n rfl ?_
  refine g_zeq (tg := 53) rfl ms_263_53 hC (fun h1 hC => ?_) (fun h1 hC => ?_)
  · have hp := hp.1 h1
    refine g_aload_n rfl (g_getR (mz_at hS (Nat.le_of_ble_eq_true rfl) mzcS_81) mzcf_10_1 (mz_rb hR (Nat.le_of_ble_eq_true rfl) rfl mzcR_81_1) (g_iload_n rfl ?_))
    obtain ⟨h2, hp⟩ := hp
    obtain ⟨h3, hp⟩ := hp
    refine g_zald (mz_at hS (Nat.le_of_ble_eq_true rfl) mzcS_83) h2 h3 ?_
    refine g_zne (tg := 53) rfl ms_263_53 hC (fun h4 hC => ?_) (fun h4 hC => ?_)
    · have hp := hp.1 h4
      refine g_weak ?_ (g_cl (cg_263_53 hd hS hR v1 v2 N hr hp hC))
      exact ⟨rfl, rfl, rfl, trivial⟩
    · have hp := hp.2 h4
      refine g_aload_n rfl (g_getR (mz_at hS (Nat.le_of_ble_eq_true rfl) mzcS_81) mzcf_10_2 (mz_rb hR (Nat.le_of_ble_eq_true rfl) rfl mzcR_81_2) (g_iconst mzi_0 (g_aald4 (m := 85) (mz_at hS (Nat.le_of_ble_eq_true rfl) mzcS_84) (mz_ibd (by decide)) (mz_rb hR (Nat.le_of_ble_eq_true rfl) rfl mzcRr_84_0) (g_aload_n rfl (g_getI (mz_at hS (Nat.le_of_ble_eq_true rfl) mzcS_81) mzcf_10_3 (g_bipush mzb_32 (g_irem (by decide) ?_)))))))
      refine g_iload_n rfl ?_
      obtain ⟨h5, hp⟩ := hp
      refine g_iast (mz_at hS (Nat.le_of_ble_eq_true rfl) mzcS_85) h5 (g_aload_n rfl (g_getR (mz_at hS (Nat.le_of_ble_eq_true rfl) mzcS_81) mzcf_10_2 (mz_rb hR (Nat.le_of_ble_eq_true rfl) rfl mzcR_81_2) (g_iconst mzi_1 (g_aald4 (m := 86) (mz_at hS (Nat.le_of_ble_eq_true rfl) mzcS_84) (mz_ibd (by decide)) (mz_rb hR (Nat.le_of_ble_eq_true rfl) rfl mzcRr_84_1) (g_aload_n rfl (g_getI (mz_at hS (Nat.le_of_ble_eq_true rfl) mzcS_81) mzcf_10_3 (g_bipush mzb_32 ?_)))))))
      refine g_irem (by decide) (g_iload_n rfl ?_)
      obtain ⟨h6, hp⟩ := hp
      refine g_iast (mz_at hS (Nat.le_of_ble_eq_true rfl) mzcS_86) h6 (g_aload_n rfl (g_dup rfl (g_getI (mz_at hS (Nat.le_of_ble_eq_true rfl) mzcS_81) mzcf_10_3 (g_iconst mzi_1 (g_iadd (g_putI (mz_at hS (Nat.le_of_ble_eq_true rfl) mzcS_81) mzcf_10_3 ?_))))))
      refine g_weak ?_ (g_cl (cg_263_53 hd hS hR v1 v2 (mz_pI (mz_wI (mz_wI N 85 (mz_irem (N.1 81 3) 32) v1) 86 (mz_irem ((mz_wI N 85 (mz_irem (N.1 81 3) 32) v1).1 81 3) 32) v3) 81 3 (((mz_wI (mz_wI N 85 (mz_irem (N.1 81 3) 32) v1) 86 (mz_irem ((mz_wI N 85 (mz_irem (N.1 81 3) 32) v1).1 81 3) 32) v3).1 81 3) + 1)) hr hp hC))
      exact ⟨rfl, rfl, rfl, trivial⟩
  · have hp := hp.2 h1
    refine g_weak ?_ (g_cl (cg_263_53 hd hS hR v1 v2 N hr hp hC))
    exact ⟨rfl, rfl, rfl, trivial⟩
theorem cs_263 (hd : 1 ≤ d) (hS : mz_extR S 232) (hR : mz_rok R 232)  (v1 : Int32) (v2 : Bool) (v3 : Int32) (N : mz_N) (hp : cp_263_0 v1 v2 v3 N) (hq : Q (.inl none) (mz_k S R (cf_263_0 v1 v2 v3 N) b t)) : mz_Ed (mz_X0 L xs) d 263 [.ref 81, .int v1, .int (mz_b01 v2), .int v3] (mz_k S R N b t) Q :=
  by
  refine g_in mzq_263 (Nat.le_of_ble_eq_true rfl) (Nat.le_of_ble_eq_true rfl) (Nat.le_trans (Nat.le_of_ble_eq_true rfl) hd) ?_
  refine g_weak ?_ (cg_263_0 (d := d - 1) (by omega) hS hR v1 v2 v3 N (C0 := fun z => Q (.inl none) (mz_k S R z b t)) (fun _ h => h) hp hq)
  exact ⟨rfl, rfl, rfl, rfl, trivial⟩
/-! 264 KeptHouse$Climate.isStuffy (LKeptHouse$Plan;I)Z -/
theorem ms_264_0 : mz_sf mk_264 0 = mk_264 := mz_sf_zero _
theorem ms_264_27 : mz_sf mk_264 27 = mt_264_27 := mz_sf_add ms_264_0 (t := 27) rfl rfl
theorem ms_264_31 : mz_sf mk_264 31 = mt_264_31 := mz_sf_add ms_264_27 (t := 4) rfl rfl
theorem ms_264_32 : mz_sf mk_264 32 = mt_264_32 := mz_sf_add ms_264_31 (t := 1) rfl rfl
set_option maxRecDepth 100000 in
theorem mzq_264 : mz_PG0 264 = some (3, ⟨"KeptHouse$Climate", "isStuffy", "(LKeptHouse$Plan;I)Z"⟩, prog_5_method_7_code, 3, some .boolean, [], mk_264, []) := rfl
theorem cg_264_0 (hd : 1 ≤ d) (hS : mz_extR S 232) (hR : mz_rok R 232)  (v2 : Int32) (N : mz_N) {C0 : (Bool) → Prop} (hr : ∀ (w : Bool), C0 w → Q (.inl (some (.int (mz_b01 w)))) (mz_k S R N b t)) (hp : cp_264_0 v2 N) (hC : C0 (cf_264_0 v2 N)) : mz_G (d, mz_X0 L xs, some .boolean, [], mk_264, 3, Q) 0 mk_264 [(0, .ref 65), (1, .ref 2), (2, .int v2)] [] true (mz_k S R N b t) := by
  unfold cf_264_0 at hC
  unfold cp_264_0 at hp
  refine g_aload_n rfl (g_aload_n rfl (g_aload_n rfl (g_getR (mz_at hS (Nat.le_of_ble_eq_true rfl) mzcS_65) mzcf_3_3 (mz_rb hR (Nat.le_of_ble_eq_true rfl) rfl mzcR_65_3) (g_iload_n rfl ?_))))
  obtain ⟨h1, hp⟩ := hp
  refine g_v4v (Nat.le_of_ble_eq_true rfl) (mz_at hS (Nat.le_of_ble_eq_true rfl) mzcS_65) (fun _ hq => cs_158 (Nat.le_trans (Nat.le_of_ble_eq_true rfl) hd) (hS.le (Nat.le_of_ble_eq_true rfl)) (hR.le (Nat.le_of_ble_eq_true rfl)) 69 (mz_at hS (Nat.le_of_ble_eq_true rfl) mzcS_69) v2 N h1 hq) (g_con3 (g_aload_n rfl (g_getR (mz_at hS (Nat.le_of_ble_eq_true rfl) mzcS_2) mzcf_5_9 (mz_rb hR (Nat.le_of_ble_eq_true rfl) rfl mzcR_2_9) (g_iconst mzi_2 (g_aald4 (m := 19) (mz_at hS (Nat.le_of_ble_eq_true rfl) mzcS_16) (mz_ibd (by decide)) (mz_rb hR (Nat.le_of_ble_eq_true rfl) rfl mzcRr_16_2) (g_iload_n rfl ?_))))))
  have h2 := hp
  refine g_iald hS.1 (mz_at hS (Nat.le_of_ble_eq_true rfl) mzcS_19) h2 (g_i2l (g_lmul (g_lcmp ?_)))
  refine g_lle (tg := 31) rfl ms_264_31 hC (fun h3 hC => ?_) (fun h3 hC => ?_)
  · refine g_iconst mzi_1 (g_goto (tg := 32) rfl ms_264_32 ?_)
    exact g_zret (z := true) rfl (hr _ hC)
  · refine g_iconst mzi_0 ?_
    exact g_zret (z := false) rfl (hr _ hC)
theorem cs_264 (hd : 2 ≤ d) (hS : mz_extR S 232) (hR : mz_rok R 232)  (v2 : Int32) (N : mz_N) (hp : cp_264_0 v2 N) (hq : Q (.inl (some (.int (mz_b01 (cf_264_0 v2 N))))) (mz_k S R N b t)) : mz_Ed (mz_X0 L xs) d 264 [.ref 65, .ref 2, .int v2] (mz_k S R N b t) Q :=
  by
  refine g_in mzq_264 (Nat.le_of_ble_eq_true rfl) (Nat.le_of_ble_eq_true rfl) (Nat.le_trans (Nat.le_of_ble_eq_true rfl) hd) ?_
  refine g_weak ?_ (cg_264_0 (d := d - 1) (by omega) hS hR v2 N (C0 := fun z => Q (.inl (some (.int (mz_b01 z)))) (mz_k S R N b t)) (fun _ h => h) hp hq)
  exact ⟨rfl, rfl, rfl, trivial⟩
/-! 265 KeptHouse$Supply.isAny (I)Z -/
theorem ms_265_0 : mz_sf mk_265 0 = mk_265 := mz_sf_zero _
theorem ms_265_2 : mz_sf mk_265 2 = mt_265_2 := mz_sf_add ms_265_0 (t := 2) rfl rfl
theorem ms_265_22 : mz_sf mk_265 22 = mt_265_22 := mz_sf_add ms_265_2 (t := 20) rfl rfl
theorem ms_265_28 : mz_sf mk_265 28 = mt_265_28 := mz_sf_add ms_265_22 (t := 6) rfl rfl
set_option maxRecDepth 100000 in
theorem mzq_265 : mz_PG0 265 = some (9, ⟨"KeptHouse$Supply", "isAny", "(I)Z"⟩, prog_11_method_11_code, 3, some .boolean, [], mk_265, []) := rfl
theorem cb_265_2 (hd : 0 ≤ d) (hS : mz_extR S 232) (hR : mz_rok R 232)  (v1 : Int32) (N : mz_N) (s : Int32) {C0 : (Bool) → Prop} (hr : ∀ (w : Bool), C0 w → Q (.inl (some (.int (mz_b01 w)))) (mz_k S R N b t)) {C1 : ((Int32) ⊕ (Bool)) → Prop} (hc1 : ∀ s2, C1 (.inl s2) → mz_G (d, mz_X0 L xs, some .boolean, [], mk_265, 3, Q) 2 mt_265_2 [(0, .ref 56), (1, .int v1), (2, .int s2)] [] false (mz_k S R N b t)) (hx1 : ∀ z, C1 (.inr z) → C0 z) (hp : cd_265_2 v1 N s) (hC : C1 (cq_265_2 v1 N s)) : mz_G (d, mz_X0 L xs, some .boolean, [], mk_265, 3, Q) 2 mt_265_2 [(0, .ref 56), (1, .int v1), (2, .int s)] [] false (mz_k S R N b t) := by
  unfold cq_265_2 at hC
  unfold cd_265_2 at hp
  refine g_iload_n rfl (g_bipush mzb_11 ?_)
  refine g_icge (tg := 28) rfl ms_265_28 hC (fun h1 hC => ?_) (fun h1 hC => ?_)
  · have hp := hp.1 h1
    refine g_aload_n rfl (g_getR (mz_at hS (Nat.le_of_ble_eq_true rfl) mzcS_56) mzcf_9_0 (mz_rb hR (Nat.le_of_ble_eq_true rfl) rfl mzcR_56_0) (g_iload_n rfl ?_))
    obtain ⟨h2, hp⟩ := hp
    refine g_aald4 (mz_at hS (Nat.le_of_ble_eq_true rfl) mzcS_57) h2 (mz_rb hR (Nat.le_of_ble_eq_true rfl) rfl (mzcR2_57 h2)) (g_iload_n rfl ?_)
    have h3 := hp
    refine g_iald hS.1 (mz_at hS (mzcL2_57 h2 (Nat.le_of_ble_eq_true rfl)) (mzcS2_57 h2)) h3 (g_iconst mzi_1 ?_)
    refine g_icne (tg := 22) rfl ms_265_22 hC (fun h4 hC => ?_) (fun h4 hC => ?_)
    · refine g_iconst mzi_1 ?_
      exact g_zret (z := true) rfl (hr _ (hx1 _ hC))
    · refine g_iinc rfl mzi_1 (Nat.le_of_ble_eq_true rfl) rfl (g_goto (tg := 2) rfl ms_265_2 ?_)
      refine g_weak ?_ (g_cl (hc1 ((s + 1)) hC))
      exact ⟨rfl, rfl, rfl, trivial⟩
  · have hp := hp.2 h1
    refine g_iconst mzi_0 ?_
    exact g_zret (z := false) rfl (hr _ (hx1 _ hC))
theorem cg_265_2 (hd : 0 ≤ d) (hS : mz_extR S 232) (hR : mz_rok R 232)  (v1 : Int32) (v2 : Int32) (N : mz_N) {C0 : (Bool) → Prop} (hr : ∀ (w : Bool), C0 w → Q (.inl (some (.int (mz_b01 w)))) (mz_k S R N b t)) (hp : cp_265_2 v1 v2 N) (hC : C0 (cf_265_2 v1 v2 N)) : mz_G (d, mz_X0 L xs, some .boolean, [], mk_265, 3, Q) 2 mt_265_2 [(0, .ref 56), (1, .int v1), (2, .int v2)] [] false (mz_k S R N b t) := by
  obtain ⟨n, hn⟩ := hp
  exact g_loop (G := fun s => mz_G (d, mz_X0 L xs, some .boolean, [], mk_265, 3, Q) 2 mt_265_2 [(0, .ref 56), (1, .int v1), (2, .int s)] [] false (mz_k S R N b t)) (C := C0) (fun C2 hc hx s hP hC => cb_265_2 hd hS hR v1 N s hr hc hx hP hC) n (v2) hn hC
theorem cg_265_0 (hd : 0 ≤ d) (hS : mz_extR S 232) (hR : mz_rok R 232)  (v1 : Int32) (N : mz_N) {C0 : (Bool) → Prop} (hr : ∀ (w : Bool), C0 w → Q (.inl (some (.int (mz_b01 w)))) (mz_k S R N b t)) (hp : cp_265_0 v1 N) (hC : C0 (cf_265_0 v1 N)) : mz_G (d, mz_X0 L xs, some .boolean, [], mk_265, 3, Q) 0 mk_265 [(0, .ref 56), (1, .int v1)] [] true (mz_k S R N b t) := by
  unfold cf_265_0 at hC
  unfold cp_265_0 at hp
  refine g_iconst mzi_0 (g_istore_n (Nat.le_of_ble_eq_true rfl) rfl ?_)
  refine g_weak ?_ (g_cl (cg_265_2 hd hS hR v1 0 N hr hp hC))
  exact ⟨rfl, rfl, rfl, trivial⟩
theorem cs_265 (hd : 1 ≤ d) (hS : mz_extR S 232) (hR : mz_rok R 232)  (v1 : Int32) (N : mz_N) (hp : cp_265_0 v1 N) (hq : Q (.inl (some (.int (mz_b01 (cf_265_0 v1 N))))) (mz_k S R N b t)) : mz_Ed (mz_X0 L xs) d 265 [.ref 56, .int v1] (mz_k S R N b t) Q :=
  by
  refine g_in mzq_265 (Nat.le_of_ble_eq_true rfl) (Nat.le_of_ble_eq_true rfl) (Nat.le_trans (Nat.le_of_ble_eq_true rfl) hd) ?_
  refine g_weak ?_ (cg_265_0 (d := d - 1) (by omega) hS hR v1 N (C0 := fun z => Q (.inl (some (.int (mz_b01 z)))) (mz_k S R N b t)) (fun _ h => h) hp hq)
  exact ⟨rfl, rfl, trivial⟩
/-! 266 KeptHouse$Care.isAnyFailed ()Z -/
theorem ms_266_0 : mz_sf mk_266 0 = mk_266 := mz_sf_zero _
theorem ms_266_24 : mz_sf mk_266 24 = mt_266_24 := mz_sf_add ms_266_0 (t := 24) rfl rfl
theorem ms_266_28 : mz_sf mk_266 28 = mt_266_28 := mz_sf_add ms_266_24 (t := 4) rfl rfl
theorem ms_266_29 : mz_sf mk_266 29 = mt_266_29 := mz_sf_add ms_266_28 (t := 1) rfl rfl
set_option maxRecDepth 100000 in
theorem mzq_266 : mz_PG0 266 = some (2, ⟨"KeptHouse$Care", "isAnyFailed", "()Z"⟩, prog_4_method_26_code, 1, some .boolean, [], mk_266, []) := rfl
theorem cg_266_0 (hd : 1 ≤ d) (hS : mz_extR S 232) (hR : mz_rok R 232)  (N : mz_N) {C0 : (Bool) → Prop} (hr : ∀ (w : Bool), C0 w → Q (.inl (some (.int (mz_b01 w)))) (mz_k S R N b t)) (hp : cp_266_0 N) (hC : C0 (cf_266_0 N)) : mz_G (d, mz_X0 L xs, some .boolean, [], mk_266, 1, Q) 0 mk_266 [(0, .ref 115)] [] true (mz_k S R N b t) := by
  unfold cf_266_0 at hC
  unfold cp_266_0 at hp
  refine g_aload_n rfl (g_iconst mzi_0 ?_)
  obtain ⟨h1, hp⟩ := hp
  refine g_v2v (Nat.le_of_ble_eq_true rfl) (mz_at hS (Nat.le_of_ble_eq_true rfl) mzcS_115) (fun _ hq => cs_224 (Nat.le_trans (Nat.le_of_ble_eq_true rfl) hd) (hS.le (Nat.le_of_ble_eq_true rfl)) (hR.le (Nat.le_of_ble_eq_true rfl))  0 N h1 hq) ?_
  refine g_zeq (tg := 24) rfl ms_266_24 hC (fun h2 hC => ?_) (fun h2 hC => ?_)
  · have hp := hp.1 h2
    refine g_aload_n rfl (g_iconst mzi_1 ?_)
    obtain ⟨h3, hp⟩ := hp
    refine g_v2v (Nat.le_of_ble_eq_true rfl) (mz_at hS (Nat.le_of_ble_eq_true rfl) mzcS_115) (fun _ hq => cs_224 (Nat.le_trans (Nat.le_of_ble_eq_true rfl) hd) (hS.le (Nat.le_of_ble_eq_true rfl)) (hR.le (Nat.le_of_ble_eq_true rfl))  1 N h3 hq) ?_
    refine g_zeq (tg := 24) rfl ms_266_24 hC (fun h4 hC => ?_) (fun h4 hC => ?_)
    · have hp := hp.1 h4
      refine g_aload_n rfl (g_iconst mzi_2 ?_)
      have h5 := hp
      refine g_v2v (Nat.le_of_ble_eq_true rfl) (mz_at hS (Nat.le_of_ble_eq_true rfl) mzcS_115) (fun _ hq => cs_224 (Nat.le_trans (Nat.le_of_ble_eq_true rfl) hd) (hS.le (Nat.le_of_ble_eq_true rfl)) (hR.le (Nat.le_of_ble_eq_true rfl))  2 N h5 hq) ?_
      refine g_zne (tg := 28) rfl ms_266_28 hC (fun h6 hC => ?_) (fun h6 hC => ?_)
      · refine g_iconst mzi_0 ?_
        exact g_zret (z := false) rfl (hr _ hC)
      · refine g_iconst mzi_1 (g_goto (tg := 29) rfl ms_266_29 ?_)
        exact g_zret (z := true) rfl (hr _ hC)
    · have hp := hp.2 h4
      refine g_iconst mzi_1 (g_goto (tg := 29) rfl ms_266_29 ?_)
      exact g_zret (z := true) rfl (hr _ hC)
  · have hp := hp.2 h2
    refine g_iconst mzi_1 (g_goto (tg := 29) rfl ms_266_29 ?_)
    exact g_zret (z := true) rfl (hr _ hC)
theorem cs_266 (hd : 2 ≤ d) (hS : mz_extR S 232) (hR : mz_rok R 232)  (N : mz_N) (hp : cp_266_0 N) (hq : Q (.inl (some (.int (mz_b01 (cf_266_0 N))))) (mz_k S R N b t)) : mz_Ed (mz_X0 L xs) d 266 [.ref 115] (mz_k S R N b t) Q :=
  by
  refine g_in mzq_266 (Nat.le_of_ble_eq_true rfl) (Nat.le_of_ble_eq_true rfl) (Nat.le_trans (Nat.le_of_ble_eq_true rfl) hd) ?_
  refine g_weak ?_ (cg_266_0 (d := d - 1) (by omega) hS hR N (C0 := fun z => Q (.inl (some (.int (mz_b01 z)))) (mz_k S R N b t)) (fun _ h => h) hp hq)
  exact ⟨rfl, trivial⟩
/-! 267 KeptHouse$Climate.isMouldy ()Z -/
theorem ms_267_0 : mz_sf mk_267 0 = mk_267 := mz_sf_zero _
theorem ms_267_2 : mz_sf mk_267 2 = mt_267_2 := mz_sf_add ms_267_0 (t := 2) rfl rfl
theorem ms_267_23 : mz_sf mk_267 23 = mt_267_23 := mz_sf_add ms_267_2 (t := 21) rfl rfl
theorem ms_267_29 : mz_sf mk_267 29 = mt_267_29 := mz_sf_add ms_267_23 (t := 6) rfl rfl
set_option maxRecDepth 100000 in
theorem mzq_267 : mz_PG0 267 = some (3, ⟨"KeptHouse$Climate", "isMouldy", "()Z"⟩, prog_5_method_10_code, 2, some .boolean, [], mk_267, []) := rfl
theorem cb_267_2 (hd : 0 ≤ d) (hS : mz_extR S 232) (hR : mz_rok R 232)  (N : mz_N) (s : Int32) {C0 : (Bool) → Prop} (hr : ∀ (w : Bool), C0 w → Q (.inl (some (.int (mz_b01 w)))) (mz_k S R N b t)) {C1 : ((Int32) ⊕ (Bool)) → Prop} (hc1 : ∀ s2, C1 (.inl s2) → mz_G (d, mz_X0 L xs, some .boolean, [], mk_267, 2, Q) 2 mt_267_2 [(0, .ref 65), (1, .int s2)] [] false (mz_k S R N b t)) (hx1 : ∀ z, C1 (.inr z) → C0 z) (hp : cd_267_2 N s) (hC : C1 (cq_267_2 N s)) : mz_G (d, mz_X0 L xs, some .boolean, [], mk_267, 2, Q) 2 mt_267_2 [(0, .ref 65), (1, .int s)] [] false (mz_k S R N b t) := by
  unfold cq_267_2 at hC
  unfold cd_267_2 at hp
  refine g_iload_n rfl (g_sipush mzs_240 ?_)
  refine g_icge (tg := 29) rfl ms_267_29 hC (fun h1 hC => ?_) (fun h1 hC => ?_)
  · have hp := hp.1 h1
    refine g_aload_n rfl (g_getR (mz_at hS (Nat.le_of_ble_eq_true rfl) mzcS_65) mzcf_3_6 (mz_rb hR (Nat.le_of_ble_eq_true rfl) rfl mzcR_65_6) (g_iload_n rfl ?_))
    have h2 := hp
    refine g_iald hS.1 (mz_at hS (Nat.le_of_ble_eq_true rfl) mzcS_72) h2 (g_sipush mzs_500 ?_)
    refine g_iclt (tg := 23) rfl ms_267_23 hC (fun h3 hC => ?_) (fun h3 hC => ?_)
    · refine g_iinc rfl mzi_1 (Nat.le_of_ble_eq_true rfl) rfl (g_goto (tg := 2) rfl ms_267_2 ?_)
      refine g_weak ?_ (g_cl (hc1 ((s + 1)) hC))
      exact ⟨rfl, rfl, trivial⟩
    · refine g_iconst mzi_1 ?_
      exact g_zret (z := true) rfl (hr _ (hx1 _ hC))
  · have hp := hp.2 h1
    refine g_iconst mzi_0 ?_
    exact g_zret (z := false) rfl (hr _ (hx1 _ hC))
theorem cg_267_2 (hd : 0 ≤ d) (hS : mz_extR S 232) (hR : mz_rok R 232)  (v1 : Int32) (N : mz_N) {C0 : (Bool) → Prop} (hr : ∀ (w : Bool), C0 w → Q (.inl (some (.int (mz_b01 w)))) (mz_k S R N b t)) (hp : cp_267_2 v1 N) (hC : C0 (cf_267_2 v1 N)) : mz_G (d, mz_X0 L xs, some .boolean, [], mk_267, 2, Q) 2 mt_267_2 [(0, .ref 65), (1, .int v1)] [] false (mz_k S R N b t) := by
  obtain ⟨n, hn⟩ := hp
  exact g_loop (G := fun s => mz_G (d, mz_X0 L xs, some .boolean, [], mk_267, 2, Q) 2 mt_267_2 [(0, .ref 65), (1, .int s)] [] false (mz_k S R N b t)) (C := C0) (fun C2 hc hx s hP hC => cb_267_2 hd hS hR N s hr hc hx hP hC) n (v1) hn hC
theorem cg_267_0 (hd : 0 ≤ d) (hS : mz_extR S 232) (hR : mz_rok R 232)  (N : mz_N) {C0 : (Bool) → Prop} (hr : ∀ (w : Bool), C0 w → Q (.inl (some (.int (mz_b01 w)))) (mz_k S R N b t)) (hp : cp_267_0 N) (hC : C0 (cf_267_0 N)) : mz_G (d, mz_X0 L xs, some .boolean, [], mk_267, 2, Q) 0 mk_267 [(0, .ref 65)] [] true (mz_k S R N b t) := by
  unfold cf_267_0 at hC
  unfold cp_267_0 at hp
  refine g_iconst mzi_0 (g_istore_n (Nat.le_of_ble_eq_true rfl) rfl ?_)
  refine g_weak ?_ (g_cl (cg_267_2 hd hS hR 0 N hr hp hC))
  exact ⟨rfl, rfl, trivial⟩
theorem cs_267 (hd : 1 ≤ d) (hS : mz_extR S 232) (hR : mz_rok R 232)  (N : mz_N) (hp : cp_267_0 N) (hq : Q (.inl (some (.int (mz_b01 (cf_267_0 N))))) (mz_k S R N b t)) : mz_Ed (mz_X0 L xs) d 267 [.ref 65] (mz_k S R N b t) Q :=
  by
  refine g_in mzq_267 (Nat.le_of_ble_eq_true rfl) (Nat.le_of_ble_eq_true rfl) (Nat.le_trans (Nat.le_of_ble_eq_true rfl) hd) ?_
  refine g_weak ?_ (cg_267_0 (d := d - 1) (by omega) hS hR N (C0 := fun z => Q (.inl (some (.int (mz_b01 z)))) (mz_k S R N b t)) (fun _ h => h) hp hq)
  exact ⟨rfl, trivial⟩
/-! 261 KeptHouse.soundAlarms ()V -/
theorem ms_261_0 : mz_sf mk_261 0 = mk_261 := mz_sf_zero _
theorem ms_261_12 : mz_sf mk_261 12 = mt_261_12 := mz_sf_add ms_261_0 (t := 12) rfl rfl
theorem ms_261_35 : mz_sf mk_261 35 = mt_261_35 := mz_sf_add ms_261_12 (t := 23) rfl rfl
theorem ms_261_63 : mz_sf mk_261 63 = mt_261_63 := mz_sf_add ms_261_35 (t := 28) rfl rfl
theorem ms_261_67 : mz_sf mk_261 67 = mt_261_67 := mz_sf_add ms_261_63 (t := 4) rfl rfl
theorem ms_261_68 : mz_sf mk_261 68 = mt_261_68 := mz_sf_add ms_261_67 (t := 1) rfl rfl
theorem ms_261_93 : mz_sf mk_261 93 = mt_261_93 := mz_sf_add ms_261_68 (t := 25) rfl rfl
theorem ms_261_115 : mz_sf mk_261 115 = mt_261_115 := mz_sf_add ms_261_93 (t := 22) rfl rfl
theorem ms_261_119 : mz_sf mk_261 119 = mt_261_119 := mz_sf_add ms_261_115 (t := 4) rfl rfl
theorem ms_261_120 : mz_sf mk_261 120 = mt_261_120 := mz_sf_add ms_261_119 (t := 1) rfl rfl
theorem ms_261_127 : mz_sf mk_261 127 = mt_261_127 := mz_sf_add ms_261_120 (t := 7) rfl rfl
theorem ms_261_167 : mz_sf mk_261 167 = mt_261_167 := mz_sf_add ms_261_127 (t := 40) rfl rfl
theorem ms_261_168 : mz_sf mk_261 168 = mt_261_168 := mz_sf_add ms_261_167 (t := 1) rfl rfl
theorem ms_261_207 : mz_sf mk_261 207 = mt_261_207 := mz_sf_add ms_261_168 (t := 39) rfl rfl
theorem ms_261_236 : mz_sf mk_261 236 = mt_261_236 := mz_sf_add ms_261_207 (t := 29) rfl rfl
theorem ms_261_274 : mz_sf mk_261 274 = mt_261_274 := mz_sf_add ms_261_236 (t := 38) rfl rfl
set_option maxRecDepth 100000 in
theorem mzq_261 : mz_PG0 261 = some (11, ⟨"KeptHouse", "soundAlarms", "()V"⟩, prog_1_method_82_code, 6, none, [], mk_261, []) := rfl
theorem cg_261_274 (hd : 3 ≤ d) (hS : mz_extR S 232) (hR : mz_rok R 232)  (N : mz_N) {C0 : (mz_N) → Prop} (hr : ∀ (N2 : mz_N), C0 N2 → Q (.inl none) (mz_k S R N2 b t)) (hp : cp_261_274 N) (hC : C0 (cf_261_274 N)) : mz_G (d, mz_X0 L xs, none, [], mk_261, 6, Q) 274 mt_261_274 [] [] false (mz_k S R N b t) := by
  unfold cf_261_274 at hC
  unfold cp_261_274 at hp
  exact g_vret rfl (hr _ hC)
theorem cg_261_207 (hd : 3 ≤ d) (hS : mz_extR S 232) (hR : mz_rok R 232)  (v1 : Int32) (v2 : Bool) (N : mz_N) {C0 : (mz_N) → Prop} (hr : ∀ (N2 : mz_N), C0 N2 → Q (.inl none) (mz_k S R N2 b t)) (hp : cp_261_207 v1 v2 N) (hC : C0 (cf_261_207 v1 v2 N)) : mz_G (d, mz_X0 L xs, none, [], mk_261, 6, Q) 207 mt_261_207 [(0, .ref 0), (1, .int v1), (2, .int (mz_b01 v2))] [] false (mz_k S R N b t) := by
  unfold cf_261_207 at hC
  unfold cp_261_207 at hp
  refine g_aload_n rfl (g_getR (mz_at hS (Nat.le_of_ble_eq_true rfl) mzcS_0) mzcf_11_5 (mz_rb hR (Nat.le_of_ble_eq_true rfl) rfl mzcR_0_5) (g_bipush mzb_14 (g_aload_n rfl (g_getR (mz_at hS (Nat.le_of_ble_eq_true rfl) mzcS_0) mzcf_11_3 (mz_rb hR (Nat.le_of_ble_eq_true rfl) rfl mzcR_0_3) (g_iconst mzi_3 ?_)))))
  obtain ⟨h1, hp⟩ := hp
  refine g_v2v (Nat.le_of_ble_eq_true rfl) (mz_at hS (Nat.le_of_ble_eq_true rfl) mzcS_56) (fun _ hq => cs_265 (Nat.le_trans (Nat.le_of_ble_eq_true rfl) hd) (hS.le (Nat.le_of_ble_eq_true rfl)) (hR.le (Nat.le_of_ble_eq_true rfl))  3 N h1 hq) (g_iload_n rfl ?_)
  obtain ⟨h2, hp⟩ := hp
  refine g_v4n (Nat.le_of_ble_eq_true rfl) (mz_at hS (Nat.le_of_ble_eq_true rfl) mzcS_81) (fun _ hq => cs_263 (Nat.le_trans (Nat.le_of_ble_eq_true rfl) hd) (hS.le (Nat.le_of_ble_eq_true rfl)) (hR.le (Nat.le_of_ble_eq_true rfl))  14 (cf_265_0 3 N) v1 N h2 hq) (g_aload_n rfl (g_getR (mz_at hS (Nat.le_of_ble_eq_true rfl) mzcS_0) mzcf_11_5 (mz_rb hR (Nat.le_of_ble_eq_true rfl) rfl mzcR_0_5) (g_bipush mzb_15 (g_iload_n rfl (g_iload_n rfl ?_)))))
  obtain ⟨h3, hp⟩ := hp
  refine g_v4n (Nat.le_of_ble_eq_true rfl) (mz_at hS (Nat.le_of_ble_eq_true rfl) mzcS_81) (fun _ hq => cs_263 (Nat.le_trans (Nat.le_of_ble_eq_true rfl) hd) (hS.le (Nat.le_of_ble_eq_true rfl)) (hR.le (Nat.le_of_ble_eq_true rfl))  15 v2 v1 (cf_263_0 14 (cf_265_0 3 N) v1 N) h3 hq) (g_aload_n rfl (g_getR (mz_at hS (Nat.le_of_ble_eq_true rfl) mzcS_0) mzcf_11_5 (mz_rb hR (Nat.le_of_ble_eq_true rfl) rfl mzcR_0_5) (g_bipush mzb_16 (g_aload_n rfl (g_getR (mz_at hS (Nat.le_of_ble_eq_true rfl) mzcS_0) mzcf_11_4 (mz_rb hR (Nat.le_of_ble_eq_true rfl) rfl mzcR_0_4) (g_aload_n rfl (g_getR (mz_at hS (Nat.le_of_ble_eq_true rfl) mzcS_0) mzcf_11_1 (mz_rb hR (Nat.le_of_ble_eq_true rfl) rfl mzcR_0_1) ?_)))))))
  obtain ⟨h4, hp⟩ := hp
  refine g_v2v (Nat.le_of_ble_eq_true rfl) (mz_at hS (Nat.le_of_ble_eq_true rfl) mzcS_65) (fun _ hq => cs_211 (Nat.le_trans (Nat.le_of_ble_eq_true rfl) hd) (hS.le (Nat.le_of_ble_eq_true rfl)) (hR.le (Nat.le_of_ble_eq_true rfl))  (cf_263_0 15 v2 v1 (cf_263_0 14 (cf_265_0 3 N) v1 N)) h4 hq) (g_iload_n rfl ?_)
  obtain ⟨h5, hp⟩ := hp
  refine g_v4n (Nat.le_of_ble_eq_true rfl) (mz_at hS (Nat.le_of_ble_eq_true rfl) mzcS_81) (fun _ hq => cs_263 (Nat.le_trans (Nat.le_of_ble_eq_true rfl) hd) (hS.le (Nat.le_of_ble_eq_true rfl)) (hR.le (Nat.le_of_ble_eq_true rfl))  16 (cf_211_0 (cf_263_0 15 v2 v1 (cf_263_0 14 (cf_265_0 3 N) v1 N))) v1 (cf_263_0 15 v2 v1 (cf_263_0 14 (cf_265_0 3 N) v1 N)) h5 hq) (g_aload_n rfl (g_getR (mz_at hS (Nat.le_of_ble_eq_true rfl) mzcS_0) mzcf_11_5 (mz_rb hR (Nat.le_of_ble_eq_true rfl) rfl mzcR_0_5) (g_bipush mzb_17 (g_aload_n rfl (g_getR (mz_at hS (Nat.le_of_ble_eq_true rfl) mzcS_0) mzcf_11_4 (mz_rb hR (Nat.le_of_ble_eq_true rfl) rfl mzcR_0_4) ?_)))))
  obtain ⟨h6, hp⟩ := hp
  refine g_v1v (Nat.le_of_ble_eq_true rfl) (mz_at hS (Nat.le_of_ble_eq_true rfl) mzcS_65) (fun _ hq => cs_267 (Nat.le_trans (Nat.le_of_ble_eq_true rfl) hd) (hS.le (Nat.le_of_ble_eq_true rfl)) (hR.le (Nat.le_of_ble_eq_true rfl))  (cf_263_0 16 (cf_211_0 (cf_263_0 15 v2 v1 (cf_263_0 14 (cf_265_0 3 N) v1 N))) v1 (cf_263_0 15 v2 v1 (cf_263_0 14 (cf_265_0 3 N) v1 N))) h6 hq) (g_iload_n rfl ?_)
  obtain ⟨h7, hp⟩ := hp
  refine g_v4n (Nat.le_of_ble_eq_true rfl) (mz_at hS (Nat.le_of_ble_eq_true rfl) mzcS_81) (fun _ hq => cs_263 (Nat.le_trans (Nat.le_of_ble_eq_true rfl) hd) (hS.le (Nat.le_of_ble_eq_true rfl)) (hR.le (Nat.le_of_ble_eq_true rfl))  17 (cf_267_0 (cf_263_0 16 (cf_211_0 (cf_263_0 15 v2 v1 (cf_263_0 14 (cf_265_0 3 N) v1 N))) v1 (cf_263_0 15 v2 v1 (cf_263_0 14 (cf_265_0 3 N) v1 N)))) v1 (cf_263_0 16 (cf_211_0 (cf_263_0 15 v2 v1 (cf_263_0 14 (cf_265_0 3 N) v1 N))) v1 (cf_263_0 15 v2 v1 (cf_263_0 14 (cf_265_0 3 N) v1 N))) h7 hq) ?_
  refine g_weak ?_ (g_cl (cg_261_274 hd hS hR (cf_263_0 17 (cf_267_0 (cf_263_0 16 (cf_211_0 (cf_263_0 15 v2 v1 (cf_263_0 14 (cf_265_0 3 N) v1 N))) v1 (cf_263_0 15 v2 v1 (cf_263_0 14 (cf_265_0 3 N) v1 N)))) v1 (cf_263_0 16 (cf_211_0 (cf_263_0 15 v2 v1 (cf_263_0 14 (cf_265_0 3 N) v1 N))) v1 (cf_263_0 15 v2 v1 (cf_263_0 14 (cf_265_0 3 N) v1 N)))) hr hp hC))
  exact trivial
theorem cg_261_168 (hd : 3 ≤ d) (hS : mz_extR S 232) (hR : mz_rok R 232)  (s1 : Int32) (s2 : Bool) (v1 : Int32) (v2 : Bool) (N : mz_N) {C0 : (mz_N) → Prop} (hr : ∀ (N2 : mz_N), C0 N2 → Q (.inl none) (mz_k S R N2 b t)) (hp : cp_261_168 s1 s2 v1 v2 N) (hC : C0 (cf_261_168 s1 s2 v1 v2 N)) : mz_G (d, mz_X0 L xs, none, [], mk_261, 6, Q) 168 mt_261_168 [(0, .ref 0), (1, .int v1), (2, .int (mz_b01 v2))] [.int (mz_b01 s2), .int s1, .ref 81] false (mz_k S R N b t) := by
  unfold cf_261_168 at hC
  unfold cp_261_168 at hp
  refine g_iload_n rfl ?_
  obtain ⟨h1, hp⟩ := hp
  refine g_v4n (Nat.le_of_ble_eq_true rfl) (mz_at hS (Nat.le_of_ble_eq_true rfl) mzcS_81) (fun _ hq => cs_263 (Nat.le_trans (Nat.le_of_ble_eq_true rfl) hd) (hS.le (Nat.le_of_ble_eq_true rfl)) (hR.le (Nat.le_of_ble_eq_true rfl))  s1 s2 v1 N h1 hq) (g_aload_n rfl (g_getR (mz_at hS (Nat.le_of_ble_eq_true rfl) mzcS_0) mzcf_11_5 (mz_rb hR (Nat.le_of_ble_eq_true rfl) rfl mzcR_0_5) (g_bipush mzb_12 (g_aload_n rfl (g_getR (mz_at hS (Nat.le_of_ble_eq_true rfl) mzcS_0) mzcf_11_3 (mz_rb hR (Nat.le_of_ble_eq_true rfl) rfl mzcR_0_3) (g_iconst mzi_2 ?_))))))
  obtain ⟨h2, hp⟩ := hp
  refine g_v2v (Nat.le_of_ble_eq_true rfl) (mz_at hS (Nat.le_of_ble_eq_true rfl) mzcS_56) (fun _ hq => cs_265 (Nat.le_trans (Nat.le_of_ble_eq_true rfl) hd) (hS.le (Nat.le_of_ble_eq_true rfl)) (hR.le (Nat.le_of_ble_eq_true rfl))  2 (cf_263_0 s1 s2 v1 N) h2 hq) (g_iload_n rfl ?_)
  obtain ⟨h3, hp⟩ := hp
  refine g_v4n (Nat.le_of_ble_eq_true rfl) (mz_at hS (Nat.le_of_ble_eq_true rfl) mzcS_81) (fun _ hq => cs_263 (Nat.le_trans (Nat.le_of_ble_eq_true rfl) hd) (hS.le (Nat.le_of_ble_eq_true rfl)) (hR.le (Nat.le_of_ble_eq_true rfl))  12 (cf_265_0 2 (cf_263_0 s1 s2 v1 N)) v1 (cf_263_0 s1 s2 v1 N) h3 hq) (g_aload_n rfl (g_getR (mz_at hS (Nat.le_of_ble_eq_true rfl) mzcS_0) mzcf_11_5 (mz_rb hR (Nat.le_of_ble_eq_true rfl) rfl mzcR_0_5) (g_bipush mzb_13 (g_aload_n rfl (g_getR (mz_at hS (Nat.le_of_ble_eq_true rfl) mzcS_0) mzcf_11_7 (mz_rb hR (Nat.le_of_ble_eq_true rfl) rfl mzcR_0_7) ?_)))))
  obtain ⟨h4, hp⟩ := hp
  refine g_v1v (Nat.le_of_ble_eq_true rfl) (mz_at hS (Nat.le_of_ble_eq_true rfl) mzcS_115) (fun _ hq => cs_266 (Nat.le_trans (Nat.le_of_ble_eq_true rfl) hd) (hS.le (Nat.le_of_ble_eq_true rfl)) (hR.le (Nat.le_of_ble_eq_true rfl))  (cf_263_0 12 (cf_265_0 2 (cf_263_0 s1 s2 v1 N)) v1 (cf_263_0 s1 s2 v1 N)) h4 hq) (g_iload_n rfl ?_)
  obtain ⟨h5, hp⟩ := hp
  refine g_v4n (Nat.le_of_ble_eq_true rfl) (mz_at hS (Nat.le_of_ble_eq_true rfl) mzcS_81) (fun _ hq => cs_263 (Nat.le_trans (Nat.le_of_ble_eq_true rfl) hd) (hS.le (Nat.le_of_ble_eq_true rfl)) (hR.le (Nat.le_of_ble_eq_true rfl))  13 (cf_266_0 (cf_263_0 12 (cf_265_0 2 (cf_263_0 s1 s2 v1 N)) v1 (cf_263_0 s1 s2 v1 N))) v1 (cf_263_0 12 (cf_265_0 2 (cf_263_0 s1 s2 v1 N)) v1 (cf_263_0 s1 s2 v1 N)) h5 hq) ?_
  refine g_weak ?_ (g_cl (cg_261_207 hd hS hR v1 v2 (cf_263_0 13 (cf_266_0 (cf_263_0 12 (cf_265_0 2 (cf_263_0 s1 s2 v1 N)) v1 (cf_263_0 s1 s2 v1 N))) v1 (cf_263_0 12 (cf_265_0 2 (cf_263_0 s1 s2 v1 N)) v1 (cf_263_0 s1 s2 v1 N))) hr hp hC))
  exact ⟨rfl, rfl, rfl, trivial⟩
theorem cg_261_120 (hd : 3 ≤ d) (hS : mz_extR S 232) (hR : mz_rok R 232)  (s0 : Bool) (v1 : Int32) (v3 : Int32) (N : mz_N) {C0 : (mz_N) → Prop} (hr : ∀ (N2 : mz_N), C0 N2 → Q (.inl none) (mz_k S R N2 b t)) {C1 : ((Bool × Int32 × mz_N) ⊕ (mz_N)) → Prop} (hc1 : ∀ s2, C1 (.inl s2) → mz_G (d, mz_X0 L xs, none, [], mk_261, 6, Q) 12 mt_261_12 [(0, .ref 0), (1, .int v1), (2, .int (mz_b01 s2.1)), (3, .int s2.2.1)] [] false (mz_k S R s2.2.2 b t)) (hx1 : ∀ z, C1 (.inr z) → C0 z) (hp : cp_261_120 s0 v1 v3 N) (hC : C1 (cf_261_120 s0 v1 v3 N)) : mz_G (d, mz_X0 L xs, none, [], mk_261, 6, Q) 120 mt_261_120 [(0, .ref 0), (1, .int v1), (3, .int v3)] [.int (mz_b01 s0)] false (mz_k S R N b t) := by
  unfold cf_261_120 at hC
  unfold cp_261_120 at hp
  refine g_istore_n (Nat.le_of_ble_eq_true rfl) rfl (g_iinc rfl mzi_1 (Nat.le_of_ble_eq_true rfl) rfl (g_goto (tg := 12) rfl ms_261_12 ?_))
  refine g_weak ?_ (g_cl (hc1 (s0, (v3 + 1), N) hC))
  exact ⟨rfl, rfl, rfl, rfl, trivial⟩
theorem cg_261_115 (hd : 3 ≤ d) (hS : mz_extR S 232) (hR : mz_rok R 232)  (v1 : Int32) (v3 : Int32) (N : mz_N) {C0 : (mz_N) → Prop} (hr : ∀ (N2 : mz_N), C0 N2 → Q (.inl none) (mz_k S R N2 b t)) {C1 : ((Bool × Int32 × mz_N) ⊕ (mz_N)) → Prop} (hc1 : ∀ s2, C1 (.inl s2) → mz_G (d, mz_X0 L xs, none, [], mk_261, 6, Q) 12 mt_261_12 [(0, .ref 0), (1, .int v1), (2, .int (mz_b01 s2.1)), (3, .int s2.2.1)] [] false (mz_k S R s2.2.2 b t)) (hx1 : ∀ z, C1 (.inr z) → C0 z) (hp : cp_261_115 v1 v3 N) (hC : C1 (cf_261_115 v1 v3 N)) : mz_G (d, mz_X0 L xs, none, [], mk_261, 6, Q) 115 mt_261_115 [(0, .ref 0), (1, .int v1), (3, .int v3)] [] false (mz_k S R N b t) := by
  unfold cf_261_115 at hC
  unfold cp_261_115 at hp
  refine g_iconst mzi_1 (g_goto (tg := 120) rfl ms_261_120 ?_)
  refine g_weak ?_ (g_cl (cg_261_120 hd hS hR true v1 v3 N hr hc1 hx1 hp hC))
  exact ⟨rfl, rfl, rfl, trivial⟩
theorem cg_261_119 (hd : 3 ≤ d) (hS : mz_extR S 232) (hR : mz_rok R 232)  (v1 : Int32) (v3 : Int32) (N : mz_N) {C0 : (mz_N) → Prop} (hr : ∀ (N2 : mz_N), C0 N2 → Q (.inl none) (mz_k S R N2 b t)) {C1 : ((Bool × Int32 × mz_N) ⊕ (mz_N)) → Prop} (hc1 : ∀ s2, C1 (.inl s2) → mz_G (d, mz_X0 L xs, none, [], mk_261, 6, Q) 12 mt_261_12 [(0, .ref 0), (1, .int v1), (2, .int (mz_b01 s2.1)), (3, .int s2.2.1)] [] false (mz_k S R s2.2.2 b t)) (hx1 : ∀ z, C1 (.inr z) → C0 z) (hp : cp_261_119 v1 v3 N) (hC : C1 (cf_261_119 v1 v3 N)) : mz_G (d, mz_X0 L xs, none, [], mk_261, 6, Q) 119 mt_261_119 [(0, .ref 0), (1, .int v1), (3, .int v3)] [] false (mz_k S R N b t) := by
  unfold cf_261_119 at hC
  unfold cp_261_119 at hp
  refine g_iconst mzi_0 ?_
  refine g_weak ?_ (g_cl (cg_261_120 hd hS hR false v1 v3 N hr hc1 hx1 hp hC))
  exact ⟨rfl, rfl, rfl, trivial⟩
theorem cg_261_68 (hd : 3 ≤ d) (hS : mz_extR S 232) (hR : mz_rok R 232)  (s0 : Bool) (v1 : Int32) (v2 : Bool) (v3 : Int32) (v4 : Int32) (N : mz_N) {C0 : (mz_N) → Prop} (hr : ∀ (N2 : mz_N), C0 N2 → Q (.inl none) (mz_k S R N2 b t)) {C1 : ((Bool × Int32 × mz_N) ⊕ (mz_N)) → Prop} (hc1 : ∀ s2, C1 (.inl s2) → mz_G (d, mz_X0 L xs, none, [], mk_261, 6, Q) 12 mt_261_12 [(0, .ref 0), (1, .int v1), (2, .int (mz_b01 s2.1)), (3, .int s2.2.1)] [] false (mz_k S R s2.2.2 b t)) (hx1 : ∀ z, C1 (.inr z) → C0 z) (hp : cp_261_68 s0 v1 v2 v3 v4 N) (hC : C1 (cf_261_68 s0 v1 v2 v3 v4 N)) : mz_G (d, mz_X0 L xs, none, [], mk_261, 6, Q) 68 mt_261_68 [(0, .ref 0), (1, .int v1), (2, .int (mz_b01 v2)), (3, .int v3), (4, .int v4)] [.int (mz_b01 s0)] false (mz_k S R N b t) := by
  unfold cf_261_68 at hC
  unfold cp_261_68 at hp
  refine g_istore (Nat.le_of_ble_eq_true rfl) rfl (g_aload_n rfl (g_getR (mz_at hS (Nat.le_of_ble_eq_true rfl) mzcS_0) mzcf_11_5 (mz_rb hR (Nat.le_of_ble_eq_true rfl) rfl mzcR_0_5) (g_iload_n rfl (g_aload_n rfl (g_getR (mz_at hS (Nat.le_of_ble_eq_true rfl) mzcS_0) mzcf_11_5 (mz_rb hR (Nat.le_of_ble_eq_true rfl) rfl mzcR_0_5) (g_iload_n rfl (g_iload rfl ?_)))))))
  obtain ⟨h1, hp⟩ := hp
  refine g_v3v (Nat.le_of_ble_eq_true rfl) (mz_at hS (Nat.le_of_ble_eq_true rfl) mzcS_81) (fun _ hq => cs_262 (Nat.le_trans (Nat.le_of_ble_eq_true rfl) hd) (hS.le (Nat.le_of_ble_eq_true rfl)) (hR.le (Nat.le_of_ble_eq_true rfl))  v3 s0 N h1 hq) (g_iload_n rfl ?_)
  obtain ⟨h2, hp⟩ := hp
  refine g_v4n (Nat.le_of_ble_eq_true rfl) (mz_at hS (Nat.le_of_ble_eq_true rfl) mzcS_81) (fun _ hq => cs_263 (Nat.le_trans (Nat.le_of_ble_eq_true rfl) hd) (hS.le (Nat.le_of_ble_eq_true rfl)) (hR.le (Nat.le_of_ble_eq_true rfl))  v3 ((cf_262_0 v3 s0 N).1) v1 ((cf_262_0 v3 s0 N).2) h2 hq) (g_iload_n rfl ?_)
  refine g_zne (tg := 115) rfl ms_261_115 hC (fun h3 hC => ?_) (fun h3 hC => ?_)
  · have hp := hp.1 h3
    refine g_weak ?_ (g_cl (cg_261_115 hd hS hR v1 v3 (cf_263_0 v3 ((cf_262_0 v3 s0 N).1) v1 ((cf_262_0 v3 s0 N).2)) hr hc1 hx1 hp hC))
    exact ⟨rfl, rfl, rfl, trivial⟩
  · have hp := hp.2 h3
    refine g_iload rfl (g_iconst mzi_m1 ?_)
    refine g_iceq (tg := 119) rfl ms_261_119 hC (fun h4 hC => ?_) (fun h4 hC => ?_)
    · have hp := hp.1 h4
      refine g_weak ?_ (g_cl (cg_261_119 hd hS hR v1 v3 (cf_263_0 v3 ((cf_262_0 v3 s0 N).1) v1 ((cf_262_0 v3 s0 N).2)) hr hc1 hx1 hp hC))
      exact ⟨rfl, rfl, rfl, trivial⟩
    · have hp := hp.2 h4
      refine g_aload_n rfl (g_getR (mz_at hS (Nat.le_of_ble_eq_true rfl) mzcS_0) mzcf_11_4 (mz_rb hR (Nat.le_of_ble_eq_true rfl) rfl mzcR_0_4) (g_aload_n rfl (g_getR (mz_at hS (Nat.le_of_ble_eq_true rfl) mzcS_0) mzcf_11_1 (mz_rb hR (Nat.le_of_ble_eq_true rfl) rfl mzcR_0_1) (g_iload rfl ?_))))
      obtain ⟨h5, hp⟩ := hp
      refine g_v3v (Nat.le_of_ble_eq_true rfl) (mz_at hS (Nat.le_of_ble_eq_true rfl) mzcS_65) (fun _ hq => cs_264 (Nat.le_trans (Nat.le_of_ble_eq_true rfl) hd) (hS.le (Nat.le_of_ble_eq_true rfl)) (hR.le (Nat.le_of_ble_eq_true rfl))  v4 (cf_263_0 v3 ((cf_262_0 v3 s0 N).1) v1 ((cf_262_0 v3 s0 N).2)) h5 hq) ?_
      refine g_zeq (tg := 119) rfl ms_261_119 hC (fun h6 hC => ?_) (fun h6 hC => ?_)
      · have hp := hp.1 h6
        refine g_weak ?_ (g_cl (cg_261_115 hd hS hR v1 v3 (cf_263_0 v3 ((cf_262_0 v3 s0 N).1) v1 ((cf_262_0 v3 s0 N).2)) hr hc1 hx1 hp hC))
        exact ⟨rfl, rfl, rfl, trivial⟩
      · have hp := hp.2 h6
        refine g_weak ?_ (g_cl (cg_261_119 hd hS hR v1 v3 (cf_263_0 v3 ((cf_262_0 v3 s0 N).1) v1 ((cf_262_0 v3 s0 N).2)) hr hc1 hx1 hp hC))
        exact ⟨rfl, rfl, rfl, trivial⟩
theorem cg_261_67 (hd : 3 ≤ d) (hS : mz_extR S 232) (hR : mz_rok R 232)  (v1 : Int32) (v2 : Bool) (v3 : Int32) (v4 : Int32) (N : mz_N) {C0 : (mz_N) → Prop} (hr : ∀ (N2 : mz_N), C0 N2 → Q (.inl none) (mz_k S R N2 b t)) {C1 : ((Bool × Int32 × mz_N) ⊕ (mz_N)) → Prop} (hc1 : ∀ s2, C1 (.inl s2) → mz_G (d, mz_X0 L xs, none, [], mk_261, 6, Q) 12 mt_261_12 [(0, .ref 0), (1, .int v1), (2, .int (mz_b01 s2.1)), (3, .int s2.2.1)] [] false (mz_k S R s2.2.2 b t)) (hx1 : ∀ z, C1 (.inr z) → C0 z) (hp : cp_261_67 v1 v2 v3 v4 N) (hC : C1 (cf_261_67 v1 v2 v3 v4 N)) : mz_G (d, mz_X0 L xs, none, [], mk_261, 6, Q) 67 mt_261_67 [(0, .ref 0), (1, .int v1), (2, .int (mz_b01 v2)), (3, .int v3), (4, .int v4)] [] false (mz_k S R N b t) := by
  unfold cf_261_67 at hC
  unfold cp_261_67 at hp
  refine g_iconst mzi_0 ?_
  refine g_weak ?_ (g_cl (cg_261_68 hd hS hR false v1 v2 v3 v4 N hr hc1 hx1 hp hC))
  exact ⟨rfl, rfl, rfl, rfl, rfl, trivial⟩
theorem cb_261_12 (hd : 3 ≤ d) (hS : mz_extR S 232) (hR : mz_rok R 232)  (v1 : Int32) (s : Bool × Int32 × mz_N) {C0 : (mz_N) → Prop} (hr : ∀ (N2 : mz_N), C0 N2 → Q (.inl none) (mz_k S R N2 b t)) {C1 : ((Bool × Int32 × mz_N) ⊕ (mz_N)) → Prop} (hc1 : ∀ s2, C1 (.inl s2) → mz_G (d, mz_X0 L xs, none, [], mk_261, 6, Q) 12 mt_261_12 [(0, .ref 0), (1, .int v1), (2, .int (mz_b01 s2.1)), (3, .int s2.2.1)] [] false (mz_k S R s2.2.2 b t)) (hx1 : ∀ z, C1 (.inr z) → C0 z) (hp : cd_261_12 v1 s) (hC : C1 (cq_261_12 v1 s)) : mz_G (d, mz_X0 L xs, none, [], mk_261, 6, Q) 12 mt_261_12 [(0, .ref 0), (1, .int v1), (2, .int (mz_b01 s.1)), (3, .int s.2.1)] [] false (mz_k S R s.2.2 b t) := by
  unfold cq_261_12 at hC
  unfold cd_261_12 at hp
  refine g_iload_n rfl (g_bipush mzb_10 ?_)
  refine g_icge (tg := 127) rfl ms_261_127 hC (fun h1 hC => ?_) (fun h1 hC => ?_)
  · have hp := hp.1 h1
    refine g_aload_n rfl (g_getR (mz_at hS (Nat.le_of_ble_eq_true rfl) mzcS_0) mzcf_11_1 (mz_rb hR (Nat.le_of_ble_eq_true rfl) rfl mzcR_0_1) (g_getR (mz_at hS (Nat.le_of_ble_eq_true rfl) mzcS_2) mzcf_5_16 (mz_rb hR (Nat.le_of_ble_eq_true rfl) rfl mzcR_2_16) (g_iload_n rfl ?_)))
    obtain ⟨h2, hp⟩ := hp
    refine g_iald hS.1 (mz_at hS (Nat.le_of_ble_eq_true rfl) mzcS_38) h2 (g_istore (Nat.le_of_ble_eq_true rfl) rfl (g_iload rfl (g_iconst mzi_m1 ?_)))
    refine g_iceq (tg := 67) rfl ms_261_67 hC (fun h3 hC => ?_) (fun h3 hC => ?_)
    · have hp := hp.1 h3
      refine g_weak ?_ (g_cl (cg_261_67 hd hS hR v1 s.1 s.2.1 (mz_gI s.2.2 38 s.2.1) s.2.2 hr hc1 hx1 hp hC))
      exact ⟨rfl, rfl, rfl, rfl, rfl, trivial⟩
    · have hp := hp.2 h3
      refine g_aload_n rfl (g_getR (mz_at hS (Nat.le_of_ble_eq_true rfl) mzcS_0) mzcf_11_10 (mz_rb hR (Nat.le_of_ble_eq_true rfl) rfl mzcR_0_10) (g_iload_n rfl ?_))
      obtain ⟨h4, hp⟩ := hp
      refine g_iald hS.1 (mz_at hS (Nat.le_of_ble_eq_true rfl) mzcS_53) h4 (g_i2l (g_aload_n rfl (g_getR (mz_at hS (Nat.le_of_ble_eq_true rfl) mzcS_0) mzcf_11_4 (mz_rb hR (Nat.le_of_ble_eq_true rfl) rfl mzcR_0_4) (g_aload_n rfl (g_getR (mz_at hS (Nat.le_of_ble_eq_true rfl) mzcS_0) mzcf_11_1 (mz_rb hR (Nat.le_of_ble_eq_true rfl) rfl mzcR_0_1) (g_iload rfl ?_))))))
      obtain ⟨h5, hp⟩ := hp
      refine g_v3v (Nat.le_of_ble_eq_true rfl) (mz_at hS (Nat.le_of_ble_eq_true rfl) mzcS_65) (fun _ hq => cs_157 (Nat.le_trans (Nat.le_of_ble_eq_true rfl) hd) (hS.le (Nat.le_of_ble_eq_true rfl)) (hR.le (Nat.le_of_ble_eq_true rfl))  (mz_gI s.2.2 38 s.2.1) s.2.2 h5 hq) (g_lsub (g_con3 (g_lcmp ?_)))
      refine g_lle (tg := 67) rfl ms_261_67 hC (fun h6 hC => ?_) (fun h6 hC => ?_)
      · have hp := hp.1 h6
        refine g_iconst mzi_1 (g_goto (tg := 68) rfl ms_261_68 ?_)
        refine g_weak ?_ (g_cl (cg_261_68 hd hS hR true v1 s.1 s.2.1 (mz_gI s.2.2 38 s.2.1) s.2.2 hr hc1 hx1 hp hC))
        exact ⟨rfl, rfl, rfl, rfl, rfl, trivial⟩
      · have hp := hp.2 h6
        refine g_weak ?_ (g_cl (cg_261_67 hd hS hR v1 s.1 s.2.1 (mz_gI s.2.2 38 s.2.1) s.2.2 hr hc1 hx1 hp hC))
        exact ⟨rfl, rfl, rfl, rfl, rfl, trivial⟩
  · have hp := hp.2 h1
    refine g_aload_n rfl (g_getR (mz_at hS (Nat.le_of_ble_eq_true rfl) mzcS_0) mzcf_11_5 (mz_rb hR (Nat.le_of_ble_eq_true rfl) rfl mzcR_0_5) (g_bipush mzb_10 (g_aload_n rfl (g_getR (mz_at hS (Nat.le_of_ble_eq_true rfl) mzcS_0) mzcf_11_3 (mz_rb hR (Nat.le_of_ble_eq_true rfl) rfl mzcR_0_3) ?_))))
    obtain ⟨h7, hp⟩ := hp
    refine g_getZ (mz_at hS (Nat.le_of_ble_eq_true rfl) mzcS_56) mzcf_9_10 h7 (g_iload_n rfl ?_)
    obtain ⟨h8, hp⟩ := hp
    refine g_v4n (Nat.le_of_ble_eq_true rfl) (mz_at hS (Nat.le_of_ble_eq_true rfl) mzcS_81) (fun _ hq => cs_263 (Nat.le_trans (Nat.le_of_ble_eq_true rfl) hd) (hS.le (Nat.le_of_ble_eq_true rfl)) (hR.le (Nat.le_of_ble_eq_true rfl))  10 (mz_fZ s.2.2 56 10) v1 s.2.2 h8 hq) (g_aload_n rfl (g_getR (mz_at hS (Nat.le_of_ble_eq_true rfl) mzcS_0) mzcf_11_5 (mz_rb hR (Nat.le_of_ble_eq_true rfl) rfl mzcR_0_5) (g_bipush mzb_11 (g_aload_n rfl (g_getR (mz_at hS (Nat.le_of_ble_eq_true rfl) mzcS_0) mzcf_11_3 (mz_rb hR (Nat.le_of_ble_eq_true rfl) rfl mzcR_0_3) (g_getI (mz_at hS (Nat.le_of_ble_eq_true rfl) mzcS_56) mzcf_9_12 (g_sipush mzs_240 ?_)))))))
    refine g_iclt (tg := 167) rfl ms_261_167 hC (fun h9 hC => ?_) (fun h9 hC => ?_)
    · have hp := hp.1 h9
      refine g_iconst mzi_0 ?_
      refine g_weak ?_ (g_cl (cg_261_168 hd hS hR 11 false v1 s.1 (cf_263_0 10 (mz_fZ s.2.2 56 10) v1 s.2.2) hr hp (hx1 _ hC)))
      exact ⟨rfl, rfl, rfl, trivial⟩
    · have hp := hp.2 h9
      refine g_iconst mzi_1 (g_goto (tg := 168) rfl ms_261_168 ?_)
      refine g_weak ?_ (g_cl (cg_261_168 hd hS hR 11 true v1 s.1 (cf_263_0 10 (mz_fZ s.2.2 56 10) v1 s.2.2) hr hp (hx1 _ hC)))
      exact ⟨rfl, rfl, rfl, trivial⟩
theorem cg_261_12 (hd : 3 ≤ d) (hS : mz_extR S 232) (hR : mz_rok R 232)  (v1 : Int32) (v2 : Bool) (v3 : Int32) (N : mz_N) {C0 : (mz_N) → Prop} (hr : ∀ (N2 : mz_N), C0 N2 → Q (.inl none) (mz_k S R N2 b t)) (hp : cp_261_12 v1 v2 v3 N) (hC : C0 (cf_261_12 v1 v2 v3 N)) : mz_G (d, mz_X0 L xs, none, [], mk_261, 6, Q) 12 mt_261_12 [(0, .ref 0), (1, .int v1), (2, .int (mz_b01 v2)), (3, .int v3)] [] false (mz_k S R N b t) := by
  obtain ⟨n, hn⟩ := hp
  exact g_loop (G := fun s => mz_G (d, mz_X0 L xs, none, [], mk_261, 6, Q) 12 mt_261_12 [(0, .ref 0), (1, .int v1), (2, .int (mz_b01 s.1)), (3, .int s.2.1)] [] false (mz_k S R s.2.2 b t)) (C := C0) (fun C2 hc hx s hP hC => cb_261_12 hd hS hR v1 s hr hc hx hP hC) n (v2, v3, N) hn hC
theorem cg_261_0 (hd : 3 ≤ d) (hS : mz_extR S 232) (hR : mz_rok R 232)  (N : mz_N) {C0 : (mz_N) → Prop} (hr : ∀ (N2 : mz_N), C0 N2 → Q (.inl none) (mz_k S R N2 b t)) (hp : cp_261_0 N) (hC : C0 (cf_261_0 N)) : mz_G (d, mz_X0 L xs, none, [], mk_261, 6, Q) 0 mk_261 [(0, .ref 0)] [] true (mz_k S R N b t) := by
  unfold cf_261_0 at hC
  unfold cp_261_0 at hp
  refine g_aload_n rfl (g_getR (mz_at hS (Nat.le_of_ble_eq_true rfl) mzcS_0) mzcf_11_8 (mz_rb hR (Nat.le_of_ble_eq_true rfl) rfl mzcR_0_8) (g_getI (mz_at hS (Nat.le_of_ble_eq_true rfl) mzcS_208) mzcf_1_0 (g_istore_n (Nat.le_of_ble_eq_true rfl) rfl (g_iconst mzi_0 (g_istore_n (Nat.le_of_ble_eq_true rfl) rfl (g_iconst mzi_0 (g_istore_n (Nat.le_of_ble_eq_true rfl) rfl ?_)))))))
  refine g_weak ?_ (g_cl (cg_261_12 hd hS hR (N.1 208 0) false 0 N hr hp hC))
  exact ⟨rfl, rfl, rfl, rfl, trivial⟩
theorem cs_261 (hd : 4 ≤ d) (hS : mz_extR S 232) (hR : mz_rok R 232)  (N : mz_N) (hp : cp_261_0 N) (hq : Q (.inl none) (mz_k S R (cf_261_0 N) b t)) : mz_Ed (mz_X0 L xs) d 261 [.ref 0] (mz_k S R N b t) Q :=
  by
  refine g_in mzq_261 (Nat.le_of_ble_eq_true rfl) (Nat.le_of_ble_eq_true rfl) (Nat.le_trans (Nat.le_of_ble_eq_true rfl) hd) ?_
  refine g_weak ?_ (cg_261_0 (d := d - 1) (by omega) hS hR N (C0 := fun z => Q (.inl none) (mz_k S R z b t)) (fun _ h => h) hp hq)
  exact ⟨rfl, trivial⟩
/-! 270 KeptHouse.measure (II)J -/
theorem ms_270_0 : mz_sf mk_270 0 = mk_270 := mz_sf_zero _
theorem ms_270_74 : mz_sf mk_270 74 = mt_270_74 := mz_sf_add ms_270_0 (t := 74) rfl rfl
theorem ms_270_75 : mz_sf mk_270 75 = mt_270_75 := mz_sf_add ms_270_74 (t := 1) rfl rfl
theorem ms_270_76 : mz_sf mk_270 76 = mt_270_76 := mz_sf_add ms_270_75 (t := 1) rfl rfl
theorem ms_270_117 : mz_sf mk_270 117 = mt_270_117 := mz_sf_add ms_270_76 (t := 41) rfl rfl
theorem ms_270_118 : mz_sf mk_270 118 = mt_270_118 := mz_sf_add ms_270_117 (t := 1) rfl rfl
theorem ms_270_119 : mz_sf mk_270 119 = mt_270_119 := mz_sf_add ms_270_118 (t := 1) rfl rfl
theorem ms_270_129 : mz_sf mk_270 129 = mt_270_129 := mz_sf_add ms_270_119 (t := 10) rfl rfl
theorem ms_270_138 : mz_sf mk_270 138 = mt_270_138 := mz_sf_add ms_270_129 (t := 9) rfl rfl
theorem ms_270_147 : mz_sf mk_270 147 = mt_270_147 := mz_sf_add ms_270_138 (t := 9) rfl rfl
theorem ms_270_156 : mz_sf mk_270 156 = mt_270_156 := mz_sf_add ms_270_147 (t := 9) rfl rfl
set_option maxRecDepth 100000 in
theorem mzq_270 : mz_PG0 270 = some (11, ⟨"KeptHouse", "measure", "(II)J"⟩, prog_1_method_85_code, 3, some .long, [], mk_270, []) := rfl
theorem cg_270_0 (hd : 3 ≤ d) (hS : mz_extR S 232) (hR : mz_rok R 232)  (v1 : Int32) (v2 : Int32) (N : mz_N) {C0 : (Int64) → Prop} (hr : ∀ (w : Int64), C0 w → Q (.inl (some (.long w))) (mz_k S R N b t)) (hp : cp_270_0 v1 v2 N) (hC : C0 (cf_270_0 v1 v2 N)) : mz_G (d, mz_X0 L xs, some .long, [], mk_270, 3, Q) 0 mk_270 [(0, .ref 0), (1, .int v1), (2, .int v2)] [] true (mz_k S R N b t) := by
  unfold cf_270_0 at hC
  unfold cp_270_0 at hp
  refine g_iload_n rfl ?_
  refine mz_cs hC (fun h1 hC => ?_) (fun h1 hC => ?_)
  · have hp := hp.1 h1
    refine g_brn (tg := 40) (by rw [h1]; rfl) (by decide) rfl ?_
    refine g_aload_n rfl (g_getR (mz_at hS (Nat.le_of_ble_eq_true rfl) mzcS_0) mzcf_11_1 (mz_rb hR (Nat.le_of_ble_eq_true rfl) rfl mzcR_0_1) (g_iload_n rfl ?_))
    obtain ⟨h12, hp⟩ := hp
    refine g_v2v (Nat.le_of_ble_eq_true rfl) (mz_at hS (Nat.le_of_ble_eq_true rfl) mzcS_2) (fun _ hq => cs_222 (Nat.le_trans (Nat.le_of_ble_eq_true rfl) hd) (hS.le (Nat.le_of_ble_eq_true rfl)) (hR.le (Nat.le_of_ble_eq_true rfl))  v2 N h12 hq) ?_
    refine g_zeq (tg := 74) rfl ms_270_74 hC (fun h13 hC => ?_) (fun h13 hC => ?_)
    · have hp := hp.1 h13
      refine g_aload_n rfl (g_getR (mz_at hS (Nat.le_of_ble_eq_true rfl) mzcS_0) mzcf_11_4 (mz_rb hR (Nat.le_of_ble_eq_true rfl) rfl mzcR_0_4) (g_aload_n rfl (g_getR (mz_at hS (Nat.le_of_ble_eq_true rfl) mzcS_0) mzcf_11_1 (mz_rb hR (Nat.le_of_ble_eq_true rfl) rfl mzcR_0_1) (g_aload_n rfl (g_getR (mz_at hS (Nat.le_of_ble_eq_true rfl) mzcS_0) mzcf_11_1 (mz_rb hR (Nat.le_of_ble_eq_true rfl) rfl mzcR_0_1) (g_getR (mz_at hS (Nat.le_of_ble_eq_true rfl) mzcS_2) mzcf_5_16 (mz_rb hR (Nat.le_of_ble_eq_true rfl) rfl mzcR_2_16) (g_iload_n rfl ?_)))))))
      obtain ⟨h14, hp⟩ := hp
      refine g_iald hS.1 (mz_at hS (Nat.le_of_ble_eq_true rfl) mzcS_38) h14 ?_
      have h15 := hp
      refine g_v3v (Nat.le_of_ble_eq_true rfl) (mz_at hS (Nat.le_of_ble_eq_true rfl) mzcS_65) (fun _ hq => cs_157 (Nat.le_trans (Nat.le_of_ble_eq_true rfl) hd) (hS.le (Nat.le_of_ble_eq_true rfl)) (hR.le (Nat.le_of_ble_eq_true rfl))  (mz_gI N 38 v2) N h15 hq) (g_goto (tg := 75) rfl ms_270_75 ?_)
      exact g_lret rfl (hr _ hC)
    · have hp := hp.2 h13
      refine g_lconst mzl_0 ?_
      exact g_lret rfl (hr _ hC)
  · have hp := hp.2 h1
    refine mz_cs hC (fun h2 hC => ?_) (fun h2 hC => ?_)
    · have hp := hp.1 h2
      refine g_br (tg := 76) (by rw [h2]; rfl) ms_270_76 ?_
      refine g_aload_n rfl (g_getR (mz_at hS (Nat.le_of_ble_eq_true rfl) mzcS_0) mzcf_11_1 (mz_rb hR (Nat.le_of_ble_eq_true rfl) rfl mzcR_0_1) (g_iload_n rfl ?_))
      obtain ⟨h8, hp⟩ := hp
      refine g_v2v (Nat.le_of_ble_eq_true rfl) (mz_at hS (Nat.le_of_ble_eq_true rfl) mzcS_2) (fun _ hq => cs_222 (Nat.le_trans (Nat.le_of_ble_eq_true rfl) hd) (hS.le (Nat.le_of_ble_eq_true rfl)) (hR.le (Nat.le_of_ble_eq_true rfl))  v2 N h8 hq) ?_
      refine g_zeq (tg := 117) rfl ms_270_117 hC (fun h9 hC => ?_) (fun h9 hC => ?_)
      · have hp := hp.1 h9
        refine g_aload_n rfl (g_getR (mz_at hS (Nat.le_of_ble_eq_true rfl) mzcS_0) mzcf_11_4 (mz_rb hR (Nat.le_of_ble_eq_true rfl) rfl mzcR_0_4) (g_aload_n rfl (g_getR (mz_at hS (Nat.le_of_ble_eq_true rfl) mzcS_0) mzcf_11_1 (mz_rb hR (Nat.le_of_ble_eq_true rfl) rfl mzcR_0_1) (g_aload_n rfl (g_getR (mz_at hS (Nat.le_of_ble_eq_true rfl) mzcS_0) mzcf_11_4 (mz_rb hR (Nat.le_of_ble_eq_true rfl) rfl mzcR_0_4) (g_getR (mz_at hS (Nat.le_of_ble_eq_true rfl) mzcS_65) mzcf_3_3 (mz_rb hR (Nat.le_of_ble_eq_true rfl) rfl mzcR_65_3) (g_aload_n rfl ?_)))))))
        refine g_getR (mz_at hS (Nat.le_of_ble_eq_true rfl) mzcS_0) mzcf_11_1 (mz_rb hR (Nat.le_of_ble_eq_true rfl) rfl mzcR_0_1) (g_getR (mz_at hS (Nat.le_of_ble_eq_true rfl) mzcS_2) mzcf_5_16 (mz_rb hR (Nat.le_of_ble_eq_true rfl) rfl mzcR_2_16) (g_iload_n rfl ?_))
        obtain ⟨h10, hp⟩ := hp
        refine g_iald hS.1 (mz_at hS (Nat.le_of_ble_eq_true rfl) mzcS_38) h10 ?_
        have h11 := hp
        refine g_v4v (Nat.le_of_ble_eq_true rfl) (mz_at hS (Nat.le_of_ble_eq_true rfl) mzcS_65) (fun _ hq => cs_158 (Nat.le_trans (Nat.le_of_ble_eq_true rfl) hd) (hS.le (Nat.le_of_ble_eq_true rfl)) (hR.le (Nat.le_of_ble_eq_true rfl)) 69 (mz_at hS (Nat.le_of_ble_eq_true rfl) mzcS_69) (mz_gI N 38 v2) N h11 hq) (g_goto (tg := 118) rfl ms_270_118 ?_)
        exact g_lret rfl (hr _ hC)
      · have hp := hp.2 h9
        refine g_lconst mzl_0 ?_
        exact g_lret rfl (hr _ hC)
    · have hp := hp.2 h2
      refine mz_cs hC (fun h3 hC => ?_) (fun h3 hC => ?_)
      · have hp := hp.1 h3
        refine g_br (tg := 119) (by rw [h3]; rfl) ms_270_119 ?_
        refine g_aload_n rfl (g_getR (mz_at hS (Nat.le_of_ble_eq_true rfl) mzcS_0) mzcf_11_3 (mz_rb hR (Nat.le_of_ble_eq_true rfl) rfl mzcR_0_3) (g_iload_n rfl ?_))
        have h7 := hp
        refine g_v2v (Nat.le_of_ble_eq_true rfl) (mz_at hS (Nat.le_of_ble_eq_true rfl) mzcS_56) (fun _ hq => cs_238 (Nat.le_trans (Nat.le_of_ble_eq_true rfl) hd) (hS.le (Nat.le_of_ble_eq_true rfl)) (hR.le (Nat.le_of_ble_eq_true rfl))  v2 N h7 hq) (g_i2l ?_)
        exact g_lret rfl (hr _ hC)
      · have hp := hp.2 h3
        refine mz_cs hC (fun h4 hC => ?_) (fun h4 hC => ?_)
        · refine g_br (tg := 129) (by rw [h4]; rfl) ms_270_129 ?_
          refine g_aload_n rfl (g_getR (mz_at hS (Nat.le_of_ble_eq_true rfl) mzcS_0) mzcf_11_3 (mz_rb hR (Nat.le_of_ble_eq_true rfl) rfl mzcR_0_3) (g_getI (mz_at hS (Nat.le_of_ble_eq_true rfl) mzcS_56) mzcf_9_7 (g_i2l ?_)))
          exact g_lret rfl (hr _ hC)
        · refine mz_cs hC (fun h5 hC => ?_) (fun h5 hC => ?_)
          · refine g_br (tg := 138) (by rw [h5]; rfl) ms_270_138 ?_
            refine g_aload_n rfl (g_getR (mz_at hS (Nat.le_of_ble_eq_true rfl) mzcS_0) mzcf_11_3 (mz_rb hR (Nat.le_of_ble_eq_true rfl) rfl mzcR_0_3) (g_getI (mz_at hS (Nat.le_of_ble_eq_true rfl) mzcS_56) mzcf_9_11 (g_i2l ?_)))
            exact g_lret rfl (hr _ hC)
          · refine mz_cs hC (fun h6 hC => ?_) (fun h6 hC => ?_)
            · refine g_br (tg := 147) (by rw [h6]; rfl) ms_270_147 ?_
              refine g_aload_n rfl (g_getR (mz_at hS (Nat.le_of_ble_eq_true rfl) mzcS_0) mzcf_11_3 (mz_rb hR (Nat.le_of_ble_eq_true rfl) rfl mzcR_0_3) (g_getI (mz_at hS (Nat.le_of_ble_eq_true rfl) mzcS_56) mzcf_9_1 (g_i2l ?_)))
              exact g_lret rfl (hr _ hC)
            · refine g_br (tg := 156) ((mz_tsw_d (l := [0, 1, 2, 3, 4, 5]) (mz_rng 0 5) ⟨h1, h2, h3, h4, h5, h6, trivial⟩).trans (mz_tg_t rfl)) ms_270_156 ?_
              refine g_aload_n rfl (g_getR (mz_at hS (Nat.le_of_ble_eq_true rfl) mzcS_0) mzcf_11_8 (mz_rb hR (Nat.le_of_ble_eq_true rfl) rfl mzcR_0_8) (g_getI (mz_at hS (Nat.le_of_ble_eq_true rfl) mzcS_208) mzcf_1_3 (g_i2l ?_)))
              exact g_lret rfl (hr _ hC)
theorem cs_270 (hd : 4 ≤ d) (hS : mz_extR S 232) (hR : mz_rok R 232)  (v1 : Int32) (v2 : Int32) (N : mz_N) (hp : cp_270_0 v1 v2 N) (hq : Q (.inl (some (.long (cf_270_0 v1 v2 N)))) (mz_k S R N b t)) : mz_Ed (mz_X0 L xs) d 270 [.ref 0, .int v1, .int v2] (mz_k S R N b t) Q :=
  by
  refine g_in mzq_270 (Nat.le_of_ble_eq_true rfl) (Nat.le_of_ble_eq_true rfl) (Nat.le_trans (Nat.le_of_ble_eq_true rfl) hd) ?_
  refine g_weak ?_ (cg_270_0 (d := d - 1) (by omega) hS hR v1 v2 N (C0 := fun z => Q (.inl (some (.long z))) (mz_k S R N b t)) (fun _ h => h) hp hq)
  exact ⟨rfl, rfl, rfl, trivial⟩
/-! 271 KeptHouse$Watch.noteValue (IJ)V -/
theorem ms_271_0 : mz_sf mk_271 0 = mk_271 := mz_sf_zero _
theorem ms_271_17 : mz_sf mk_271 17 = mt_271_17 := mz_sf_add ms_271_0 (t := 17) rfl rfl
set_option maxRecDepth 100000 in
theorem mzq_271 : mz_PG0 271 = some (10, ⟨"KeptHouse$Watch", "noteValue", "(IJ)V"⟩, prog_12_method_7_code, 4, none, [], mk_271, []) := rfl
theorem cg_271_0 (hd : 0 ≤ d) (hS : mz_extR S 232) (hR : mz_rok R 232)  (v1 : Int32) (v2 : Int64) (N : mz_N) {C0 : (mz_N) → Prop} (hr : ∀ (N2 : mz_N), C0 N2 → Q (.inl none) (mz_k S R N2 b t)) (hp : cp_271_0 v1 v2 N) (hC : C0 (cf_271_0 v1 v2 N)) : mz_G (d, mz_X0 L xs, none, [], mk_271, 4, Q) 0 mk_271 [(0, .ref 81), (1, .int v1), (2, .long v2)] [] true (mz_k S R N b t) := by
  unfold cf_271_0 at hC
  unfold cp_271_0 at hp
  refine g_aload_n rfl (g_getR (mz_at hS (Nat.le_of_ble_eq_true rfl) mzcS_81) mzcf_10_7 (mz_rb hR (Nat.le_of_ble_eq_true rfl) rfl mzcR_81_7) (g_iload_n rfl ?_))
  obtain ⟨h1, hp⟩ := hp
  refine g_aald5 (mz_at hS (Nat.le_of_ble_eq_true rfl) mzcS_90) h1 (mz_rb hR (Nat.le_of_ble_eq_true rfl) rfl (mzcR2_90 h1)) (g_aload_n rfl (g_getR (mz_at hS (Nat.le_of_ble_eq_true rfl) mzcS_81) mzcf_10_8 (mz_rb hR (Nat.le_of_ble_eq_true rfl) rfl mzcR_81_8) (g_iload_n rfl ?_)))
  obtain ⟨h2, hp⟩ := hp
  refine g_iald hS.1 (mz_at hS (Nat.le_of_ble_eq_true rfl) mzcS_99) h2 (g_bipush mzb_48 (g_irem (by decide) (g_lload_n rfl ?_)))
  obtain ⟨h3, hp⟩ := hp
  refine g_last (mz_at hS (mzcL2_90 h1 (Nat.le_of_ble_eq_true rfl)) (mzcS2_90 h1)) h3 (g_aload_n rfl (g_getR (mz_at hS (Nat.le_of_ble_eq_true rfl) mzcS_81) mzcf_10_8 (mz_rb hR (Nat.le_of_ble_eq_true rfl) rfl mzcR_81_8) (g_iload_n rfl (g_dup2 rfl rfl ?_))))
  obtain ⟨h4, hp⟩ := hp
  refine g_iald hS.1 (mz_at hS (Nat.le_of_ble_eq_true rfl) mzcS_99) h4 (g_iconst mzi_1 (g_iadd ?_))
  have h5 := hp
  refine g_iast (mz_at hS (Nat.le_of_ble_eq_true rfl) mzcS_99) h5 ?_
  exact g_vret rfl (hr _ hC)
theorem cs_271 (hd : 1 ≤ d) (hS : mz_extR S 232) (hR : mz_rok R 232)  (v1 : Int32) (v2 : Int64) (N : mz_N) (hp : cp_271_0 v1 v2 N) (hq : Q (.inl none) (mz_k S R (cf_271_0 v1 v2 N) b t)) : mz_Ed (mz_X0 L xs) d 271 [.ref 81, .int v1, .long v2] (mz_k S R N b t) Q :=
  by
  refine g_in mzq_271 (Nat.le_of_ble_eq_true rfl) (Nat.le_of_ble_eq_true rfl) (Nat.le_trans (Nat.le_of_ble_eq_true rfl) hd) ?_
  refine g_weak ?_ (cg_271_0 (d := d - 1) (by omega) hS hR v1 v2 N (C0 := fun z => Q (.inl none) (mz_k S R z b t)) (fun _ h => h) hp hq)
  exact ⟨rfl, rfl, rfl, trivial⟩
/-! 269 KeptHouse.notePoints ()V -/
theorem ms_269_0 : mz_sf mk_269 0 = mk_269 := mz_sf_zero _
theorem ms_269_2 : mz_sf mk_269 2 = mt_269_2 := mz_sf_add ms_269_0 (t := 2) rfl rfl
theorem ms_269_51 : mz_sf mk_269 51 = mt_269_51 := mz_sf_add ms_269_2 (t := 49) rfl rfl
theorem ms_269_57 : mz_sf mk_269 57 = mt_269_57 := mz_sf_add ms_269_51 (t := 6) rfl rfl
set_option maxRecDepth 100000 in
theorem mzq_269 : mz_PG0 269 = some (11, ⟨"KeptHouse", "notePoints", "()V"⟩, prog_1_method_84_code, 2, none, [], mk_269, []) := rfl
theorem cg_269_51 (hd : 4 ≤ d) (hS : mz_extR S 232) (hR : mz_rok R 232)  (v1 : Int32) (N : mz_N) {C0 : (mz_N) → Prop} (hr : ∀ (N2 : mz_N), C0 N2 → Q (.inl none) (mz_k S R N2 b t)) {C1 : ((Int32 × mz_N) ⊕ (mz_N)) → Prop} (hc1 : ∀ s2, C1 (.inl s2) → mz_G (d, mz_X0 L xs, none, [], mk_269, 2, Q) 2 mt_269_2 [(0, .ref 0), (1, .int s2.1)] [] false (mz_k S R s2.2 b t)) (hx1 : ∀ z, C1 (.inr z) → C0 z) (hp : cp_269_51 v1 N) (hC : C1 (cf_269_51 v1 N)) : mz_G (d, mz_X0 L xs, none, [], mk_269, 2, Q) 51 mt_269_51 [(0, .ref 0), (1, .int v1)] [] false (mz_k S R N b t) := by
  unfold cf_269_51 at hC
  unfold cp_269_51 at hp
  refine g_iinc rfl mzi_1 (Nat.le_of_ble_eq_true rfl) rfl (g_goto (tg := 2) rfl ms_269_2 ?_)
  refine g_weak ?_ (g_cl (hc1 ((v1 + 1), N) hC))
  exact ⟨rfl, rfl, trivial⟩
theorem cb_269_2 (hd : 4 ≤ d) (hS : mz_extR S 232) (hR : mz_rok R 232)   (s : Int32 × mz_N) {C0 : (mz_N) → Prop} (hr : ∀ (N2 : mz_N), C0 N2 → Q (.inl none) (mz_k S R N2 b t)) {C1 : ((Int32 × mz_N) ⊕ (mz_N)) → Prop} (hc1 : ∀ s2, C1 (.inl s2) → mz_G (d, mz_X0 L xs, none, [], mk_269, 2, Q) 2 mt_269_2 [(0, .ref 0), (1, .int s2.1)] [] false (mz_k S R s2.2 b t)) (hx1 : ∀ z, C1 (.inr z) → C0 z) (hp : cd_269_2  s) (hC : C1 (cq_269_2  s)) : mz_G (d, mz_X0 L xs, none, [], mk_269, 2, Q) 2 mt_269_2 [(0, .ref 0), (1, .int s.1)] [] false (mz_k S R s.2 b t) := by
  unfold cq_269_2 at hC
  unfold cd_269_2 at hp
  refine g_iload_n rfl (g_bipush mzb_8 ?_)
  refine g_icge (tg := 57) rfl ms_269_57 hC (fun h1 hC => ?_) (fun h1 hC => ?_)
  · have hp := hp.1 h1
    refine g_aload_n rfl (g_getR (mz_at hS (Nat.le_of_ble_eq_true rfl) mzcS_0) mzcf_11_5 (mz_rb hR (Nat.le_of_ble_eq_true rfl) rfl mzcR_0_5) (g_getR (mz_at hS (Nat.le_of_ble_eq_true rfl) mzcS_81) mzcf_10_4 (mz_rb hR (Nat.le_of_ble_eq_true rfl) rfl mzcR_81_4) (g_iload_n rfl ?_)))
    obtain ⟨h2, hp⟩ := hp
    refine g_iald hS.1 (mz_at hS (Nat.le_of_ble_eq_true rfl) mzcS_87) h2 (g_iconst mzi_1 ?_)
    refine g_icne (tg := 51) rfl ms_269_51 hC (fun h3 hC => ?_) (fun h3 hC => ?_)
    · have hp := hp.1 h3
      refine g_aload_n rfl (g_getR (mz_at hS (Nat.le_of_ble_eq_true rfl) mzcS_0) mzcf_11_5 (mz_rb hR (Nat.le_of_ble_eq_true rfl) rfl mzcR_0_5) (g_iload_n rfl (g_aload_n rfl (g_aload_n rfl (g_getR (mz_at hS (Nat.le_of_ble_eq_true rfl) mzcS_0) mzcf_11_5 (mz_rb hR (Nat.le_of_ble_eq_true rfl) rfl mzcR_0_5) (g_getR (mz_at hS (Nat.le_of_ble_eq_true rfl) mzcS_81) mzcf_10_5 (mz_rb hR (Nat.le_of_ble_eq_true rfl) rfl mzcR_81_5) (g_iload_n rfl ?_)))))))
      obtain ⟨h4, hp⟩ := hp
      refine g_iald hS.1 (mz_at hS (Nat.le_of_ble_eq_true rfl) mzcS_88) h4 (g_aload_n rfl (g_getR (mz_at hS (Nat.le_of_ble_eq_true rfl) mzcS_0) mzcf_11_5 (mz_rb hR (Nat.le_of_ble_eq_true rfl) rfl mzcR_0_5) (g_getR (mz_at hS (Nat.le_of_ble_eq_true rfl) mzcS_81) mzcf_10_6 (mz_rb hR (Nat.le_of_ble_eq_true rfl) rfl mzcR_81_6) (g_iload_n rfl ?_))))
      obtain ⟨h5, hp⟩ := hp
      refine g_iald hS.1 (mz_at hS (Nat.le_of_ble_eq_true rfl) mzcS_89) h5 ?_
      obtain ⟨h6, hp⟩ := hp
      refine g_v3v (Nat.le_of_ble_eq_true rfl) (mz_at hS (Nat.le_of_ble_eq_true rfl) mzcS_0) (fun _ hq => cs_270 (Nat.le_trans (Nat.le_of_ble_eq_true rfl) hd) (hS.le (Nat.le_of_ble_eq_true rfl)) (hR.le (Nat.le_of_ble_eq_true rfl))  (mz_gI s.2 88 s.1) (mz_gI s.2 89 s.1) s.2 h6 hq) ?_
      obtain ⟨h7, hp⟩ := hp
      refine g_v3n (Nat.le_of_ble_eq_true rfl) (mz_at hS (Nat.le_of_ble_eq_true rfl) mzcS_81) (fun _ hq => cs_271 (Nat.le_trans (Nat.le_of_ble_eq_true rfl) hd) (hS.le (Nat.le_of_ble_eq_true rfl)) (hR.le (Nat.le_of_ble_eq_true rfl))  s.1 (cf_270_0 (mz_gI s.2 88 s.1) (mz_gI s.2 89 s.1) s.2) s.2 h7 hq) ?_
      refine g_weak ?_ (g_cl (cg_269_51 hd hS hR s.1 (cf_271_0 s.1 (cf_270_0 (mz_gI s.2 88 s.1) (mz_gI s.2 89 s.1) s.2) s.2) hr hc1 hx1 hp hC))
      exact ⟨rfl, rfl, trivial⟩
    · have hp := hp.2 h3
      refine g_weak ?_ (g_cl (cg_269_51 hd hS hR s.1 s.2 hr hc1 hx1 hp hC))
      exact ⟨rfl, rfl, trivial⟩
  · have hp := hp.2 h1
    exact g_vret rfl (hr _ (hx1 _ hC))
theorem cg_269_2 (hd : 4 ≤ d) (hS : mz_extR S 232) (hR : mz_rok R 232)  (v1 : Int32) (N : mz_N) {C0 : (mz_N) → Prop} (hr : ∀ (N2 : mz_N), C0 N2 → Q (.inl none) (mz_k S R N2 b t)) (hp : cp_269_2 v1 N) (hC : C0 (cf_269_2 v1 N)) : mz_G (d, mz_X0 L xs, none, [], mk_269, 2, Q) 2 mt_269_2 [(0, .ref 0), (1, .int v1)] [] false (mz_k S R N b t) := by
  obtain ⟨n, hn⟩ := hp
  exact g_loop (G := fun s => mz_G (d, mz_X0 L xs, none, [], mk_269, 2, Q) 2 mt_269_2 [(0, .ref 0), (1, .int s.1)] [] false (mz_k S R s.2 b t)) (C := C0) (fun C2 hc hx s hP hC => cb_269_2 hd hS hR  s hr hc hx hP hC) n (v1, N) hn hC
theorem cg_269_0 (hd : 4 ≤ d) (hS : mz_extR S 232) (hR : mz_rok R 232)  (N : mz_N) {C0 : (mz_N) → Prop} (hr : ∀ (N2 : mz_N), C0 N2 → Q (.inl none) (mz_k S R N2 b t)) (hp : cp_269_0 N) (hC : C0 (cf_269_0 N)) : mz_G (d, mz_X0 L xs, none, [], mk_269, 2, Q) 0 mk_269 [(0, .ref 0)] [] true (mz_k S R N b t) := by
  unfold cf_269_0 at hC
  unfold cp_269_0 at hp
  refine g_iconst mzi_0 (g_istore_n (Nat.le_of_ble_eq_true rfl) rfl ?_)
  refine g_weak ?_ (g_cl (cg_269_2 hd hS hR 0 N hr hp hC))
  exact ⟨rfl, rfl, trivial⟩
theorem cs_269 (hd : 5 ≤ d) (hS : mz_extR S 232) (hR : mz_rok R 232)  (N : mz_N) (hp : cp_269_0 N) (hq : Q (.inl none) (mz_k S R (cf_269_0 N) b t)) : mz_Ed (mz_X0 L xs) d 269 [.ref 0] (mz_k S R N b t) Q :=
  by
  refine g_in mzq_269 (Nat.le_of_ble_eq_true rfl) (Nat.le_of_ble_eq_true rfl) (Nat.le_trans (Nat.le_of_ble_eq_true rfl) hd) ?_
  refine g_weak ?_ (cg_269_0 (d := d - 1) (by omega) hS hR N (C0 := fun z => Q (.inl none) (mz_k S R z b t)) (fun _ h => h) hp hq)
  exact ⟨rfl, trivial⟩
/-! 273 KeptHouse$Books.sumMeters (I)J -/
theorem ms_273_0 : mz_sf mk_273 0 = mk_273 := mz_sf_zero _
theorem ms_273_5 : mz_sf mk_273 5 = mt_273_5 := mz_sf_add ms_273_0 (t := 5) rfl rfl
theorem ms_273_25 : mz_sf mk_273 25 = mt_273_25 := mz_sf_add ms_273_5 (t := 20) rfl rfl
theorem ms_273_31 : mz_sf mk_273 31 = mt_273_31 := mz_sf_add ms_273_25 (t := 6) rfl rfl
set_option maxRecDepth 100000 in
theorem mzq_273 : mz_PG0 273 = some (1, ⟨"KeptHouse$Books", "sumMeters", "(I)J"⟩, prog_3_method_9_code, 5, some .long, [], mk_273, []) := rfl
theorem cb_273_5 (hd : 0 ≤ d) (hS : mz_extR S 232) (hR : mz_rok R 232)  (v1 : Int32) (N : mz_N) (s : Int64 × Int32) {C0 : (Int64) → Prop} (hr : ∀ (w : Int64), C0 w → Q (.inl (some (.long w))) (mz_k S R N b t)) {C1 : ((Int64 × Int32) ⊕ (Int64)) → Prop} (hc1 : ∀ s2, C1 (.inl s2) → mz_G (d, mz_X0 L xs, some .long, [], mk_273, 5, Q) 5 mt_273_5 [(0, .ref 208), (1, .int v1), (2, .long s2.1), (4, .int s2.2)] [] false (mz_k S R N b t)) (hx1 : ∀ z, C1 (.inr z) → C0 z) (hp : cd_273_5 v1 N s) (hC : C1 (cq_273_5 v1 N s)) : mz_G (d, mz_X0 L xs, some .long, [], mk_273, 5, Q) 5 mt_273_5 [(0, .ref 208), (1, .int v1), (2, .long s.1), (4, .int s.2)] [] false (mz_k S R N b t) := by
  unfold cq_273_5 at hC
  unfold cd_273_5 at hp
  refine g_iload rfl (g_bipush mzb_11 ?_)
  refine g_icge (tg := 31) rfl ms_273_31 hC (fun h1 hC => ?_) (fun h1 hC => ?_)
  · have hp := hp.1 h1
    refine g_lload_n rfl (g_aload_n rfl (g_getR (mz_at hS (Nat.le_of_ble_eq_true rfl) mzcS_208) mzcf_1_5 (mz_rb hR (Nat.le_of_ble_eq_true rfl) rfl mzcR_208_5) (g_iload_n rfl ?_)))
    obtain ⟨h2, hp⟩ := hp
    refine g_aald4 (mz_at hS (Nat.le_of_ble_eq_true rfl) mzcS_209) h2 (mz_rb hR (Nat.le_of_ble_eq_true rfl) rfl (mzcR2_209 h2)) (g_iload rfl ?_)
    have h3 := hp
    refine g_iald hS.1 (mz_at hS (mzcL2_209 h2 (Nat.le_of_ble_eq_true rfl)) (mzcS2_209 h2)) h3 (g_i2l (g_ladd (g_lstore_n (Nat.le_of_ble_eq_true rfl) rfl rfl (g_iinc rfl mzi_1 (Nat.le_of_ble_eq_true rfl) rfl (g_goto (tg := 5) rfl ms_273_5 ?_)))))
    refine g_weak ?_ (g_cl (hc1 ((s.1 + ((mz_gI N (210 + v1.toNatClampNeg) s.2).toInt64)), (s.2 + 1)) hC))
    exact ⟨rfl, rfl, rfl, rfl, trivial⟩
  · have hp := hp.2 h1
    refine g_lload_n rfl ?_
    exact g_lret rfl (hr _ (hx1 _ hC))
theorem cg_273_5 (hd : 0 ≤ d) (hS : mz_extR S 232) (hR : mz_rok R 232)  (v1 : Int32) (v2 : Int64) (v4 : Int32) (N : mz_N) {C0 : (Int64) → Prop} (hr : ∀ (w : Int64), C0 w → Q (.inl (some (.long w))) (mz_k S R N b t)) (hp : cp_273_5 v1 v2 v4 N) (hC : C0 (cf_273_5 v1 v2 v4 N)) : mz_G (d, mz_X0 L xs, some .long, [], mk_273, 5, Q) 5 mt_273_5 [(0, .ref 208), (1, .int v1), (2, .long v2), (4, .int v4)] [] false (mz_k S R N b t) := by
  obtain ⟨n, hn⟩ := hp
  exact g_loop (G := fun s => mz_G (d, mz_X0 L xs, some .long, [], mk_273, 5, Q) 5 mt_273_5 [(0, .ref 208), (1, .int v1), (2, .long s.1), (4, .int s.2)] [] false (mz_k S R N b t)) (C := C0) (fun C2 hc hx s hP hC => cb_273_5 hd hS hR v1 N s hr hc hx hP hC) n (v2, v4) hn hC
theorem cg_273_0 (hd : 0 ≤ d) (hS : mz_extR S 232) (hR : mz_rok R 232)  (v1 : Int32) (N : mz_N) {C0 : (Int64) → Prop} (hr : ∀ (w : Int64), C0 w → Q (.inl (some (.long w))) (mz_k S R N b t)) (hp : cp_273_0 v1 N) (hC : C0 (cf_273_0 v1 N)) : mz_G (d, mz_X0 L xs, some .long, [], mk_273, 5, Q) 0 mk_273 [(0, .ref 208), (1, .int v1)] [] true (mz_k S R N b t) := by
  unfold cf_273_0 at hC
  unfold cp_273_0 at hp
  refine g_lconst mzl_0 (g_lstore_n (Nat.le_of_ble_eq_true rfl) rfl rfl (g_iconst mzi_0 (g_istore (Nat.le_of_ble_eq_true rfl) rfl ?_)))
  refine g_weak ?_ (g_cl (cg_273_5 hd hS hR v1 0 0 N hr hp hC))
  exact ⟨rfl, rfl, rfl, rfl, trivial⟩
theorem cs_273 (hd : 1 ≤ d) (hS : mz_extR S 232) (hR : mz_rok R 232)  (v1 : Int32) (N : mz_N) (hp : cp_273_0 v1 N) (hq : Q (.inl (some (.long (cf_273_0 v1 N)))) (mz_k S R N b t)) : mz_Ed (mz_X0 L xs) d 273 [.ref 208, .int v1] (mz_k S R N b t) Q :=
  by
  refine g_in mzq_273 (Nat.le_of_ble_eq_true rfl) (Nat.le_of_ble_eq_true rfl) (Nat.le_trans (Nat.le_of_ble_eq_true rfl) hd) ?_
  refine g_weak ?_ (cg_273_0 (d := d - 1) (by omega) hS hR v1 N (C0 := fun z => Q (.inl (some (.long z))) (mz_k S R N b t)) (fun _ h => h) hp hq)
  exact ⟨rfl, rfl, trivial⟩
/-! 275 KeptHouse$Books.addShares ()V -/
theorem ms_275_0 : mz_sf mk_275 0 = mk_275 := mz_sf_zero _
theorem ms_275_2 : mz_sf mk_275 2 = mt_275_2 := mz_sf_add ms_275_0 (t := 2) rfl rfl
theorem ms_275_23 : mz_sf mk_275 23 = mt_275_23 := mz_sf_add ms_275_2 (t := 21) rfl rfl
theorem ms_275_29 : mz_sf mk_275 29 = mt_275_29 := mz_sf_add ms_275_23 (t := 6) rfl rfl
set_option maxRecDepth 100000 in
theorem mzq_275 : mz_PG0 275 = some (1, ⟨"KeptHouse$Books", "addShares", "()V"⟩, prog_3_method_12_code, 2, none, [], mk_275, []) := rfl
theorem cb_275_2 (hd : 0 ≤ d) (hS : mz_extR S 232) (hR : mz_rok R 232)   (s : Int32 × mz_N) {C0 : (mz_N) → Prop} (hr : ∀ (N2 : mz_N), C0 N2 → Q (.inl none) (mz_k S R N2 b t)) {C1 : ((Int32 × mz_N) ⊕ (mz_N)) → Prop} (hc1 : ∀ s2, C1 (.inl s2) → mz_G (d, mz_X0 L xs, none, [], mk_275, 2, Q) 2 mt_275_2 [(0, .ref 208), (1, .int s2.1)] [] false (mz_k S R s2.2 b t)) (hx1 : ∀ z, C1 (.inr z) → C0 z) (hp : cd_275_2  s) (hC : C1 (cq_275_2  s)) : mz_G (d, mz_X0 L xs, none, [], mk_275, 2, Q) 2 mt_275_2 [(0, .ref 208), (1, .int s.1)] [] false (mz_k S R s.2 b t) := by
  unfold cq_275_2 at hC
  unfold cd_275_2 at hp
  refine g_iload_n rfl (g_bipush mzb_10 ?_)
  refine g_icge (tg := 29) rfl ms_275_29 hC (fun h1 hC => ?_) (fun h1 hC => ?_)
  · have hp := hp.1 h1
    refine g_aload_n rfl (g_getR (mz_at hS (Nat.le_of_ble_eq_true rfl) mzcS_208) mzcf_1_7 (mz_rb hR (Nat.le_of_ble_eq_true rfl) rfl mzcR_208_7) (g_iload_n rfl (g_dup2 rfl rfl ?_)))
    obtain ⟨h2, hp⟩ := hp
    refine g_lald (mz_at hS (Nat.le_of_ble_eq_true rfl) mzcS_214) h2 (g_aload_n rfl (g_getR (mz_at hS (Nat.le_of_ble_eq_true rfl) mzcS_208) mzcf_1_10 (mz_rb hR (Nat.le_of_ble_eq_true rfl) rfl mzcR_208_10) (g_iload_n rfl ?_)))
    obtain ⟨h3, hp⟩ := hp
    refine g_lald (mz_at hS (Nat.le_of_ble_eq_true rfl) mzcS_217) h3 (g_ladd ?_)
    have h4 := hp
    refine g_last (mz_at hS (Nat.le_of_ble_eq_true rfl) mzcS_214) h4 (g_iinc rfl mzi_1 (Nat.le_of_ble_eq_true rfl) rfl (g_goto (tg := 2) rfl ms_275_2 ?_))
    refine g_weak ?_ (g_cl (hc1 ((s.1 + 1), mz_wL s.2 214 s.1 ((mz_gL s.2 214 s.1) + (mz_gL s.2 217 s.1))) hC))
    exact ⟨rfl, rfl, trivial⟩
  · have hp := hp.2 h1
    exact g_vret rfl (hr _ (hx1 _ hC))
theorem cg_275_2 (hd : 0 ≤ d) (hS : mz_extR S 232) (hR : mz_rok R 232)  (v1 : Int32) (N : mz_N) {C0 : (mz_N) → Prop} (hr : ∀ (N2 : mz_N), C0 N2 → Q (.inl none) (mz_k S R N2 b t)) (hp : cp_275_2 v1 N) (hC : C0 (cf_275_2 v1 N)) : mz_G (d, mz_X0 L xs, none, [], mk_275, 2, Q) 2 mt_275_2 [(0, .ref 208), (1, .int v1)] [] false (mz_k S R N b t) := by
  obtain ⟨n, hn⟩ := hp
  exact g_loop (G := fun s => mz_G (d, mz_X0 L xs, none, [], mk_275, 2, Q) 2 mt_275_2 [(0, .ref 208), (1, .int s.1)] [] false (mz_k S R s.2 b t)) (C := C0) (fun C2 hc hx s hP hC => cb_275_2 hd hS hR  s hr hc hx hP hC) n (v1, N) hn hC
theorem cg_275_0 (hd : 0 ≤ d) (hS : mz_extR S 232) (hR : mz_rok R 232)  (N : mz_N) {C0 : (mz_N) → Prop} (hr : ∀ (N2 : mz_N), C0 N2 → Q (.inl none) (mz_k S R N2 b t)) (hp : cp_275_0 N) (hC : C0 (cf_275_0 N)) : mz_G (d, mz_X0 L xs, none, [], mk_275, 2, Q) 0 mk_275 [(0, .ref 208)] [] true (mz_k S R N b t) := by
  unfold cf_275_0 at hC
  unfold cp_275_0 at hp
  refine g_iconst mzi_0 (g_istore_n (Nat.le_of_ble_eq_true rfl) rfl ?_)
  refine g_weak ?_ (g_cl (cg_275_2 hd hS hR 0 N hr hp hC))
  exact ⟨rfl, rfl, trivial⟩
theorem cs_275 (hd : 1 ≤ d) (hS : mz_extR S 232) (hR : mz_rok R 232)  (N : mz_N) (hp : cp_275_0 N) (hq : Q (.inl none) (mz_k S R (cf_275_0 N) b t)) : mz_Ed (mz_X0 L xs) d 275 [.ref 208] (mz_k S R N b t) Q :=
  by
  refine g_in mzq_275 (Nat.le_of_ble_eq_true rfl) (Nat.le_of_ble_eq_true rfl) (Nat.le_trans (Nat.le_of_ble_eq_true rfl) hd) ?_
  refine g_weak ?_ (cg_275_0 (d := d - 1) (by omega) hS hR N (C0 := fun z => Q (.inl none) (mz_k S R z b t)) (fun _ h => h) hp hq)
  exact ⟨rfl, trivial⟩
/-! 276 KeptHouse$Books.chargeByAreas (J[I)V -/
theorem ms_276_0 : mz_sf mk_276 0 = mk_276 := mz_sf_zero _
theorem ms_276_3 : mz_sf mk_276 3 = mt_276_3 := mz_sf_add ms_276_0 (t := 3) rfl rfl
theorem ms_276_25 : mz_sf mk_276 25 = mt_276_25 := mz_sf_add ms_276_3 (t := 22) rfl rfl
theorem ms_276_28 : mz_sf mk_276 28 = mt_276_28 := mz_sf_add ms_276_25 (t := 3) rfl rfl
theorem ms_276_53 : mz_sf mk_276 53 = mt_276_53 := mz_sf_add ms_276_28 (t := 25) rfl rfl
theorem ms_276_56 : mz_sf mk_276 56 = mt_276_56 := mz_sf_add ms_276_53 (t := 3) rfl rfl
theorem ms_276_66 : mz_sf mk_276 66 = mt_276_66 := mz_sf_add ms_276_56 (t := 10) rfl rfl
set_option maxRecDepth 100000 in
theorem mzq_276 : mz_PG0 276 = some (1, ⟨"KeptHouse$Books", "chargeByAreas", "(J[I)V"⟩, prog_3_method_11_code, 5, none, [], mk_276, []) := rfl
theorem cg_276_66 (hd : 2 ≤ d) (hS : mz_extR S 232) (hR : mz_rok R 232)  (N : mz_N) {C0 : (mz_N) → Prop} (hr : ∀ (N2 : mz_N), C0 N2 → Q (.inl none) (mz_k S R N2 b t)) (hp : cp_276_66 N) (hC : C0 (cf_276_66 N)) : mz_G (d, mz_X0 L xs, none, [], mk_276, 5, Q) 66 mt_276_66 [] [] false (mz_k S R N b t) := by
  unfold cf_276_66 at hC
  unfold cp_276_66 at hp
  exact g_vret rfl (hr _ hC)
theorem cb_276_3 (hd : 2 ≤ d) (hS : mz_extR S 232) (hR : mz_rok R 232)  (v1 : Int64) (s : Int32 × mz_N) {C0 : (mz_N) → Prop} (hr : ∀ (N2 : mz_N), C0 N2 → Q (.inl none) (mz_k S R N2 b t)) {C1 : ((Int32 × mz_N) ⊕ (mz_N)) → Prop} (hc1 : ∀ s2, C1 (.inl s2) → mz_G (d, mz_X0 L xs, none, [], mk_276, 5, Q) 3 mt_276_3 [(0, .ref 208), (1, .long v1), (3, .ref 39), (4, .int s2.1)] [] false (mz_k S R s2.2 b t)) (hx1 : ∀ z, C1 (.inr z) → C0 z) (hp : cd_276_3 v1 s) (hC : C1 (cq_276_3 v1 s)) : mz_G (d, mz_X0 L xs, none, [], mk_276, 5, Q) 3 mt_276_3 [(0, .ref 208), (1, .long v1), (3, .ref 39), (4, .int s.1)] [] false (mz_k S R s.2 b t) := by
  unfold cq_276_3 at hC
  unfold cd_276_3 at hp
  refine g_iload rfl (g_bipush mzb_10 ?_)
  refine g_icge (tg := 28) rfl ms_276_28 hC (fun h1 hC => ?_) (fun h1 hC => ?_)
  · have hp := hp.1 h1
    refine g_aload_n rfl (g_getR (mz_at hS (Nat.le_of_ble_eq_true rfl) mzcS_208) mzcf_1_9 (mz_rb hR (Nat.le_of_ble_eq_true rfl) rfl mzcR_208_9) (g_iload rfl (g_aload_n rfl (g_iload rfl ?_))))
    obtain ⟨h2, hp⟩ := hp
    refine g_iald hS.1 (mz_at hS (Nat.le_of_ble_eq_true rfl) mzcS_39) h2 (g_i2l ?_)
    have h3 := hp
    refine g_last (mz_at hS (Nat.le_of_ble_eq_true rfl) mzcS_216) h3 (g_iinc rfl mzi_1 (Nat.le_of_ble_eq_true rfl) rfl (g_goto (tg := 3) rfl ms_276_3 ?_))
    refine g_weak ?_ (g_cl (hc1 ((s.1 + 1), mz_wL s.2 216 s.1 ((mz_gI s.2 39 s.1).toInt64)) hC))
    exact ⟨rfl, rfl, rfl, rfl, trivial⟩
  · have hp := hp.2 h1
    refine g_lload_n rfl (g_aload_n rfl (g_getR (mz_at hS (Nat.le_of_ble_eq_true rfl) mzcS_208) mzcf_1_9 (mz_rb hR (Nat.le_of_ble_eq_true rfl) rfl mzcR_208_9) (g_bipush mzb_10 (g_aload_n rfl (g_getR (mz_at hS (Nat.le_of_ble_eq_true rfl) mzcS_208) mzcf_1_10 (mz_rb hR (Nat.le_of_ble_eq_true rfl) rfl mzcR_208_10) (g_aload_n rfl (g_getR (mz_at hS (Nat.le_of_ble_eq_true rfl) mzcS_208) mzcf_1_11 (mz_rb hR (Nat.le_of_ble_eq_true rfl) rfl mzcR_208_11) ?_)))))))
    obtain ⟨h4, hp⟩ := hp
    refine g_s5v (Nat.le_of_ble_eq_true rfl) (fun _ hq => cs_240 (Nat.le_trans (Nat.le_of_ble_eq_true rfl) hd) (hS.le (Nat.le_of_ble_eq_true rfl)) (hR.le (Nat.le_of_ble_eq_true rfl)) 216 10 217 10 218 10 (mz_at hS (Nat.le_of_ble_eq_true rfl) mzcS_216) (mz_at hS (Nat.le_of_ble_eq_true rfl) mzcS_217) (mz_at hS (Nat.le_of_ble_eq_true rfl) mzcS_218) v1 10 s.2 h4 hq) ?_
    refine g_zeq (tg := 56) rfl ms_276_56 hC (fun h5 hC => ?_) (fun h5 hC => ?_)
    · have hp := hp.1 h5
      refine g_aload_n rfl ?_
      have h6 := hp
      refine g_v1n (Nat.le_of_ble_eq_true rfl) (mz_at hS (Nat.le_of_ble_eq_true rfl) mzcS_208) (fun _ hq => cs_275 (Nat.le_trans (Nat.le_of_ble_eq_true rfl) hd) (hS.le (Nat.le_of_ble_eq_true rfl)) (hR.le (Nat.le_of_ble_eq_true rfl))  ((cf_240_0 216 10 217 10 218 10 v1 10 s.2).2) h6 hq) (g_goto (tg := 66) rfl ms_276_66 ?_)
      exact g_vret rfl (hr _ (hx1 _ hC))
    · have hp := hp.2 h5
      refine g_aload_n rfl (g_dup rfl (g_getL (mz_at hS (Nat.le_of_ble_eq_true rfl) mzcS_208) mzcf_1_2 (g_lload_n rfl (g_ladd (g_putL (mz_at hS (Nat.le_of_ble_eq_true rfl) mzcS_208) mzcf_1_2 ?_)))))
      refine g_weak ?_ (g_cl (cg_276_66 hd hS hR (mz_pL ((cf_240_0 216 10 217 10 218 10 v1 10 s.2).2) 208 2 ((((cf_240_0 216 10 217 10 218 10 v1 10 s.2).2).2 208 2) + v1)) hr hp (hx1 _ hC)))
      exact trivial
theorem cg_276_3 (hd : 2 ≤ d) (hS : mz_extR S 232) (hR : mz_rok R 232)  (v1 : Int64) (v4 : Int32) (N : mz_N) {C0 : (mz_N) → Prop} (hr : ∀ (N2 : mz_N), C0 N2 → Q (.inl none) (mz_k S R N2 b t)) (hp : cp_276_3 v1 v4 N) (hC : C0 (cf_276_3 v1 v4 N)) : mz_G (d, mz_X0 L xs, none, [], mk_276, 5, Q) 3 mt_276_3 [(0, .ref 208), (1, .long v1), (3, .ref 39), (4, .int v4)] [] false (mz_k S R N b t) := by
  obtain ⟨n, hn⟩ := hp
  exact g_loop (G := fun s => mz_G (d, mz_X0 L xs, none, [], mk_276, 5, Q) 3 mt_276_3 [(0, .ref 208), (1, .long v1), (3, .ref 39), (4, .int s.1)] [] false (mz_k S R s.2 b t)) (C := C0) (fun C2 hc hx s hP hC => cb_276_3 hd hS hR v1 s hr hc hx hP hC) n (v4, N) hn hC
theorem cg_276_0 (hd : 2 ≤ d) (hS : mz_extR S 232) (hR : mz_rok R 232)  (v1 : Int64) (N : mz_N) {C0 : (mz_N) → Prop} (hr : ∀ (N2 : mz_N), C0 N2 → Q (.inl none) (mz_k S R N2 b t)) (hp : cp_276_0 v1 N) (hC : C0 (cf_276_0 v1 N)) : mz_G (d, mz_X0 L xs, none, [], mk_276, 5, Q) 0 mk_276 [(0, .ref 208), (1, .long v1), (3, .ref 39)] [] true (mz_k S R N b t) := by
  unfold cf_276_0 at hC
  unfold cp_276_0 at hp
  refine g_iconst mzi_0 (g_istore (Nat.le_of_ble_eq_true rfl) rfl ?_)
  refine g_weak ?_ (g_cl (cg_276_3 hd hS hR v1 0 N hr hp hC))
  exact ⟨rfl, rfl, rfl, rfl, trivial⟩
theorem cs_276 (hd : 3 ≤ d) (hS : mz_extR S 232) (hR : mz_rok R 232)  (v1 : Int64) (N : mz_N) (hp : cp_276_0 v1 N) (hq : Q (.inl none) (mz_k S R (cf_276_0 v1 N) b t)) : mz_Ed (mz_X0 L xs) d 276 [.ref 208, .long v1, .ref 39] (mz_k S R N b t) Q :=
  by
  refine g_in mzq_276 (Nat.le_of_ble_eq_true rfl) (Nat.le_of_ble_eq_true rfl) (Nat.le_trans (Nat.le_of_ble_eq_true rfl) hd) ?_
  refine g_weak ?_ (cg_276_0 (d := d - 1) (by omega) hS hR v1 N (C0 := fun z => Q (.inl none) (mz_k S R z b t)) (fun _ h => h) hp hq)
  exact ⟨rfl, rfl, rfl, trivial⟩
/-! 274 KeptHouse$Books.chargeByMeters (JI[I)V -/
theorem ms_274_0 : mz_sf mk_274 0 = mk_274 := mz_sf_zero _
theorem ms_274_3 : mz_sf mk_274 3 = mt_274_3 := mz_sf_add ms_274_0 (t := 3) rfl rfl
theorem ms_274_27 : mz_sf mk_274 27 = mt_274_27 := mz_sf_add ms_274_3 (t := 24) rfl rfl
theorem ms_274_33 : mz_sf mk_274 33 = mt_274_33 := mz_sf_add ms_274_27 (t := 6) rfl rfl
theorem ms_274_58 : mz_sf mk_274 58 = mt_274_58 := mz_sf_add ms_274_33 (t := 25) rfl rfl
theorem ms_274_61 : mz_sf mk_274 61 = mt_274_61 := mz_sf_add ms_274_58 (t := 3) rfl rfl
theorem ms_274_68 : mz_sf mk_274 68 = mt_274_68 := mz_sf_add ms_274_61 (t := 7) rfl rfl
set_option maxRecDepth 100000 in
theorem mzq_274 : mz_PG0 274 = some (1, ⟨"KeptHouse$Books", "chargeByMeters", "(JI[I)V"⟩, prog_3_method_10_code, 6, none, [], mk_274, []) := rfl
theorem cb_274_3 (hd : 3 ≤ d) (hS : mz_extR S 232) (hR : mz_rok R 232)  (v1 : Int64) (v3 : Int32) (s : Int32 × mz_N) {C0 : (mz_N) → Prop} (hr : ∀ (N2 : mz_N), C0 N2 → Q (.inl none) (mz_k S R N2 b t)) {C1 : ((Int32 × mz_N) ⊕ (mz_N)) → Prop} (hc1 : ∀ s2, C1 (.inl s2) → mz_G (d, mz_X0 L xs, none, [], mk_274, 6, Q) 3 mt_274_3 [(0, .ref 208), (1, .long v1), (3, .int v3), (4, .ref 39), (5, .int s2.1)] [] false (mz_k S R s2.2 b t)) (hx1 : ∀ z, C1 (.inr z) → C0 z) (hp : cd_274_3 v1 v3 s) (hC : C1 (cq_274_3 v1 v3 s)) : mz_G (d, mz_X0 L xs, none, [], mk_274, 6, Q) 3 mt_274_3 [(0, .ref 208), (1, .long v1), (3, .int v3), (4, .ref 39), (5, .int s.1)] [] false (mz_k S R s.2 b t) := by
  unfold cq_274_3 at hC
  unfold cd_274_3 at hp
  refine g_iload rfl (g_bipush mzb_10 ?_)
  refine g_icge (tg := 33) rfl ms_274_33 hC (fun h1 hC => ?_) (fun h1 hC => ?_)
  · have hp := hp.1 h1
    refine g_aload_n rfl (g_getR (mz_at hS (Nat.le_of_ble_eq_true rfl) mzcS_208) mzcf_1_9 (mz_rb hR (Nat.le_of_ble_eq_true rfl) rfl mzcR_208_9) (g_iload rfl (g_aload_n rfl (g_getR (mz_at hS (Nat.le_of_ble_eq_true rfl) mzcS_208) mzcf_1_5 (mz_rb hR (Nat.le_of_ble_eq_true rfl) rfl mzcR_208_5) (g_iload_n rfl ?_)))))
    obtain ⟨h2, hp⟩ := hp
    refine g_aald4 (mz_at hS (Nat.le_of_ble_eq_true rfl) mzcS_209) h2 (mz_rb hR (Nat.le_of_ble_eq_true rfl) rfl (mzcR2_209 h2)) (g_iload rfl ?_)
    obtain ⟨h3, hp⟩ := hp
    refine g_iald hS.1 (mz_at hS (mzcL2_209 h2 (Nat.le_of_ble_eq_true rfl)) (mzcS2_209 h2)) h3 (g_i2l ?_)
    have h4 := hp
    refine g_last (mz_at hS (Nat.le_of_ble_eq_true rfl) mzcS_216) h4 (g_iinc rfl mzi_1 (Nat.le_of_ble_eq_true rfl) rfl (g_goto (tg := 3) rfl ms_274_3 ?_))
    refine g_weak ?_ (g_cl (hc1 ((s.1 + 1), mz_wL s.2 216 s.1 ((mz_gI s.2 (210 + v3.toNatClampNeg) s.1).toInt64)) hC))
    exact ⟨rfl, rfl, rfl, rfl, rfl, trivial⟩
  · have hp := hp.2 h1
    refine g_lload_n rfl (g_aload_n rfl (g_getR (mz_at hS (Nat.le_of_ble_eq_true rfl) mzcS_208) mzcf_1_9 (mz_rb hR (Nat.le_of_ble_eq_true rfl) rfl mzcR_208_9) (g_bipush mzb_10 (g_aload_n rfl (g_getR (mz_at hS (Nat.le_of_ble_eq_true rfl) mzcS_208) mzcf_1_10 (mz_rb hR (Nat.le_of_ble_eq_true rfl) rfl mzcR_208_10) (g_aload_n rfl (g_getR (mz_at hS (Nat.le_of_ble_eq_true rfl) mzcS_208) mzcf_1_11 (mz_rb hR (Nat.le_of_ble_eq_true rfl) rfl mzcR_208_11) ?_)))))))
    obtain ⟨h5, hp⟩ := hp
    refine g_s5v (Nat.le_of_ble_eq_true rfl) (fun _ hq => cs_240 (Nat.le_trans (Nat.le_of_ble_eq_true rfl) hd) (hS.le (Nat.le_of_ble_eq_true rfl)) (hR.le (Nat.le_of_ble_eq_true rfl)) 216 10 217 10 218 10 (mz_at hS (Nat.le_of_ble_eq_true rfl) mzcS_216) (mz_at hS (Nat.le_of_ble_eq_true rfl) mzcS_217) (mz_at hS (Nat.le_of_ble_eq_true rfl) mzcS_218) v1 10 s.2 h5 hq) ?_
    refine g_zeq (tg := 61) rfl ms_274_61 hC (fun h6 hC => ?_) (fun h6 hC => ?_)
    · have hp := hp.1 h6
      refine g_aload_n rfl ?_
      have h7 := hp
      refine g_v1n (Nat.le_of_ble_eq_true rfl) (mz_at hS (Nat.le_of_ble_eq_true rfl) mzcS_208) (fun _ hq => cs_275 (Nat.le_trans (Nat.le_of_ble_eq_true rfl) hd) (hS.le (Nat.le_of_ble_eq_true rfl)) (hR.le (Nat.le_of_ble_eq_true rfl))  ((cf_240_0 216 10 217 10 218 10 v1 10 s.2).2) h7 hq) (g_goto (tg := 68) rfl ms_274_68 ?_)
      exact g_vret rfl (hr _ (hx1 _ hC))
    · have hp := hp.2 h6
      refine g_aload_n rfl (g_lload_n rfl (g_aload rfl ?_))
      have h8 := hp
      refine g_v3n (Nat.le_of_ble_eq_true rfl) (mz_at hS (Nat.le_of_ble_eq_true rfl) mzcS_208) (fun _ hq => cs_276 (Nat.le_trans (Nat.le_of_ble_eq_true rfl) hd) (hS.le (Nat.le_of_ble_eq_true rfl)) (hR.le (Nat.le_of_ble_eq_true rfl))  v1 ((cf_240_0 216 10 217 10 218 10 v1 10 s.2).2) h8 hq) ?_
      exact g_vret rfl (hr _ (hx1 _ hC))
theorem cg_274_3 (hd : 3 ≤ d) (hS : mz_extR S 232) (hR : mz_rok R 232)  (v1 : Int64) (v3 : Int32) (v5 : Int32) (N : mz_N) {C0 : (mz_N) → Prop} (hr : ∀ (N2 : mz_N), C0 N2 → Q (.inl none) (mz_k S R N2 b t)) (hp : cp_274_3 v1 v3 v5 N) (hC : C0 (cf_274_3 v1 v3 v5 N)) : mz_G (d, mz_X0 L xs, none, [], mk_274, 6, Q) 3 mt_274_3 [(0, .ref 208), (1, .long v1), (3, .int v3), (4, .ref 39), (5, .int v5)] [] false (mz_k S R N b t) := by
  obtain ⟨n, hn⟩ := hp
  exact g_loop (G := fun s => mz_G (d, mz_X0 L xs, none, [], mk_274, 6, Q) 3 mt_274_3 [(0, .ref 208), (1, .long v1), (3, .int v3), (4, .ref 39), (5, .int s.1)] [] false (mz_k S R s.2 b t)) (C := C0) (fun C2 hc hx s hP hC => cb_274_3 hd hS hR v1 v3 s hr hc hx hP hC) n (v5, N) hn hC
theorem cg_274_0 (hd : 3 ≤ d) (hS : mz_extR S 232) (hR : mz_rok R 232)  (v1 : Int64) (v3 : Int32) (N : mz_N) {C0 : (mz_N) → Prop} (hr : ∀ (N2 : mz_N), C0 N2 → Q (.inl none) (mz_k S R N2 b t)) (hp : cp_274_0 v1 v3 N) (hC : C0 (cf_274_0 v1 v3 N)) : mz_G (d, mz_X0 L xs, none, [], mk_274, 6, Q) 0 mk_274 [(0, .ref 208), (1, .long v1), (3, .int v3), (4, .ref 39)] [] true (mz_k S R N b t) := by
  unfold cf_274_0 at hC
  unfold cp_274_0 at hp
  refine g_iconst mzi_0 (g_istore (Nat.le_of_ble_eq_true rfl) rfl ?_)
  refine g_weak ?_ (g_cl (cg_274_3 hd hS hR v1 v3 0 N hr hp hC))
  exact ⟨rfl, rfl, rfl, rfl, rfl, trivial⟩
theorem cs_274 (hd : 4 ≤ d) (hS : mz_extR S 232) (hR : mz_rok R 232)  (v1 : Int64) (v3 : Int32) (N : mz_N) (hp : cp_274_0 v1 v3 N) (hq : Q (.inl none) (mz_k S R (cf_274_0 v1 v3 N) b t)) : mz_Ed (mz_X0 L xs) d 274 [.ref 208, .long v1, .int v3, .ref 39] (mz_k S R N b t) Q :=
  by
  refine g_in mzq_274 (Nat.le_of_ble_eq_true rfl) (Nat.le_of_ble_eq_true rfl) (Nat.le_trans (Nat.le_of_ble_eq_true rfl) hd) ?_
  refine g_weak ?_ (cg_274_0 (d := d - 1) (by omega) hS hR v1 v3 N (C0 := fun z => Q (.inl none) (mz_k S R z b t)) (fun _ h => h) hp hq)
  exact ⟨rfl, rfl, rfl, rfl, trivial⟩
/-! 272 KeptHouse$Books.billAll ([I)V -/
theorem ms_272_0 : mz_sf mk_272 0 = mk_272 := mz_sf_zero _
theorem ms_272_26 : mz_sf mk_272 26 = mt_272_26 := mz_sf_add ms_272_0 (t := 26) rfl rfl
theorem ms_272_45 : mz_sf mk_272 45 = mt_272_45 := mz_sf_add ms_272_26 (t := 19) rfl rfl
theorem ms_272_64 : mz_sf mk_272 64 = mt_272_64 := mz_sf_add ms_272_45 (t := 19) rfl rfl
theorem ms_272_92 : mz_sf mk_272 92 = mt_272_92 := mz_sf_add ms_272_64 (t := 28) rfl rfl
theorem ms_272_118 : mz_sf mk_272 118 = mt_272_118 := mz_sf_add ms_272_92 (t := 26) rfl rfl
theorem ms_272_140 : mz_sf mk_272 140 = mt_272_140 := mz_sf_add ms_272_118 (t := 22) rfl rfl
theorem ms_272_143 : mz_sf mk_272 143 = mt_272_143 := mz_sf_add ms_272_140 (t := 3) rfl rfl
theorem ms_272_167 : mz_sf mk_272 167 = mt_272_167 := mz_sf_add ms_272_143 (t := 24) rfl rfl
theorem ms_272_173 : mz_sf mk_272 173 = mt_272_173 := mz_sf_add ms_272_167 (t := 6) rfl rfl
set_option maxRecDepth 100000 in
theorem mzq_272 : mz_PG0 272 = some (1, ⟨"KeptHouse$Books", "billAll", "([I)V"⟩, prog_3_method_8_code, 11, none, [], mk_272, []) := rfl
theorem cb_272_143 (hd : 4 ≤ d) (hS : mz_extR S 232) (hR : mz_rok R 232)   (s : Int32 × mz_N) {C0 : (mz_N) → Prop} (hr : ∀ (N2 : mz_N), C0 N2 → Q (.inl none) (mz_k S R N2 b t)) {C1 : ((Int32 × mz_N) ⊕ (mz_N)) → Prop} (hc1 : ∀ s2, C1 (.inl s2) → mz_G (d, mz_X0 L xs, none, [], mk_272, 11, Q) 143 mt_272_143 [(0, .ref 208), (10, .int s2.1)] [] false (mz_k S R s2.2 b t)) (hx1 : ∀ z, C1 (.inr z) → C0 z) (hp : cd_272_143  s) (hC : C1 (cq_272_143  s)) : mz_G (d, mz_X0 L xs, none, [], mk_272, 11, Q) 143 mt_272_143 [(0, .ref 208), (10, .int s.1)] [] false (mz_k S R s.2 b t) := by
  unfold cq_272_143 at hC
  unfold cd_272_143 at hp
  refine g_iload rfl (g_bipush mzb_10 ?_)
  refine g_icge (tg := 173) rfl ms_272_173 hC (fun h1 hC => ?_) (fun h1 hC => ?_)
  · have hp := hp.1 h1
    refine g_aload_n rfl (g_getR (mz_at hS (Nat.le_of_ble_eq_true rfl) mzcS_208) mzcf_1_6 (mz_rb hR (Nat.le_of_ble_eq_true rfl) rfl mzcR_208_6) (g_iload rfl (g_dup2 rfl rfl ?_)))
    obtain ⟨h2, hp⟩ := hp
    refine g_lald (mz_at hS (Nat.le_of_ble_eq_true rfl) mzcS_213) h2 (g_aload_n rfl (g_getR (mz_at hS (Nat.le_of_ble_eq_true rfl) mzcS_208) mzcf_1_7 (mz_rb hR (Nat.le_of_ble_eq_true rfl) rfl mzcR_208_7) (g_iload rfl ?_)))
    obtain ⟨h3, hp⟩ := hp
    refine g_lald (mz_at hS (Nat.le_of_ble_eq_true rfl) mzcS_214) h3 (g_lsub ?_)
    have h4 := hp
    refine g_last (mz_at hS (Nat.le_of_ble_eq_true rfl) mzcS_213) h4 (g_iinc rfl mzi_1 (Nat.le_of_ble_eq_true rfl) rfl (g_goto (tg := 143) rfl ms_272_143 ?_))
    refine g_weak ?_ (g_cl (hc1 ((s.1 + 1), mz_wL s.2 213 s.1 ((mz_gL s.2 213 s.1) - (mz_gL s.2 214 s.1))) hC))
    exact ⟨rfl, rfl, trivial⟩
  · have hp := hp.2 h1
    refine g_aload_n rfl ?_
    have h5 := hp
    refine g_v1n (Nat.le_of_ble_eq_true rfl) (mz_at hS (Nat.le_of_ble_eq_true rfl) mzcS_208) (fun _ hq => cs_54 (Nat.le_trans (Nat.le_of_ble_eq_true rfl) hd) (hS.le (Nat.le_of_ble_eq_true rfl)) (hR.le (Nat.le_of_ble_eq_true rfl))  s.2 h5 hq) ?_
    exact g_vret rfl (hr _ (hx1 _ hC))
theorem cg_272_143 (hd : 4 ≤ d) (hS : mz_extR S 232) (hR : mz_rok R 232)  (v10 : Int32) (N : mz_N) {C0 : (mz_N) → Prop} (hr : ∀ (N2 : mz_N), C0 N2 → Q (.inl none) (mz_k S R N2 b t)) (hp : cp_272_143 v10 N) (hC : C0 (cf_272_143 v10 N)) : mz_G (d, mz_X0 L xs, none, [], mk_272, 11, Q) 143 mt_272_143 [(0, .ref 208), (10, .int v10)] [] false (mz_k S R N b t) := by
  obtain ⟨n, hn⟩ := hp
  exact g_loop (G := fun s => mz_G (d, mz_X0 L xs, none, [], mk_272, 11, Q) 143 mt_272_143 [(0, .ref 208), (10, .int s.1)] [] false (mz_k S R s.2 b t)) (C := C0) (fun C2 hc hx s hP hC => cb_272_143 hd hS hR  s hr hc hx hP hC) n (v10, N) hn hC
theorem cg_272_140 (hd : 4 ≤ d) (hS : mz_extR S 232) (hR : mz_rok R 232)  (N : mz_N) {C0 : (mz_N) → Prop} (hr : ∀ (N2 : mz_N), C0 N2 → Q (.inl none) (mz_k S R N2 b t)) (hp : cp_272_140 N) (hC : C0 (cf_272_140 N)) : mz_G (d, mz_X0 L xs, none, [], mk_272, 11, Q) 140 mt_272_140 [(0, .ref 208)] [] false (mz_k S R N b t) := by
  unfold cf_272_140 at hC
  unfold cp_272_140 at hp
  refine g_iconst mzi_0 (g_istore (Nat.le_of_ble_eq_true rfl) rfl ?_)
  refine g_weak ?_ (g_cl (cg_272_143 hd hS hR 0 N hr hp hC))
  exact ⟨rfl, rfl, trivial⟩
theorem cg_272_118 (hd : 4 ≤ d) (hS : mz_extR S 232) (hR : mz_rok R 232)  (v2 : Int64) (v4 : Int64) (v6 : Int64) (N : mz_N) {C0 : (mz_N) → Prop} (hr : ∀ (N2 : mz_N), C0 N2 → Q (.inl none) (mz_k S R N2 b t)) (hp : cp_272_118 v2 v4 v6 N) (hC : C0 (cf_272_118 v2 v4 v6 N)) : mz_G (d, mz_X0 L xs, none, [], mk_272, 11, Q) 118 mt_272_118 [(0, .ref 208), (2, .long v2), (4, .long v4), (6, .long v6)] [] false (mz_k S R N b t) := by
  unfold cf_272_118 at hC
  unfold cp_272_118 at hp
  refine g_aload_n rfl (g_dup rfl (g_getL (mz_at hS (Nat.le_of_ble_eq_true rfl) mzcS_208) mzcf_1_1 (g_lload_n rfl (g_lload rfl (g_ladd (g_lload rfl (g_ladd ?_)))))))
  refine g_aload_n rfl (g_getI (mz_at hS (Nat.le_of_ble_eq_true rfl) mzcS_208) mzcf_1_4 (g_i2l (g_ladd (g_lsub (g_putL (mz_at hS (Nat.le_of_ble_eq_true rfl) mzcS_208) mzcf_1_1 ?_)))))
  refine g_weak ?_ (g_cl (cg_272_140 hd hS hR (mz_pL N 208 1 ((N.2 208 1) - (((v2 + v4) + v6) + ((N.1 208 4).toInt64)))) hr hp hC))
  exact ⟨rfl, trivial⟩
theorem cg_272_92 (hd : 4 ≤ d) (hS : mz_extR S 232) (hR : mz_rok R 232)  (v2 : Int64) (v4 : Int64) (v6 : Int64) (N : mz_N) {C0 : (mz_N) → Prop} (hr : ∀ (N2 : mz_N), C0 N2 → Q (.inl none) (mz_k S R N2 b t)) (hp : cp_272_92 v2 v4 v6 N) (hC : C0 (cf_272_92 v2 v4 v6 N)) : mz_G (d, mz_X0 L xs, none, [], mk_272, 11, Q) 92 mt_272_92 [(0, .ref 208), (1, .ref 39), (2, .long v2), (4, .long v4), (6, .long v6)] [] false (mz_k S R N b t) := by
  unfold cf_272_92 at hC
  unfold cp_272_92 at hp
  refine g_aload_n rfl (g_lload rfl (g_iconst mzi_1 (g_aload_n rfl ?_)))
  obtain ⟨h1, hp⟩ := hp
  refine g_v4n (Nat.le_of_ble_eq_true rfl) (mz_at hS (Nat.le_of_ble_eq_true rfl) mzcS_208) (fun _ hq => cs_274 (Nat.le_trans (Nat.le_of_ble_eq_true rfl) hd) (hS.le (Nat.le_of_ble_eq_true rfl)) (hR.le (Nat.le_of_ble_eq_true rfl))  v4 1 N h1 hq) (g_aload_n rfl (g_lload rfl (g_iconst mzi_2 (g_aload_n rfl ?_))))
  obtain ⟨h2, hp⟩ := hp
  refine g_v4n (Nat.le_of_ble_eq_true rfl) (mz_at hS (Nat.le_of_ble_eq_true rfl) mzcS_208) (fun _ hq => cs_274 (Nat.le_trans (Nat.le_of_ble_eq_true rfl) hd) (hS.le (Nat.le_of_ble_eq_true rfl)) (hR.le (Nat.le_of_ble_eq_true rfl))  v6 2 (cf_274_0 v4 1 N) h2 hq) (g_aload_n rfl (g_aload_n rfl (g_getI (mz_at hS (Nat.le_of_ble_eq_true rfl) mzcS_208) mzcf_1_4 (g_i2l (g_aload_n rfl ?_)))))
  obtain ⟨h3, hp⟩ := hp
  refine g_v3n (Nat.le_of_ble_eq_true rfl) (mz_at hS (Nat.le_of_ble_eq_true rfl) mzcS_208) (fun _ hq => cs_276 (Nat.le_trans (Nat.le_of_ble_eq_true rfl) hd) (hS.le (Nat.le_of_ble_eq_true rfl)) (hR.le (Nat.le_of_ble_eq_true rfl))  (((cf_274_0 v6 2 (cf_274_0 v4 1 N)).1 208 4).toInt64) (cf_274_0 v6 2 (cf_274_0 v4 1 N)) h3 hq) ?_
  refine g_weak ?_ (g_cl (cg_272_118 hd hS hR v2 v4 v6 (cf_276_0 (((cf_274_0 v6 2 (cf_274_0 v4 1 N)).1 208 4).toInt64) (cf_274_0 v6 2 (cf_274_0 v4 1 N))) hr hp hC))
  exact ⟨rfl, rfl, rfl, rfl, trivial⟩
theorem cg_272_0 (hd : 4 ≤ d) (hS : mz_extR S 232) (hR : mz_rok R 232)  (N : mz_N) {C0 : (mz_N) → Prop} (hr : ∀ (N2 : mz_N), C0 N2 → Q (.inl none) (mz_k S R N2 b t)) (hp : cp_272_0 N) (hC : C0 (cf_272_0 N)) : mz_G (d, mz_X0 L xs, none, [], mk_272, 11, Q) 0 mk_272 [(0, .ref 208), (1, .ref 39)] [] true (mz_k S R N b t) := by
  unfold cf_272_0 at hC
  unfold cp_272_0 at hp
  refine g_aload_n rfl (g_getR (mz_at hS (Nat.le_of_ble_eq_true rfl) mzcS_208) mzcf_1_7 (mz_rb hR (Nat.le_of_ble_eq_true rfl) rfl mzcR_208_7) (g_lconst mzl_0 ?_))
  obtain ⟨h1, hp⟩ := hp
  refine g_s2n (Nat.le_of_ble_eq_true rfl) (fun _ hq => cs_49 (Nat.le_trans (Nat.le_of_ble_eq_true rfl) hd) (hS.le (Nat.le_of_ble_eq_true rfl)) (hR.le (Nat.le_of_ble_eq_true rfl)) 214 10 (mz_at hS (Nat.le_of_ble_eq_true rfl) mzcS_214) 0 N h1 hq) (g_aload_n rfl (g_getI (mz_at hS (Nat.le_of_ble_eq_true rfl) mzcS_208) mzcf_1_3 (g_i2l (g_aload_n rfl (g_getR (mz_at hS (Nat.le_of_ble_eq_true rfl) mzcS_208) mzcf_1_8 (mz_rb hR (Nat.le_of_ble_eq_true rfl) rfl mzcR_208_8) (g_iconst mzi_1 (g_iald hS.1 (mz_at hS (Nat.le_of_ble_eq_true rfl) mzcS_215) (mz_ibd (by decide)) ?_)))))))
  refine g_i2l (g_lmul (g_con3 (g_ldiv (by decide) (g_lstore_n (Nat.le_of_ble_eq_true rfl) rfl rfl (g_aload_n rfl (g_iconst mzi_1 ?_))))))
  obtain ⟨h2, hp⟩ := hp
  refine g_v2v (Nat.le_of_ble_eq_true rfl) (mz_at hS (Nat.le_of_ble_eq_true rfl) mzcS_208) (fun _ hq => cs_273 (Nat.le_trans (Nat.le_of_ble_eq_true rfl) hd) (hS.le (Nat.le_of_ble_eq_true rfl)) (hR.le (Nat.le_of_ble_eq_true rfl))  1 (cf_49_0 214 10 0 N) h2 hq) (g_aload_n rfl (g_getR (mz_at hS (Nat.le_of_ble_eq_true rfl) mzcS_208) mzcf_1_8 (mz_rb hR (Nat.le_of_ble_eq_true rfl) rfl mzcR_208_8) (g_iconst mzi_2 (g_iald hS.1 (mz_at hS (Nat.le_of_ble_eq_true rfl) mzcS_215) (mz_ibd (by decide)) (g_i2l (g_lmul (g_con3 ?_)))))))
  refine g_ldiv (by decide) (g_lstore (Nat.le_of_ble_eq_true rfl) rfl rfl (g_aload_n rfl (g_iconst mzi_2 ?_)))
  obtain ⟨h3, hp⟩ := hp
  refine g_v2v (Nat.le_of_ble_eq_true rfl) (mz_at hS (Nat.le_of_ble_eq_true rfl) mzcS_208) (fun _ hq => cs_273 (Nat.le_trans (Nat.le_of_ble_eq_true rfl) hd) (hS.le (Nat.le_of_ble_eq_true rfl)) (hR.le (Nat.le_of_ble_eq_true rfl))  2 (cf_49_0 214 10 0 N) h3 hq) (g_aload_n rfl (g_getR (mz_at hS (Nat.le_of_ble_eq_true rfl) mzcS_208) mzcf_1_8 (mz_rb hR (Nat.le_of_ble_eq_true rfl) rfl mzcR_208_8) (g_iconst mzi_3 (g_iald hS.1 (mz_at hS (Nat.le_of_ble_eq_true rfl) mzcS_215) (mz_ibd (by decide)) (g_i2l (g_lmul (g_con3 ?_)))))))
  refine g_ldiv (by decide) (g_lstore (Nat.le_of_ble_eq_true rfl) rfl rfl (g_lload_n rfl (g_con3 (g_lmul (g_con3 (g_ldiv (by decide) (g_lstore (Nat.le_of_ble_eq_true rfl) rfl rfl ?_)))))))
  refine g_aload_n rfl (g_lload rfl (g_iconst mzi_0 (g_aload_n rfl ?_)))
  obtain ⟨h4, hp⟩ := hp
  refine g_v4n (Nat.le_of_ble_eq_true rfl) (mz_at hS (Nat.le_of_ble_eq_true rfl) mzcS_208) (fun _ hq => cs_274 (Nat.le_trans (Nat.le_of_ble_eq_true rfl) hd) (hS.le (Nat.le_of_ble_eq_true rfl)) (hR.le (Nat.le_of_ble_eq_true rfl))  (((((((cf_49_0 214 10 0 N).1 208 3).toInt64) * ((mz_gI (cf_49_0 214 10 0 N) 215 1).toInt64)) / 100) * 7) / 10) 0 (cf_49_0 214 10 0 N) h4 hq) (g_aload_n rfl (g_lload_n rfl (g_lload rfl (g_lsub (g_aload_n rfl ?_)))))
  obtain ⟨h5, hp⟩ := hp
  refine g_v3n (Nat.le_of_ble_eq_true rfl) (mz_at hS (Nat.le_of_ble_eq_true rfl) mzcS_208) (fun _ hq => cs_276 (Nat.le_trans (Nat.le_of_ble_eq_true rfl) hd) (hS.le (Nat.le_of_ble_eq_true rfl)) (hR.le (Nat.le_of_ble_eq_true rfl))  ((((((cf_49_0 214 10 0 N).1 208 3).toInt64) * ((mz_gI (cf_49_0 214 10 0 N) 215 1).toInt64)) / 100) - (((((((cf_49_0 214 10 0 N).1 208 3).toInt64) * ((mz_gI (cf_49_0 214 10 0 N) 215 1).toInt64)) / 100) * 7) / 10)) (cf_274_0 (((((((cf_49_0 214 10 0 N).1 208 3).toInt64) * ((mz_gI (cf_49_0 214 10 0 N) 215 1).toInt64)) / 100) * 7) / 10) 0 (cf_49_0 214 10 0 N)) h5 hq) ?_
  refine g_weak ?_ (g_cl (cg_272_92 hd hS hR (((((cf_49_0 214 10 0 N).1 208 3).toInt64) * ((mz_gI (cf_49_0 214 10 0 N) 215 1).toInt64)) / 100) (((cf_273_0 1 (cf_49_0 214 10 0 N)) * ((mz_gI (cf_49_0 214 10 0 N) 215 2).toInt64)) / 100) (((cf_273_0 2 (cf_49_0 214 10 0 N)) * ((mz_gI (cf_49_0 214 10 0 N) 215 3).toInt64)) / 100) (cf_276_0 ((((((cf_49_0 214 10 0 N).1 208 3).toInt64) * ((mz_gI (cf_49_0 214 10 0 N) 215 1).toInt64)) / 100) - (((((((cf_49_0 214 10 0 N).1 208 3).toInt64) * ((mz_gI (cf_49_0 214 10 0 N) 215 1).toInt64)) / 100) * 7) / 10)) (cf_274_0 (((((((cf_49_0 214 10 0 N).1 208 3).toInt64) * ((mz_gI (cf_49_0 214 10 0 N) 215 1).toInt64)) / 100) * 7) / 10) 0 (cf_49_0 214 10 0 N))) hr hp hC))
  exact ⟨rfl, rfl, rfl, rfl, rfl, trivial⟩
theorem cs_272 (hd : 5 ≤ d) (hS : mz_extR S 232) (hR : mz_rok R 232)  (N : mz_N) (hp : cp_272_0 N) (hq : Q (.inl none) (mz_k S R (cf_272_0 N) b t)) : mz_Ed (mz_X0 L xs) d 272 [.ref 208, .ref 39] (mz_k S R N b t) Q :=
  by
  refine g_in mzq_272 (Nat.le_of_ble_eq_true rfl) (Nat.le_of_ble_eq_true rfl) (Nat.le_trans (Nat.le_of_ble_eq_true rfl) hd) ?_
  refine g_weak ?_ (cg_272_0 (d := d - 1) (by omega) hS hR N (C0 := fun z => Q (.inl none) (mz_k S R z b t)) (fun _ h => h) hp hq)
  exact ⟨rfl, rfl, trivial⟩
/-! 277 KeptHouse.keepDay ()Z -/
theorem ms_277_0 : mz_sf mk_277 0 = mk_277 := mz_sf_zero _
theorem ms_277_9 : mz_sf mk_277 9 = mt_277_9 := mz_sf_add ms_277_0 (t := 9) rfl rfl
theorem ms_277_31 : mz_sf mk_277 31 = mt_277_31 := mz_sf_add ms_277_9 (t := 22) rfl rfl
theorem ms_277_53 : mz_sf mk_277 53 = mt_277_53 := mz_sf_add ms_277_31 (t := 22) rfl rfl
theorem ms_277_74 : mz_sf mk_277 74 = mt_277_74 := mz_sf_add ms_277_53 (t := 21) rfl rfl
set_option maxRecDepth 100000 in
theorem mzq_277 : mz_PG0 277 = some (11, ⟨"KeptHouse", "keepDay", "()Z"⟩, prog_1_method_86_code, 2, some .boolean, [], mk_277, []) := rfl
theorem cb_277_53 (hd : 4 ≤ d) (hS : mz_extR S 232) (hR : mz_rok R 232)  (b : Bool) (s : Int32 × mz_N) {C0 : (Bool × mz_N) → Prop} (hr : ∀ (w : Bool) (N2 : mz_N), C0 (w, N2) → Q (.inl (some (.int (mz_b01 w)))) (mz_k S R N2 b t)) {C1 : ((Int32 × mz_N) ⊕ (Bool × mz_N)) → Prop} (hc1 : ∀ s2, C1 (.inl s2) → mz_G (d, mz_X0 L xs, some .boolean, [], mk_277, 2, Q) 53 mt_277_53 [(0, .ref 0), (1, .int s2.1)] [] false (mz_k S R s2.2 b t)) (hx1 : ∀ z, C1 (.inr z) → C0 z) (hp : cd_277_53 b s) (hC : C1 (cq_277_53 b s)) : mz_G (d, mz_X0 L xs, some .boolean, [], mk_277, 2, Q) 53 mt_277_53 [(0, .ref 0), (1, .int s.1)] [] false (mz_k S R s.2 b t) := by
  unfold cq_277_53 at hC
  unfold cd_277_53 at hp
  refine g_iload_n rfl (g_iconst mzi_3 ?_)
  refine g_icge (tg := 74) rfl ms_277_74 hC (fun h1 hC => ?_) (fun h1 hC => ?_)
  · have hp := hp.1 h1
    refine g_aload_n rfl (g_getR (mz_at hS (Nat.le_of_ble_eq_true rfl) mzcS_0) mzcf_11_0 (mz_rb hR (Nat.le_of_ble_eq_true rfl) rfl mzcR_0_0) (g_bipush mzb_11 (g_iload_n rfl ?_)))
    have h2 := hp
    refine g_v3n (Nat.le_of_ble_eq_true rfl) (mz_at hS (Nat.le_of_ble_eq_true rfl) mzcS_1) (fun _ hq => cs_119 (Nat.le_trans (Nat.le_of_ble_eq_true rfl) hd) (hS.le (Nat.le_of_ble_eq_true rfl)) (hR.le (Nat.le_of_ble_eq_true rfl))  11 s.1 s.2 h2 hq) (g_iinc rfl mzi_1 (Nat.le_of_ble_eq_true rfl) rfl (g_goto (tg := 53) rfl ms_277_53 ?_))
    refine g_weak ?_ (g_cl (hc1 ((s.1 + 1), (cf_119_0 11 s.1 s.2)) hC))
    exact ⟨rfl, rfl, trivial⟩
  · have hp := hp.2 h1
    refine g_aload_n rfl (g_getR (mz_at hS (Nat.le_of_ble_eq_true rfl) mzcS_0) mzcf_11_0 (mz_rb hR (Nat.le_of_ble_eq_true rfl) rfl mzcR_0_0) ?_)
    have h3 := hp
    refine g_v1v (Nat.le_of_ble_eq_true rfl) (mz_at hS (Nat.le_of_ble_eq_true rfl) mzcS_1) (fun _ hq => cs_121 (Nat.le_trans (Nat.le_of_ble_eq_true rfl) hd) (hS.le (Nat.le_of_ble_eq_true rfl)) (hR.le (Nat.le_of_ble_eq_true rfl))  s.2 b h3 hq) ?_
    exact g_zret (z := ((cf_121_0 s.2 b).1)) rfl (hr _ _ (hx1 _ hC))
theorem cg_277_53 (hd : 4 ≤ d) (hS : mz_extR S 232) (hR : mz_rok R 232)  (v1 : Int32) (N : mz_N) (b : Bool) {C0 : (Bool × mz_N) → Prop} (hr : ∀ (w : Bool) (N2 : mz_N), C0 (w, N2) → Q (.inl (some (.int (mz_b01 w)))) (mz_k S R N2 b t)) (hp : cp_277_53 v1 N b) (hC : C0 (cf_277_53 v1 N b)) : mz_G (d, mz_X0 L xs, some .boolean, [], mk_277, 2, Q) 53 mt_277_53 [(0, .ref 0), (1, .int v1)] [] false (mz_k S R N b t) := by
  obtain ⟨n, hn⟩ := hp
  exact g_loop (G := fun s => mz_G (d, mz_X0 L xs, some .boolean, [], mk_277, 2, Q) 53 mt_277_53 [(0, .ref 0), (1, .int s.1)] [] false (mz_k S R s.2 b t)) (C := C0) (fun C2 hc hx s hP hC => cb_277_53 hd hS hR b s hr hc hx hP hC) n (v1, N) hn hC
theorem cb_277_9 (hd : 4 ≤ d) (hS : mz_extR S 232) (hR : mz_rok R 232)  (b : Bool) (s : Int32 × mz_N) {C0 : (Bool × mz_N) → Prop} (hr : ∀ (w : Bool) (N2 : mz_N), C0 (w, N2) → Q (.inl (some (.int (mz_b01 w)))) (mz_k S R N2 b t)) {C1 : ((Int32 × mz_N) ⊕ (Bool × mz_N)) → Prop} (hc1 : ∀ s2, C1 (.inl s2) → mz_G (d, mz_X0 L xs, some .boolean, [], mk_277, 2, Q) 9 mt_277_9 [(0, .ref 0), (1, .int s2.1)] [] false (mz_k S R s2.2 b t)) (hx1 : ∀ z, C1 (.inr z) → C0 z) (hp : cd_277_9 b s) (hC : C1 (cq_277_9 b s)) : mz_G (d, mz_X0 L xs, some .boolean, [], mk_277, 2, Q) 9 mt_277_9 [(0, .ref 0), (1, .int s.1)] [] false (mz_k S R s.2 b t) := by
  unfold cq_277_9 at hC
  unfold cd_277_9 at hp
  refine g_iload_n rfl (g_bipush mzb_10 ?_)
  refine g_icge (tg := 31) rfl ms_277_31 hC (fun h1 hC => ?_) (fun h1 hC => ?_)
  · have hp := hp.1 h1
    refine g_aload_n rfl (g_getR (mz_at hS (Nat.le_of_ble_eq_true rfl) mzcS_0) mzcf_11_0 (mz_rb hR (Nat.le_of_ble_eq_true rfl) rfl mzcR_0_0) (g_bipush mzb_8 (g_iload_n rfl ?_)))
    have h2 := hp
    refine g_v3n (Nat.le_of_ble_eq_true rfl) (mz_at hS (Nat.le_of_ble_eq_true rfl) mzcS_1) (fun _ hq => cs_119 (Nat.le_trans (Nat.le_of_ble_eq_true rfl) hd) (hS.le (Nat.le_of_ble_eq_true rfl)) (hR.le (Nat.le_of_ble_eq_true rfl))  8 s.1 s.2 h2 hq) (g_iinc rfl mzi_1 (Nat.le_of_ble_eq_true rfl) rfl (g_goto (tg := 9) rfl ms_277_9 ?_))
    refine g_weak ?_ (g_cl (hc1 ((s.1 + 1), (cf_119_0 8 s.1 s.2)) hC))
    exact ⟨rfl, rfl, trivial⟩
  · have hp := hp.2 h1
    refine g_aload_n rfl (g_getR (mz_at hS (Nat.le_of_ble_eq_true rfl) mzcS_0) mzcf_11_0 (mz_rb hR (Nat.le_of_ble_eq_true rfl) rfl mzcR_0_0) (g_bipush mzb_9 (g_iconst mzi_0 ?_)))
    obtain ⟨h3, hp⟩ := hp
    refine g_v3n (Nat.le_of_ble_eq_true rfl) (mz_at hS (Nat.le_of_ble_eq_true rfl) mzcS_1) (fun _ hq => cs_119 (Nat.le_trans (Nat.le_of_ble_eq_true rfl) hd) (hS.le (Nat.le_of_ble_eq_true rfl)) (hR.le (Nat.le_of_ble_eq_true rfl))  9 0 s.2 h3 hq) (g_aload_n rfl (g_getR (mz_at hS (Nat.le_of_ble_eq_true rfl) mzcS_0) mzcf_11_0 (mz_rb hR (Nat.le_of_ble_eq_true rfl) rfl mzcR_0_0) (g_bipush mzb_10 (g_iconst mzi_0 ?_))))
    obtain ⟨h4, hp⟩ := hp
    refine g_v3n (Nat.le_of_ble_eq_true rfl) (mz_at hS (Nat.le_of_ble_eq_true rfl) mzcS_1) (fun _ hq => cs_119 (Nat.le_trans (Nat.le_of_ble_eq_true rfl) hd) (hS.le (Nat.le_of_ble_eq_true rfl)) (hR.le (Nat.le_of_ble_eq_true rfl))  10 0 (cf_119_0 9 0 s.2) h4 hq) (g_iconst mzi_0 (g_istore_n (Nat.le_of_ble_eq_true rfl) rfl ?_))
    refine g_weak ?_ (g_cl (cg_277_53 hd hS hR 0 (cf_119_0 10 0 (cf_119_0 9 0 s.2)) b hr hp (hx1 _ hC)))
    exact ⟨rfl, rfl, trivial⟩
theorem cg_277_9 (hd : 4 ≤ d) (hS : mz_extR S 232) (hR : mz_rok R 232)  (v1 : Int32) (N : mz_N) (b : Bool) {C0 : (Bool × mz_N) → Prop} (hr : ∀ (w : Bool) (N2 : mz_N), C0 (w, N2) → Q (.inl (some (.int (mz_b01 w)))) (mz_k S R N2 b t)) (hp : cp_277_9 v1 N b) (hC : C0 (cf_277_9 v1 N b)) : mz_G (d, mz_X0 L xs, some .boolean, [], mk_277, 2, Q) 9 mt_277_9 [(0, .ref 0), (1, .int v1)] [] false (mz_k S R N b t) := by
  obtain ⟨n, hn⟩ := hp
  exact g_loop (G := fun s => mz_G (d, mz_X0 L xs, some .boolean, [], mk_277, 2, Q) 9 mt_277_9 [(0, .ref 0), (1, .int s.1)] [] false (mz_k S R s.2 b t)) (C := C0) (fun C2 hc hx s hP hC => cb_277_9 hd hS hR b s hr hc hx hP hC) n (v1, N) hn hC
theorem cg_277_0 (hd : 4 ≤ d) (hS : mz_extR S 232) (hR : mz_rok R 232)  (N : mz_N) (b : Bool) {C0 : (Bool × mz_N) → Prop} (hr : ∀ (w : Bool) (N2 : mz_N), C0 (w, N2) → Q (.inl (some (.int (mz_b01 w)))) (mz_k S R N2 b t)) (hp : cp_277_0 N b) (hC : C0 (cf_277_0 N b)) : mz_G (d, mz_X0 L xs, some .boolean, [], mk_277, 2, Q) 0 mk_277 [(0, .ref 0)] [] true (mz_k S R N b t) := by
  unfold cf_277_0 at hC
  unfold cp_277_0 at hp
  refine g_aload_n rfl (g_getR (mz_at hS (Nat.le_of_ble_eq_true rfl) mzcS_0) mzcf_11_0 (mz_rb hR (Nat.le_of_ble_eq_true rfl) rfl mzcR_0_0) ?_)
  refine g_v1n (Nat.le_of_ble_eq_true rfl) (mz_at hS (Nat.le_of_ble_eq_true rfl) mzcS_1) (fun _ hq => cs_117 (Nat.le_trans (Nat.le_of_ble_eq_true rfl) hd) (hS.le (Nat.le_of_ble_eq_true rfl)) (hR.le (Nat.le_of_ble_eq_true rfl))  N trivial hq) (g_iconst mzi_0 (g_istore_n (Nat.le_of_ble_eq_true rfl) rfl ?_))
  refine g_weak ?_ (g_cl (cg_277_9 hd hS hR 0 (cf_117_0 N) b hr hp hC))
  exact ⟨rfl, rfl, trivial⟩
theorem cs_277 (hd : 5 ≤ d) (hS : mz_extR S 232) (hR : mz_rok R 232)  (N : mz_N) (b : Bool) (hp : cp_277_0 N b) (hq : Q (.inl (some (.int (mz_b01 ((cf_277_0 N b).1))))) (mz_k S R ((cf_277_0 N b).2) b t)) : mz_Ed (mz_X0 L xs) d 277 [.ref 0] (mz_k S R N b t) Q :=
  by
  refine g_in mzq_277 (Nat.le_of_ble_eq_true rfl) (Nat.le_of_ble_eq_true rfl) (Nat.le_trans (Nat.le_of_ble_eq_true rfl) hd) ?_
  refine g_weak ?_ (cg_277_0 (d := d - 1) (by omega) hS hR N b (C0 := fun z => Q (.inl (some (.int (mz_b01 z.1)))) (mz_k S R z.2 b t)) (fun _ _ h => h) hp hq)
  exact ⟨rfl, trivial⟩
/-! 268 KeptHouse.endMinute ()Z -/
theorem ms_268_0 : mz_sf mk_268 0 = mk_268 := mz_sf_zero _
theorem ms_268_26 : mz_sf mk_268 26 = mt_268_26 := mz_sf_add ms_268_0 (t := 26) rfl rfl
theorem ms_268_30 : mz_sf mk_268 30 = mt_268_30 := mz_sf_add ms_268_26 (t := 4) rfl rfl
theorem ms_268_58 : mz_sf mk_268 58 = mt_268_58 := mz_sf_add ms_268_30 (t := 28) rfl rfl
theorem ms_268_79 : mz_sf mk_268 79 = mt_268_79 := mz_sf_add ms_268_58 (t := 21) rfl rfl
theorem ms_268_83 : mz_sf mk_268 83 = mt_268_83 := mz_sf_add ms_268_79 (t := 4) rfl rfl
theorem ms_268_84 : mz_sf mk_268 84 = mt_268_84 := mz_sf_add ms_268_83 (t := 1) rfl rfl
set_option maxRecDepth 100000 in
theorem mzq_268 : mz_PG0 268 = some (11, ⟨"KeptHouse", "endMinute", "()Z"⟩, prog_1_method_83_code, 1, some .boolean, [], mk_268, []) := rfl
theorem cg_268_58 (hd : 5 ≤ d) (hS : mz_extR S 232) (hR : mz_rok R 232)  (N : mz_N) (b : Bool) {C0 : (Bool × mz_N) → Prop} (hr : ∀ (w : Bool) (N2 : mz_N), C0 (w, N2) → Q (.inl (some (.int (mz_b01 w)))) (mz_k S R N2 b t)) (hp : cp_268_58 N b) (hC : C0 (cf_268_58 N b)) : mz_G (d, mz_X0 L xs, some .boolean, [], mk_268, 1, Q) 58 mt_268_58 [(0, .ref 0)] [] false (mz_k S R N b t) := by
  unfold cf_268_58 at hC
  unfold cp_268_58 at hp
  refine g_aload_n rfl (g_getR (mz_at hS (Nat.le_of_ble_eq_true rfl) mzcS_0) mzcf_11_8 (mz_rb hR (Nat.le_of_ble_eq_true rfl) rfl mzcR_0_8) (g_getI (mz_at hS (Nat.le_of_ble_eq_true rfl) mzcS_208) mzcf_1_0 (g_sipush mzs_240 (g_irem (by decide) ?_))))
  refine g_ifne (tg := 79) rfl ms_268_79 hC (fun h1 hC => ?_) (fun h1 hC => ?_)
  · have hp := hp.1 h1
    refine g_aload_n rfl ?_
    have h2 := hp
    refine g_v1v (Nat.le_of_ble_eq_true rfl) (mz_at hS (Nat.le_of_ble_eq_true rfl) mzcS_0) (fun _ hq => cs_277 (Nat.le_trans (Nat.le_of_ble_eq_true rfl) hd) (hS.le (Nat.le_of_ble_eq_true rfl)) (hR.le (Nat.le_of_ble_eq_true rfl))  N b h2 hq) ?_
    refine g_zeq (tg := 83) rfl ms_268_83 hC (fun h3 hC => ?_) (fun h3 hC => ?_)
    · refine g_iconst mzi_1 (g_goto (tg := 84) rfl ms_268_84 ?_)
      exact g_zret (z := true) rfl (hr _ _ hC)
    · refine g_iconst mzi_0 ?_
      exact g_zret (z := false) rfl (hr _ _ hC)
  · have hp := hp.2 h1
    refine g_iconst mzi_1 (g_goto (tg := 84) rfl ms_268_84 ?_)
    exact g_zret (z := true) rfl (hr _ _ hC)
theorem cg_268_30 (hd : 5 ≤ d) (hS : mz_extR S 232) (hR : mz_rok R 232)  (N : mz_N) (b : Bool) {C0 : (Bool × mz_N) → Prop} (hr : ∀ (w : Bool) (N2 : mz_N), C0 (w, N2) → Q (.inl (some (.int (mz_b01 w)))) (mz_k S R N2 b t)) (hp : cp_268_30 N b) (hC : C0 (cf_268_30 N b)) : mz_G (d, mz_X0 L xs, some .boolean, [], mk_268, 1, Q) 30 mt_268_30 [(0, .ref 0)] [] false (mz_k S R N b t) := by
  unfold cf_268_30 at hC
  unfold cp_268_30 at hp
  refine g_aload_n rfl (g_getR (mz_at hS (Nat.le_of_ble_eq_true rfl) mzcS_0) mzcf_11_8 (mz_rb hR (Nat.le_of_ble_eq_true rfl) rfl mzcR_0_8) (g_getI (mz_at hS (Nat.le_of_ble_eq_true rfl) mzcS_208) mzcf_1_0 (g_sipush mzs_2400 (g_irem (by decide) ?_))))
  refine g_ifne (tg := 58) rfl ms_268_58 hC (fun h1 hC => ?_) (fun h1 hC => ?_)
  · have hp := hp.1 h1
    refine g_aload_n rfl (g_getR (mz_at hS (Nat.le_of_ble_eq_true rfl) mzcS_0) mzcf_11_8 (mz_rb hR (Nat.le_of_ble_eq_true rfl) rfl mzcR_0_8) (g_aload_n rfl (g_getR (mz_at hS (Nat.le_of_ble_eq_true rfl) mzcS_0) mzcf_11_1 (mz_rb hR (Nat.le_of_ble_eq_true rfl) rfl mzcR_0_1) (g_getR (mz_at hS (Nat.le_of_ble_eq_true rfl) mzcS_2) mzcf_5_17 (mz_rb hR (Nat.le_of_ble_eq_true rfl) rfl mzcR_2_17) ?_))))
    obtain ⟨h2, hp⟩ := hp
    refine g_v2n (Nat.le_of_ble_eq_true rfl) (mz_at hS (Nat.le_of_ble_eq_true rfl) mzcS_208) (fun _ hq => cs_272 (Nat.le_trans (Nat.le_of_ble_eq_true rfl) hd) (hS.le (Nat.le_of_ble_eq_true rfl)) (hR.le (Nat.le_of_ble_eq_true rfl))  N h2 hq) ?_
    refine g_weak ?_ (g_cl (cg_268_58 hd hS hR (cf_272_0 N) b hr hp hC))
    exact ⟨rfl, trivial⟩
  · have hp := hp.2 h1
    refine g_weak ?_ (g_cl (cg_268_58 hd hS hR N b hr hp hC))
    exact ⟨rfl, trivial⟩
theorem cg_268_0 (hd : 5 ≤ d) (hS : mz_extR S 232) (hR : mz_rok R 232)  (N : mz_N) (b : Bool) {C0 : (Bool × mz_N) → Prop} (hr : ∀ (w : Bool) (N2 : mz_N), C0 (w, N2) → Q (.inl (some (.int (mz_b01 w)))) (mz_k S R N2 b t)) (hp : cp_268_0 N b) (hC : C0 (cf_268_0 N b)) : mz_G (d, mz_X0 L xs, some .boolean, [], mk_268, 1, Q) 0 mk_268 [(0, .ref 0)] [] true (mz_k S R N b t) := by
  unfold cf_268_0 at hC
  unfold cp_268_0 at hp
  refine g_aload_n rfl (g_getR (mz_at hS (Nat.le_of_ble_eq_true rfl) mzcS_0) mzcf_11_8 (mz_rb hR (Nat.le_of_ble_eq_true rfl) rfl mzcR_0_8) (g_dup rfl (g_getI (mz_at hS (Nat.le_of_ble_eq_true rfl) mzcS_208) mzcf_1_0 (g_iconst mzi_1 (g_iadd (g_putI (mz_at hS (Nat.le_of_ble_eq_true rfl) mzcS_208) mzcf_1_0 (g_aload_n rfl ?_)))))))
  refine g_getR (mz_at hS (Nat.le_of_ble_eq_true rfl) mzcS_0) mzcf_11_8 (mz_rb hR (Nat.le_of_ble_eq_true rfl) rfl mzcR_0_8) (g_getI (mz_at hS (Nat.le_of_ble_eq_true rfl) mzcS_208) mzcf_1_0 (g_bipush mzb_10 (g_irem (by decide) ?_)))
  refine g_ifne (tg := 30) rfl ms_268_30 hC (fun h1 hC => ?_) (fun h1 hC => ?_)
  · have hp := hp.1 h1
    refine g_aload_n rfl ?_
    obtain ⟨h2, hp⟩ := hp
    refine g_v1n (Nat.le_of_ble_eq_true rfl) (mz_at hS (Nat.le_of_ble_eq_true rfl) mzcS_0) (fun _ hq => cs_269 (Nat.le_trans (Nat.le_of_ble_eq_true rfl) hd) (hS.le (Nat.le_of_ble_eq_true rfl)) (hR.le (Nat.le_of_ble_eq_true rfl))  (mz_pI N 208 0 ((N.1 208 0) + 1)) h2 hq) ?_
    refine g_weak ?_ (g_cl (cg_268_30 hd hS hR (cf_269_0 (mz_pI N 208 0 ((N.1 208 0) + 1))) b hr hp hC))
    exact ⟨rfl, trivial⟩
  · have hp := hp.2 h1
    refine g_weak ?_ (g_cl (cg_268_30 hd hS hR (mz_pI N 208 0 ((N.1 208 0) + 1)) b hr hp hC))
    exact ⟨rfl, trivial⟩
theorem cs_268 (hd : 6 ≤ d) (hS : mz_extR S 232) (hR : mz_rok R 232)  (N : mz_N) (b : Bool) (hp : cp_268_0 N b) (hq : Q (.inl (some (.int (mz_b01 ((cf_268_0 N b).1))))) (mz_k S R ((cf_268_0 N b).2) b t)) : mz_Ed (mz_X0 L xs) d 268 [.ref 0] (mz_k S R N b t) Q :=
  by
  refine g_in mzq_268 (Nat.le_of_ble_eq_true rfl) (Nat.le_of_ble_eq_true rfl) (Nat.le_trans (Nat.le_of_ble_eq_true rfl) hd) ?_
  refine g_weak ?_ (cg_268_0 (d := d - 1) (by omega) hS hR N b (C0 := fun z => Q (.inl (some (.int (mz_b01 z.1)))) (mz_k S R z.2 b t)) (fun _ _ h => h) hp hq)
  exact ⟨rfl, trivial⟩
end Fn13
