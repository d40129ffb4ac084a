/-! THE FUNCTIONS: written by program: each method comes to its function. -/
section Fn24
variable {L : Nat} {xs : Nat → Int32} {d : Nat} {S : mz_S} {R : Nat → Nat → Option Nat} {Q : mz_Q} {N : mz_N} {b : Bool} {t : Nat}
/-! 460 KeptHouseModel.take (I)I -/
theorem ms_460_0 : mz_sf mk_460 0 = mk_460 := mz_sf_zero _
theorem ms_460_14 : mz_sf mk_460 14 = mt_460_14 := mz_sf_add ms_460_0 (t := 14) rfl rfl
theorem ms_460_30 : mz_sf mk_460 30 = mt_460_30 := mz_sf_add ms_460_14 (t := 16) rfl rfl
set_option maxRecDepth 100000 in
theorem mzq_460 : mz_PG0 460 = some (12, ⟨"KeptHouseModel", "take", "(I)I"⟩, prog_14_method_23_code, 2, some .int, [], mk_460, []) := rfl
theorem cg_460_30 (hd : 1 ≤ d) (hS : mz_extR S 342) (hR : mz_rok R 342)  (N : mz_N) {C0 : (Int32 × mz_N) → Prop} (hr : ∀ (w : Int32) (N2 : mz_N), C0 (w, N2) → Q (.inl (some (.int w))) (mz_k S R N2 b t)) (hp : cp_460_30 N) (hC : C0 (cf_460_30 N)) : mz_G (d, mz_X0 L xs, some .int, [], mk_460, 2, Q) 30 mt_460_30 [(0, .ref 232)] [] false (mz_k S R N b t) := by
  unfold cf_460_30 at hC
  unfold cp_460_30 at hp
  refine g_aload_n rfl (g_getI (mz_at hS (Nat.le_of_ble_eq_true rfl) mzcS_232) mzcf_12_4 ?_)
  exact g_iret rfl (hr _ _ hC)
theorem cg_460_0 (hd : 1 ≤ d) (hS : mz_extR S 342) (hR : mz_rok R 342)  (v1 : Int32) (N : mz_N) {C0 : (Int32 × mz_N) → Prop} (hr : ∀ (w : Int32) (N2 : mz_N), C0 (w, N2) → Q (.inl (some (.int w))) (mz_k S R N2 b t)) (hp : cp_460_0 v1 N) (hC : C0 (cf_460_0 v1 N)) : mz_G (d, mz_X0 L xs, some .int, [], mk_460, 2, Q) 0 mk_460 [(0, .ref 232), (1, .int v1)] [] true (mz_k S R N b t) := by
  unfold cf_460_0 at hC
  unfold cp_460_0 at hp
  refine g_aload_n rfl (g_iload_n rfl ?_)
  refine g_s1v (Nat.le_of_ble_eq_true rfl) (fun _ hq => cs_461 (Nat.le_trans (Nat.le_of_ble_eq_true rfl) hd) (hS.le (Nat.le_of_ble_eq_true rfl)) (hR.le (Nat.le_of_ble_eq_true rfl))  v1 trivial hq) (g_iconst mzi_1 ?_)
  obtain ⟨h2, hp⟩ := hp
  refine g_v3v (Nat.le_of_ble_eq_true rfl) (mz_at hS (Nat.le_of_ble_eq_true rfl) mzcS_232) (fun _ hq => cs_462 (Nat.le_trans (Nat.le_of_ble_eq_true rfl) hd) (hS.le (Nat.le_of_ble_eq_true rfl)) (hR.le (Nat.le_of_ble_eq_true rfl))  (cf_461_0 v1) true N h2 hq) ?_
  refine g_zeq (tg := 14) rfl ms_460_14 hC (fun h3 hC => ?_) (fun h3 hC => ?_)
  · have hp := hp.1 h3
    refine g_iconst mzi_0 ?_
    exact g_iret rfl (hr _ _ hC)
  · have hp := hp.2 h3
    refine g_aload_n rfl (g_iconst mzi_0 (g_iconst mzi_1 (g_iload_n rfl (g_iadd ?_))))
    obtain ⟨h4, hp⟩ := hp
    refine g_v3n (Nat.le_of_ble_eq_true rfl) (mz_at hS (Nat.le_of_ble_eq_true rfl) mzcS_232) (fun _ hq => cs_426 (Nat.le_trans (Nat.le_of_ble_eq_true rfl) hd) (hS.le (Nat.le_of_ble_eq_true rfl)) (hR.le (Nat.le_of_ble_eq_true rfl))  0 (1 + v1) ((cf_462_0 (cf_461_0 v1) true N).2) h4 hq) (g_aload_n rfl (g_iconst mzi_0 (g_iconst mzi_4 (g_iload_n rfl (g_iadd ?_)))))
    obtain ⟨h5, hp⟩ := hp
    refine g_v3n (Nat.le_of_ble_eq_true rfl) (mz_at hS (Nat.le_of_ble_eq_true rfl) mzcS_232) (fun _ hq => cs_426 (Nat.le_trans (Nat.le_of_ble_eq_true rfl) hd) (hS.le (Nat.le_of_ble_eq_true rfl)) (hR.le (Nat.le_of_ble_eq_true rfl))  0 (4 + v1) (cf_426_0 0 (1 + v1) ((cf_462_0 (cf_461_0 v1) true N).2)) h5 hq) ?_
    refine g_weak ?_ (g_cl (cg_460_30 hd hS hR (cf_426_0 0 (4 + v1) (cf_426_0 0 (1 + v1) ((cf_462_0 (cf_461_0 v1) true N).2))) hr hp hC))
    exact ⟨rfl, trivial⟩
theorem cs_460 (hd : 2 ≤ d) (hS : mz_extR S 342) (hR : mz_rok R 342)  (v1 : Int32) (N : mz_N) (hp : cp_460_0 v1 N) (hq : Q (.inl (some (.int ((cf_460_0 v1 N).1)))) (mz_k S R ((cf_460_0 v1 N).2) b t)) : mz_Ed (mz_X0 L xs) d 460 [.ref 232, .int v1] (mz_k S R N b t) Q :=
  by
  refine g_in mzq_460 (Nat.le_of_ble_eq_true rfl) (Nat.le_of_ble_eq_true rfl) (Nat.le_trans (Nat.le_of_ble_eq_true rfl) hd) ?_
  refine g_weak ?_ (cg_460_0 (d := d - 1) (by omega) hS hR v1 N (C0 := fun z => Q (.inl (some (.int z.1))) (mz_k S R z.2 b t)) (fun _ _ h => h) hp hq)
  exact ⟨rfl, rfl, trivial⟩
/-! 465 KeptHouseModel.isStorey (I)Z -/
theorem ms_465_0 : mz_sf mk_465 0 = mk_465 := mz_sf_zero _
theorem ms_465_13 : mz_sf mk_465 13 = mt_465_13 := mz_sf_add ms_465_0 (t := 13) rfl rfl
theorem ms_465_14 : mz_sf mk_465 14 = mt_465_14 := mz_sf_add ms_465_13 (t := 1) rfl rfl
set_option maxRecDepth 100000 in
theorem mzq_465 : mz_PG0 465 = some (12, ⟨"KeptHouseModel", "isStorey", "(I)Z"⟩, prog_14_method_19_code, 1, some .boolean, [], mk_465, []) := rfl
theorem cg_465_0 (hd : 0 ≤ d) (hS : mz_extR S 342) (hR : mz_rok R 342)  (v0 : Int32) {C0 : (Bool) → Prop} (hr : ∀ (w : Bool), C0 w → Q (.inl (some (.int (mz_b01 w)))) (mz_k S R N b t)) (hp : cp_465_0 v0) (hC : C0 (cf_465_0 v0)) : mz_G (d, mz_X0 L xs, some .boolean, [], mk_465, 1, Q) 0 mk_465 [(0, .int v0)] [] true (mz_k S R N b t) := by
  unfold cf_465_0 at hC
  unfold cp_465_0 at hp
  refine g_iload_n rfl ?_
  refine g_iflt (tg := 13) rfl ms_465_13 hC (fun h1 hC => ?_) (fun h1 hC => ?_)
  · refine g_iconst mzi_0 ?_
    exact g_zret (z := false) rfl (hr _ hC)
  · refine g_iload_n rfl (g_iconst mzi_5 ?_)
    refine g_icge (tg := 13) rfl ms_465_13 hC (fun h2 hC => ?_) (fun h2 hC => ?_)
    · refine g_iconst mzi_1 (g_goto (tg := 14) rfl ms_465_14 ?_)
      exact g_zret (z := true) rfl (hr _ hC)
    · refine g_iconst mzi_0 ?_
      exact g_zret (z := false) rfl (hr _ hC)
theorem cs_465 (hd : 1 ≤ d) (hS : mz_extR S 342) (hR : mz_rok R 342)  (v0 : Int32) (hp : cp_465_0 v0) (hq : Q (.inl (some (.int (mz_b01 (cf_465_0 v0))))) (mz_k S R N b t)) : mz_Ed (mz_X0 L xs) d 465 [.int v0] (mz_k S R N b t) Q :=
  by
  refine g_in mzq_465 (Nat.le_of_ble_eq_true rfl) (Nat.le_of_ble_eq_true rfl) (Nat.le_trans (Nat.le_of_ble_eq_true rfl) hd) ?_
  refine g_weak ?_ (cg_465_0 (d := d - 1) (by omega) hS hR v0 (C0 := fun z => Q (.inl (some (.int (mz_b01 z)))) (mz_k S R N b t)) (fun _ h => h) hp hq)
  exact ⟨rfl, trivial⟩
/-! 464 KeptHouseModel.isEdge (II)Z -/
theorem ms_464_0 : mz_sf mk_464 0 = mk_464 := mz_sf_zero _
theorem ms_464_21 : mz_sf mk_464 21 = mt_464_21 := mz_sf_add ms_464_0 (t := 21) rfl rfl
theorem ms_464_22 : mz_sf mk_464 22 = mt_464_22 := mz_sf_add ms_464_21 (t := 1) rfl rfl
set_option maxRecDepth 100000 in
theorem mzq_464 : mz_PG0 464 = some (12, ⟨"KeptHouseModel", "isEdge", "(II)Z"⟩, prog_14_method_21_code, 2, some .boolean, [], mk_464, []) := rfl
theorem cg_464_0 (hd : 1 ≤ d) (hS : mz_extR S 342) (hR : mz_rok R 342)  (v0 : Int32) (v1 : Int32) {C0 : (Bool) → Prop} (hr : ∀ (w : Bool), C0 w → Q (.inl (some (.int (mz_b01 w)))) (mz_k S R N b t)) (hp : cp_464_0 v0 v1) (hC : C0 (cf_464_0 v0 v1)) : mz_G (d, mz_X0 L xs, some .boolean, [], mk_464, 2, Q) 0 mk_464 [(0, .int v0), (1, .int v1)] [] true (mz_k S R N b t) := by
  unfold cf_464_0 at hC
  unfold cp_464_0 at hp
  refine g_iload_n rfl ?_
  refine g_s1v (Nat.le_of_ble_eq_true rfl) (fun _ hq => cs_465 (Nat.le_trans (Nat.le_of_ble_eq_true rfl) hd) (hS.le (Nat.le_of_ble_eq_true rfl)) (hR.le (Nat.le_of_ble_eq_true rfl))  v0 trivial hq) ?_
  refine g_zeq (tg := 21) rfl ms_464_21 hC (fun h2 hC => ?_) (fun h2 hC => ?_)
  · refine g_iload_n rfl ?_
    refine g_iflt (tg := 21) rfl ms_464_21 hC (fun h3 hC => ?_) (fun h3 hC => ?_)
    · refine g_iconst mzi_0 ?_
      exact g_zret (z := false) rfl (hr _ hC)
    · refine g_iload_n rfl (g_bipush mzb_110 ?_)
      refine g_icge (tg := 21) rfl ms_464_21 hC (fun h4 hC => ?_) (fun h4 hC => ?_)
      · refine g_iconst mzi_1 (g_goto (tg := 22) rfl ms_464_22 ?_)
        exact g_zret (z := true) rfl (hr _ hC)
      · refine g_iconst mzi_0 ?_
        exact g_zret (z := false) rfl (hr _ hC)
  · refine g_iconst mzi_0 ?_
    exact g_zret (z := false) rfl (hr _ hC)
theorem cs_464 (hd : 2 ≤ d) (hS : mz_extR S 342) (hR : mz_rok R 342)  (v0 : Int32) (v1 : Int32) (hp : cp_464_0 v0 v1) (hq : Q (.inl (some (.int (mz_b01 (cf_464_0 v0 v1))))) (mz_k S R N b t)) : mz_Ed (mz_X0 L xs) d 464 [.int v0, .int v1] (mz_k S R N b t) Q :=
  by
  refine g_in mzq_464 (Nat.le_of_ble_eq_true rfl) (Nat.le_of_ble_eq_true rfl) (Nat.le_trans (Nat.le_of_ble_eq_true rfl) hd) ?_
  refine g_weak ?_ (cg_464_0 (d := d - 1) (by omega) hS hR v0 v1 (C0 := fun z => Q (.inl (some (.int (mz_b01 z)))) (mz_k S R N b t)) (fun _ h => h) hp hq)
  exact ⟨rfl, rfl, trivial⟩
/-! 466 KeptHouseModel.in (JJJ)Z -/
theorem ms_466_0 : mz_sf mk_466 0 = mk_466 := mz_sf_zero _
theorem ms_466_17 : mz_sf mk_466 17 = mt_466_17 := mz_sf_add ms_466_0 (t := 17) rfl rfl
theorem ms_466_18 : mz_sf mk_466 18 = mt_466_18 := mz_sf_add ms_466_17 (t := 1) rfl rfl
set_option maxRecDepth 100000 in
theorem mzq_466 : mz_PG0 466 = some (12, ⟨"KeptHouseModel", "in", "(JJJ)Z"⟩, prog_14_method_3_code, 6, some .boolean, [], mk_466, []) := rfl
theorem cg_466_0 (hd : 0 ≤ d) (hS : mz_extR S 342) (hR : mz_rok R 342)  (v0 : Int64) (v2 : Int64) (v4 : Int64) {C0 : (Bool) → Prop} (hr : ∀ (w : Bool), C0 w → Q (.inl (some (.int (mz_b01 w)))) (mz_k S R N b t)) (hp : cp_466_0 v0 v2 v4) (hC : C0 (cf_466_0 v0 v2 v4)) : mz_G (d, mz_X0 L xs, some .boolean, [], mk_466, 6, Q) 0 mk_466 [(0, .long v0), (2, .long v2), (4, .long v4)] [] true (mz_k S R N b t) := by
  unfold cf_466_0 at hC
  unfold cp_466_0 at hp
  refine g_lload_n rfl (g_lload_n rfl (g_lcmp ?_))
  refine g_llt (tg := 17) rfl ms_466_17 hC (fun h1 hC => ?_) (fun h1 hC => ?_)
  · refine g_iconst mzi_0 ?_
    exact g_zret (z := false) rfl (hr _ hC)
  · refine g_lload_n rfl (g_lload rfl (g_lcmp ?_))
    refine g_lgt (tg := 17) rfl ms_466_17 hC (fun h2 hC => ?_) (fun h2 hC => ?_)
    · refine g_iconst mzi_0 ?_
      exact g_zret (z := false) rfl (hr _ hC)
    · refine g_iconst mzi_1 (g_goto (tg := 18) rfl ms_466_18 ?_)
      exact g_zret (z := true) rfl (hr _ hC)
theorem cs_466 (hd : 1 ≤ d) (hS : mz_extR S 342) (hR : mz_rok R 342)  (v0 : Int64) (v2 : Int64) (v4 : Int64) (hp : cp_466_0 v0 v2 v4) (hq : Q (.inl (some (.int (mz_b01 (cf_466_0 v0 v2 v4))))) (mz_k S R N b t)) : mz_Ed (mz_X0 L xs) d 466 [.long v0, .long v2, .long v4] (mz_k S R N b t) Q :=
  by
  refine g_in mzq_466 (Nat.le_of_ble_eq_true rfl) (Nat.le_of_ble_eq_true rfl) (Nat.le_trans (Nat.le_of_ble_eq_true rfl) hd) ?_
  refine g_weak ?_ (cg_466_0 (d := d - 1) (by omega) hS hR v0 v2 v4 (C0 := fun z => Q (.inl (some (.int (mz_b01 z)))) (mz_k S R N b t)) (fun _ h => h) hp hq)
  exact ⟨rfl, rfl, rfl, trivial⟩
/-! 463 KeptHouseModel.edit (IIIIII)I -/
theorem ms_463_0 : mz_sf mk_463 0 = mk_463 := mz_sf_zero _
theorem ms_463_73 : mz_sf mk_463 73 = mt_463_73 := mz_sf_add ms_463_0 (t := 73) rfl rfl
theorem ms_463_74 : mz_sf mk_463 74 = mt_463_74 := mz_sf_add ms_463_73 (t := 1) rfl rfl
theorem ms_463_83 : mz_sf mk_463 83 = mt_463_83 := mz_sf_add ms_463_74 (t := 9) rfl rfl
theorem ms_463_89 : mz_sf mk_463 89 = mt_463_89 := mz_sf_add ms_463_83 (t := 6) rfl rfl
theorem ms_463_122 : mz_sf mk_463 122 = mt_463_122 := mz_sf_add ms_463_89 (t := 33) rfl rfl
theorem ms_463_136 : mz_sf mk_463 136 = mt_463_136 := mz_sf_add ms_463_122 (t := 14) rfl rfl
theorem ms_463_160 : mz_sf mk_463 160 = mt_463_160 := mz_sf_add ms_463_136 (t := 24) rfl rfl
theorem ms_463_166 : mz_sf mk_463 166 = mt_463_166 := mz_sf_add ms_463_160 (t := 6) rfl rfl
set_option maxRecDepth 100000 in
theorem mzq_463 : mz_PG0 463 = some (12, ⟨"KeptHouseModel", "edit", "(IIIIII)I"⟩, prog_14_method_24_code, 11, some .int, [], mk_463, []) := rfl
theorem cg_463_160 (hd : 2 ≤ d) (hS : mz_extR S 342) (hR : mz_rok R 342)  (v1 : Int32) (v2 : Int32) (v3 : Int32) (v4 : Int32) (v5 : Int32) (v6 : Int32) (v7 : Int32) (v8 : Int32) (N : mz_N) {C0 : (Int32 × mz_N) → Prop} (hr : ∀ (w : Int32) (N2 : mz_N), C0 (w, N2) → Q (.inl (some (.int w))) (mz_k S R N2 b t)) {C1 : ((Int32 × Int32 × mz_N) ⊕ (Int32 × mz_N)) → Prop} (hc1 : ∀ s2, C1 (.inl s2) → mz_G (d, mz_X0 L xs, some .int, [], mk_463, 11, Q) 89 mt_463_89 [(0, .ref 232), (1, .int v1), (2, .int v2), (3, .int v3), (4, .int v4), (5, .int v5), (6, .int v6), (7, .int s2.1), (8, .int s2.2.1)] [] false (mz_k S R s2.2.2 b t)) (hx1 : ∀ z, C1 (.inr z) → C0 z) (hp : cp_463_160 v1 v2 v3 v4 v5 v6 v7 v8 N) (hC : C1 (cf_463_160 v1 v2 v3 v4 v5 v6 v7 v8 N)) : mz_G (d, mz_X0 L xs, some .int, [], mk_463, 11, Q) 160 mt_463_160 [(0, .ref 232), (1, .int v1), (2, .int v2), (3, .int v3), (4, .int v4), (5, .int v5), (6, .int v6), (7, .int v7), (8, .int v8)] [] false (mz_k S R N b t) := by
  unfold cf_463_160 at hC
  unfold cp_463_160 at hp
  refine g_iinc rfl mzi_1 (Nat.le_of_ble_eq_true rfl) rfl (g_goto (tg := 89) rfl ms_463_89 ?_)
  refine g_weak ?_ (g_cl (hc1 (v7, (v8 + 1), N) hC))
  exact ⟨rfl, rfl, rfl, rfl, rfl, rfl, rfl, rfl, rfl, trivial⟩
theorem cg_463_136 (hd : 2 ≤ d) (hS : mz_extR S 342) (hR : mz_rok R 342)  (v1 : Int32) (v2 : Int32) (v3 : Int32) (v4 : Int32) (v5 : Int32) (v6 : Int32) (v7 : Int32) (v8 : Int32) (v10 : Int32) (N : mz_N) {C0 : (Int32 × mz_N) → Prop} (hr : ∀ (w : Int32) (N2 : mz_N), C0 (w, N2) → Q (.inl (some (.int w))) (mz_k S R N2 b t)) {C1 : ((Int32 × Int32 × mz_N) ⊕ (Int32 × mz_N)) → Prop} (hc1 : ∀ s2, C1 (.inl s2) → mz_G (d, mz_X0 L xs, some .int, [], mk_463, 11, Q) 89 mt_463_89 [(0, .ref 232), (1, .int v1), (2, .int v2), (3, .int v3), (4, .int v4), (5, .int v5), (6, .int v6), (7, .int s2.1), (8, .int s2.2.1)] [] false (mz_k S R s2.2.2 b t)) (hx1 : ∀ z, C1 (.inr z) → C0 z) (hp : cp_463_136 v1 v2 v3 v4 v5 v6 v7 v8 v10 N) (hC : C1 (cf_463_136 v1 v2 v3 v4 v5 v6 v7 v8 v10 N)) : mz_G (d, mz_X0 L xs, some .int, [], mk_463, 11, Q) 136 mt_463_136 [(0, .ref 232), (1, .int v1), (2, .int v2), (3, .int v3), (4, .int v4), (5, .int v5), (6, .int v6), (7, .int v7), (8, .int v8), (10, .int v10)] [] false (mz_k S R N b t) := by
  unfold cf_463_136 at hC
  unfold cp_463_136 at hp
  refine g_aload_n rfl (g_getR (mz_at hS (Nat.le_of_ble_eq_true rfl) mzcS_232) mzcf_12_3 (mz_rb hR (Nat.le_of_ble_eq_true rfl) rfl mzcR_232_3) (g_iload rfl ?_))
  obtain ⟨h1, hp⟩ := hp
  refine g_iald hS.1 (mz_at hS (Nat.le_of_ble_eq_true rfl) mzcS_233) h1 (g_iload rfl ?_)
  refine g_iceq (tg := 160) rfl ms_463_160 hC (fun h2 hC => ?_) (fun h2 hC => ?_)
  · have hp := hp.1 h2
    refine g_weak ?_ (g_cl (cg_463_160 hd hS hR v1 v2 v3 v4 v5 v6 v7 v8 N hr hc1 hx1 hp hC))
    exact ⟨rfl, rfl, rfl, rfl, rfl, rfl, rfl, rfl, rfl, trivial⟩
  · have hp := hp.2 h2
    refine g_aload_n rfl (g_getR (mz_at hS (Nat.le_of_ble_eq_true rfl) mzcS_232) mzcf_12_3 (mz_rb hR (Nat.le_of_ble_eq_true rfl) rfl mzcR_232_3) (g_iload rfl (g_iload rfl ?_)))
    obtain ⟨h3, hp⟩ := hp
    refine g_iast (mz_at hS (Nat.le_of_ble_eq_true rfl) mzcS_233) h3 (g_iinc rfl mzi_1 (Nat.le_of_ble_eq_true rfl) rfl ?_)
    refine g_weak ?_ (g_cl (cg_463_160 hd hS hR v1 v2 v3 v4 v5 v6 (v7 + 1) v8 (mz_wI N 233 v10 v6) hr hc1 hx1 hp hC))
    exact ⟨rfl, rfl, rfl, rfl, rfl, rfl, rfl, rfl, rfl, trivial⟩
theorem cb_463_89 (hd : 2 ≤ d) (hS : mz_extR S 342) (hR : mz_rok R 342)  (v1 : Int32) (v2 : Int32) (v3 : Int32) (v4 : Int32) (v5 : Int32) (v6 : Int32) (s : Int32 × Int32 × mz_N) {C0 : (Int32 × mz_N) → Prop} (hr : ∀ (w : Int32) (N2 : mz_N), C0 (w, N2) → Q (.inl (some (.int w))) (mz_k S R N2 b t)) {C1 : ((Int32 × Int32 × mz_N) ⊕ (Int32 × mz_N)) → Prop} (hc1 : ∀ s2, C1 (.inl s2) → mz_G (d, mz_X0 L xs, some .int, [], mk_463, 11, Q) 89 mt_463_89 [(0, .ref 232), (1, .int v1), (2, .int v2), (3, .int v3), (4, .int v4), (5, .int v5), (6, .int v6), (7, .int s2.1), (8, .int s2.2.1)] [] false (mz_k S R s2.2.2 b t)) (hx1 : ∀ z, C1 (.inr z) → C0 z) (hp : cd_463_89 v1 v2 v3 v4 v5 v6 s) (hC : C1 (cq_463_89 v1 v2 v3 v4 v5 v6 s)) : mz_G (d, mz_X0 L xs, some .int, [], mk_463, 11, Q) 89 mt_463_89 [(0, .ref 232), (1, .int v1), (2, .int v2), (3, .int v3), (4, .int v4), (5, .int v5), (6, .int v6), (7, .int s.1), (8, .int s.2.1)] [] false (mz_k S R s.2.2 b t) := by
  unfold cq_463_89 at hC
  unfold cd_463_89 at hp
  refine g_iload rfl (g_iload rfl ?_)
  refine g_icge (tg := 166) rfl ms_463_166 hC (fun h1 hC => ?_) (fun h1 hC => ?_)
  · have hp := hp.1 h1
    refine g_iload_n rfl (g_iload rfl (g_iload rfl (g_imul (g_iadd (g_istore (Nat.le_of_ble_eq_true rfl) rfl (g_sipush mzs_550 (g_iconst mzi_1 ?_)))))))
    refine g_iload_n rfl (g_iadd (g_imul (g_bipush mzb_110 (g_iload_n rfl (g_imul (g_iadd (g_iload rfl ?_)))))))
    refine g_iadd (g_istore (Nat.le_of_ble_eq_true rfl) rfl (g_iload rfl (g_iconst mzi_1 ?_)))
    refine g_icgt (tg := 136) rfl ms_463_136 hC (fun h2 hC => ?_) (fun h2 hC => ?_)
    · have hp := hp.1 h2
      refine g_weak ?_ (g_cl (cg_463_136 hd hS hR v1 v2 v3 v4 v5 v6 s.1 s.2.1 (((550 * (1 + v1)) + (110 * v2)) + (v3 + (s.2.1 * v5))) s.2.2 hr hc1 hx1 hp hC))
      exact ⟨rfl, rfl, rfl, rfl, rfl, rfl, rfl, rfl, rfl, rfl, trivial⟩
    · have hp := hp.2 h2
      refine g_iload rfl ?_
      refine g_s1v (Nat.le_of_ble_eq_true rfl) (fun _ hq => cs_417 (Nat.le_trans (Nat.le_of_ble_eq_true rfl) hd) (hS.le (Nat.le_of_ble_eq_true rfl)) (hR.le (Nat.le_of_ble_eq_true rfl))  (v3 + (s.2.1 * v5)) trivial hq) ?_
      refine g_zne (tg := 160) rfl ms_463_160 hC (fun h4 hC => ?_) (fun h4 hC => ?_)
      · have hp := hp.1 h4
        refine g_weak ?_ (g_cl (cg_463_160 hd hS hR v1 v2 v3 v4 v5 v6 s.1 s.2.1 s.2.2 hr hc1 hx1 hp hC))
        exact ⟨rfl, rfl, rfl, rfl, rfl, rfl, rfl, rfl, rfl, trivial⟩
      · have hp := hp.2 h4
        refine g_weak ?_ (g_cl (cg_463_136 hd hS hR v1 v2 v3 v4 v5 v6 s.1 s.2.1 (((550 * (1 + v1)) + (110 * v2)) + (v3 + (s.2.1 * v5))) s.2.2 hr hc1 hx1 hp hC))
        exact ⟨rfl, rfl, rfl, rfl, rfl, rfl, rfl, rfl, rfl, rfl, trivial⟩
  · have hp := hp.2 h1
    refine g_iload rfl ?_
    exact g_iret rfl (hr _ _ (hx1 _ hC))
theorem cg_463_89 (hd : 2 ≤ d) (hS : mz_extR S 342) (hR : mz_rok R 342)  (v1 : Int32) (v2 : Int32) (v3 : Int32) (v4 : Int32) (v5 : Int32) (v6 : Int32) (v7 : Int32) (v8 : Int32) (N : mz_N) {C0 : (Int32 × mz_N) → Prop} (hr : ∀ (w : Int32) (N2 : mz_N), C0 (w, N2) → Q (.inl (some (.int w))) (mz_k S R N2 b t)) (hp : cp_463_89 v1 v2 v3 v4 v5 v6 v7 v8 N) (hC : C0 (cf_463_89 v1 v2 v3 v4 v5 v6 v7 v8 N)) : mz_G (d, mz_X0 L xs, some .int, [], mk_463, 11, Q) 89 mt_463_89 [(0, .ref 232), (1, .int v1), (2, .int v2), (3, .int v3), (4, .int v4), (5, .int v5), (6, .int v6), (7, .int v7), (8, .int v8)] [] false (mz_k S R N b t) := by
  obtain ⟨n, hn⟩ := hp
  exact g_loop (G := fun s => mz_G (d, mz_X0 L xs, some .int, [], mk_463, 11, Q) 89 mt_463_89 [(0, .ref 232), (1, .int v1), (2, .int v2), (3, .int v3), (4, .int v4), (5, .int v5), (6, .int v6), (7, .int s.1), (8, .int s.2.1)] [] false (mz_k S R s.2.2 b t)) (C := C0) (fun C2 hc hx s hP hC => cb_463_89 hd hS hR v1 v2 v3 v4 v5 v6 s hr hc hx hP hC) n (v7, v8, N) hn hC
theorem cg_463_74 (hd : 2 ≤ d) (hS : mz_extR S 342) (hR : mz_rok R 342)  (s1 : Bool) (v1 : Int32) (v2 : Int32) (v3 : Int32) (v4 : Int32) (v5 : Int32) (v6 : Int32) (N : mz_N) {C0 : (Int32 × mz_N) → Prop} (hr : ∀ (w : Int32) (N2 : mz_N), C0 (w, N2) → Q (.inl (some (.int w))) (mz_k S R N2 b t)) (hp : cp_463_74 s1 v1 v2 v3 v4 v5 v6 N) (hC : C0 (cf_463_74 s1 v1 v2 v3 v4 v5 v6 N)) : mz_G (d, mz_X0 L xs, some .int, [], mk_463, 11, Q) 74 mt_463_74 [(0, .ref 232), (1, .int v1), (2, .int v2), (3, .int v3), (4, .int v4), (5, .int v5), (6, .int v6)] [.int (mz_b01 s1), .ref 232] false (mz_k S R N b t) := by
  unfold cf_463_74 at hC
  unfold cp_463_74 at hp
  refine g_iconst mzi_1 ?_
  obtain ⟨h1, hp⟩ := hp
  refine g_v3v (Nat.le_of_ble_eq_true rfl) (mz_at hS (Nat.le_of_ble_eq_true rfl) mzcS_232) (fun _ hq => cs_462 (Nat.le_trans (Nat.le_of_ble_eq_true rfl) hd) (hS.le (Nat.le_of_ble_eq_true rfl)) (hR.le (Nat.le_of_ble_eq_true rfl))  s1 true N h1 hq) ?_
  refine g_zeq (tg := 83) rfl ms_463_83 hC (fun h2 hC => ?_) (fun h2 hC => ?_)
  · have hp := hp.1 h2
    refine g_iconst mzi_0 ?_
    exact g_iret rfl (hr _ _ hC)
  · have hp := hp.2 h2
    refine g_iconst mzi_0 (g_istore (Nat.le_of_ble_eq_true rfl) rfl (g_iconst mzi_0 (g_istore (Nat.le_of_ble_eq_true rfl) rfl ?_)))
    refine g_weak ?_ (g_cl (cg_463_89 hd hS hR v1 v2 v3 v4 v5 v6 0 0 ((cf_462_0 s1 true N).2) hr hp hC))
    exact ⟨rfl, rfl, rfl, rfl, rfl, rfl, rfl, rfl, rfl, trivial⟩
theorem cg_463_73 (hd : 2 ≤ d) (hS : mz_extR S 342) (hR : mz_rok R 342)  (v1 : Int32) (v2 : Int32) (v3 : Int32) (v4 : Int32) (v5 : Int32) (v6 : Int32) (N : mz_N) {C0 : (Int32 × mz_N) → Prop} (hr : ∀ (w : Int32) (N2 : mz_N), C0 (w, N2) → Q (.inl (some (.int w))) (mz_k S R N2 b t)) (hp : cp_463_73 v1 v2 v3 v4 v5 v6 N) (hC : C0 (cf_463_73 v1 v2 v3 v4 v5 v6 N)) : mz_G (d, mz_X0 L xs, some .int, [], mk_463, 11, Q) 73 mt_463_73 [(0, .ref 232), (1, .int v1), (2, .int v2), (3, .int v3), (4, .int v4), (5, .int v5), (6, .int v6)] [.ref 232] false (mz_k S R N b t) := by
  unfold cf_463_73 at hC
  unfold cp_463_73 at hp
  refine g_iconst mzi_0 ?_
  refine g_weak ?_ (g_cl (cg_463_74 hd hS hR false v1 v2 v3 v4 v5 v6 N hr hp hC))
  exact ⟨rfl, rfl, rfl, rfl, rfl, rfl, rfl, trivial⟩
theorem cg_463_0 (hd : 2 ≤ d) (hS : mz_extR S 342) (hR : mz_rok R 342)  (v1 : Int32) (v2 : Int32) (v3 : Int32) (v4 : Int32) (v5 : Int32) (v6 : Int32) (N : mz_N) {C0 : (Int32 × mz_N) → Prop} (hr : ∀ (w : Int32) (N2 : mz_N), C0 (w, N2) → Q (.inl (some (.int w))) (mz_k S R N2 b t)) (hp : cp_463_0 v1 v2 v3 v4 v5 v6 N) (hC : C0 (cf_463_0 v1 v2 v3 v4 v5 v6 N)) : mz_G (d, mz_X0 L xs, some .int, [], mk_463, 11, Q) 0 mk_463 [(0, .ref 232), (1, .int v1), (2, .int v2), (3, .int v3), (4, .int v4), (5, .int v5), (6, .int v6)] [] true (mz_k S R N b t) := by
  unfold cf_463_0 at hC
  unfold cp_463_0 at hp
  refine g_aload_n rfl (g_iload_n rfl ?_)
  refine g_s1v (Nat.le_of_ble_eq_true rfl) (fun _ hq => cs_461 (Nat.le_trans (Nat.le_of_ble_eq_true rfl) hd) (hS.le (Nat.le_of_ble_eq_true rfl)) (hR.le (Nat.le_of_ble_eq_true rfl))  v1 trivial hq) ?_
  refine g_zeq (tg := 73) rfl ms_463_73 hC (fun h2 hC => ?_) (fun h2 hC => ?_)
  · have hp := hp.1 h2
    refine g_iload_n rfl (g_iload_n rfl ?_)
    refine g_s2v (Nat.le_of_ble_eq_true rfl) (fun _ hq => cs_464 (Nat.le_trans (Nat.le_of_ble_eq_true rfl) hd) (hS.le (Nat.le_of_ble_eq_true rfl)) (hR.le (Nat.le_of_ble_eq_true rfl))  v2 v3 trivial hq) ?_
    refine g_zeq (tg := 73) rfl ms_463_73 hC (fun h4 hC => ?_) (fun h4 hC => ?_)
    · have hp := hp.1 h4
      refine g_iload rfl (g_i2l (g_lconst mzl_1 (g_con3 ?_)))
      refine g_s3v (Nat.le_of_ble_eq_true rfl) (fun _ hq => cs_466 (Nat.le_trans (Nat.le_of_ble_eq_true rfl) hd) (hS.le (Nat.le_of_ble_eq_true rfl)) (hR.le (Nat.le_of_ble_eq_true rfl))  v4.toInt64 1 110 trivial hq) ?_
      refine g_zeq (tg := 73) rfl ms_463_73 hC (fun h6 hC => ?_) (fun h6 hC => ?_)
      · have hp := hp.1 h6
        refine g_iload rfl (g_i2l (g_lconst mzl_1 (g_con3 ?_)))
        refine g_s3v (Nat.le_of_ble_eq_true rfl) (fun _ hq => cs_466 (Nat.le_trans (Nat.le_of_ble_eq_true rfl) hd) (hS.le (Nat.le_of_ble_eq_true rfl)) (hR.le (Nat.le_of_ble_eq_true rfl))  v5.toInt64 1 110 trivial hq) ?_
        refine g_zeq (tg := 73) rfl ms_463_73 hC (fun h8 hC => ?_) (fun h8 hC => ?_)
        · have hp := hp.1 h8
          refine g_iload rfl (g_i2l (g_lconst mzl_0 (g_con3 ?_)))
          refine g_s3v (Nat.le_of_ble_eq_true rfl) (fun _ hq => cs_466 (Nat.le_trans (Nat.le_of_ble_eq_true rfl) hd) (hS.le (Nat.le_of_ble_eq_true rfl)) (hR.le (Nat.le_of_ble_eq_true rfl))  v6.toInt64 0 3 trivial hq) ?_
          refine g_zeq (tg := 73) rfl ms_463_73 hC (fun h10 hC => ?_) (fun h10 hC => ?_)
          · have hp := hp.1 h10
            refine g_iload_n rfl (g_iload rfl (g_iconst mzi_1 (g_isub (g_iload rfl (g_imul (g_iadd (g_bipush mzb_110 ?_)))))))
            refine g_icge (tg := 73) rfl ms_463_73 hC (fun h11 hC => ?_) (fun h11 hC => ?_)
            · have hp := hp.1 h11
              refine g_iconst mzi_1 (g_goto (tg := 74) rfl ms_463_74 ?_)
              refine g_weak ?_ (g_cl (cg_463_74 hd hS hR true v1 v2 v3 v4 v5 v6 N hr hp hC))
              exact ⟨rfl, rfl, rfl, rfl, rfl, rfl, rfl, trivial⟩
            · have hp := hp.2 h11
              refine g_weak ?_ (g_cl (cg_463_73 hd hS hR v1 v2 v3 v4 v5 v6 N hr hp hC))
              exact ⟨rfl, rfl, rfl, rfl, rfl, rfl, rfl, trivial⟩
          · have hp := hp.2 h10
            refine g_weak ?_ (g_cl (cg_463_73 hd hS hR v1 v2 v3 v4 v5 v6 N hr hp hC))
            exact ⟨rfl, rfl, rfl, rfl, rfl, rfl, rfl, trivial⟩
        · have hp := hp.2 h8
          refine g_weak ?_ (g_cl (cg_463_73 hd hS hR v1 v2 v3 v4 v5 v6 N hr hp hC))
          exact ⟨rfl, rfl, rfl, rfl, rfl, rfl, rfl, trivial⟩
      · have hp := hp.2 h6
        refine g_weak ?_ (g_cl (cg_463_73 hd hS hR v1 v2 v3 v4 v5 v6 N hr hp hC))
        exact ⟨rfl, rfl, rfl, rfl, rfl, rfl, rfl, trivial⟩
    · have hp := hp.2 h4
      refine g_weak ?_ (g_cl (cg_463_73 hd hS hR v1 v2 v3 v4 v5 v6 N hr hp hC))
      exact ⟨rfl, rfl, rfl, rfl, rfl, rfl, rfl, trivial⟩
  · have hp := hp.2 h2
    refine g_weak ?_ (g_cl (cg_463_73 hd hS hR v1 v2 v3 v4 v5 v6 N hr hp hC))
    exact ⟨rfl, rfl, rfl, rfl, rfl, rfl, rfl, trivial⟩
theorem cs_463 (hd : 3 ≤ d) (hS : mz_extR S 342) (hR : mz_rok R 342)  (v1 : Int32) (v2 : Int32) (v3 : Int32) (v4 : Int32) (v5 : Int32) (v6 : Int32) (N : mz_N) (hp : cp_463_0 v1 v2 v3 v4 v5 v6 N) (hq : Q (.inl (some (.int ((cf_463_0 v1 v2 v3 v4 v5 v6 N).1)))) (mz_k S R ((cf_463_0 v1 v2 v3 v4 v5 v6 N).2) b t)) : mz_Ed (mz_X0 L xs) d 463 [.ref 232, .int v1, .int v2, .int v3, .int v4, .int v5, .int v6] (mz_k S R N b t) Q :=
  by
  refine g_in mzq_463 (Nat.le_of_ble_eq_true rfl) (Nat.le_of_ble_eq_true rfl) (Nat.le_trans (Nat.le_of_ble_eq_true rfl) hd) ?_
  refine g_weak ?_ (cg_463_0 (d := d - 1) (by omega) hS hR v1 v2 v3 v4 v5 v6 N (C0 := fun z => Q (.inl (some (.int z.1))) (mz_k S R z.2 b t)) (fun _ _ h => h) hp hq)
  exact ⟨rfl, rfl, rfl, rfl, rfl, rfl, rfl, trivial⟩
/-! 470 KeptHouseModel.isMine (II)Z -/
theorem ms_470_0 : mz_sf mk_470 0 = mk_470 := mz_sf_zero _
theorem ms_470_31 : mz_sf mk_470 31 = mt_470_31 := mz_sf_add ms_470_0 (t := 31) rfl rfl
theorem ms_470_35 : mz_sf mk_470 35 = mt_470_35 := mz_sf_add ms_470_31 (t := 4) rfl rfl
theorem ms_470_36 : mz_sf mk_470 36 = mt_470_36 := mz_sf_add ms_470_35 (t := 1) rfl rfl
set_option maxRecDepth 100000 in
theorem mzq_470 : mz_PG0 470 = some (12, ⟨"KeptHouseModel", "isMine", "(II)Z"⟩, prog_14_method_25_code, 3, some .boolean, [], mk_470, []) := rfl
theorem cg_470_0 (hd : 0 ≤ d) (hS : mz_extR S 342) (hR : mz_rok R 342)  (v1 : Int32) (v2 : Int32) (N : mz_N) {C0 : (Bool) → Prop} (hr : ∀ (w : Bool), C0 w → Q (.inl (some (.int (mz_b01 w)))) (mz_k S R N b t)) (hp : cp_470_0 v1 v2 N) (hC : C0 (cf_470_0 v1 v2 N)) : mz_G (d, mz_X0 L xs, some .boolean, [], mk_470, 3, Q) 0 mk_470 [(0, .ref 232), (1, .int v1), (2, .int v2)] [] true (mz_k S R N b t) := by
  unfold cf_470_0 at hC
  unfold cp_470_0 at hp
  refine g_aload_n rfl (g_getR (mz_at hS (Nat.le_of_ble_eq_true rfl) mzcS_232) mzcf_12_3 (mz_rb hR (Nat.le_of_ble_eq_true rfl) rfl mzcR_232_3) (g_sipush mzs_550 (g_iconst mzi_1 (g_iload_n rfl (g_iadd (g_imul (g_iload_n rfl ?_)))))))
  refine g_iadd ?_
  obtain ⟨h1, hp⟩ := hp
  refine g_iald hS.1 (mz_at hS (Nat.le_of_ble_eq_true rfl) mzcS_233) h1 (g_aload_n rfl (g_getR (mz_at hS (Nat.le_of_ble_eq_true rfl) mzcS_232) mzcf_12_3 (mz_rb hR (Nat.le_of_ble_eq_true rfl) rfl mzcR_232_3) (g_sipush mzs_550 (g_iconst mzi_4 (g_iload_n rfl (g_iadd (g_imul ?_)))))))
  refine g_iload_n rfl (g_iadd ?_)
  have h2 := hp
  refine g_iald hS.1 (mz_at hS (Nat.le_of_ble_eq_true rfl) mzcS_233) h2 ?_
  refine g_iceq (tg := 35) rfl ms_470_35 hC (fun h3 hC => ?_) (fun h3 hC => ?_)
  · refine g_iconst mzi_0 ?_
    exact g_zret (z := false) rfl (hr _ hC)
  · refine g_iconst mzi_1 (g_goto (tg := 36) rfl ms_470_36 ?_)
    exact g_zret (z := true) rfl (hr _ hC)
theorem cs_470 (hd : 1 ≤ d) (hS : mz_extR S 342) (hR : mz_rok R 342)  (v1 : Int32) (v2 : Int32) (N : mz_N) (hp : cp_470_0 v1 v2 N) (hq : Q (.inl (some (.int (mz_b01 (cf_470_0 v1 v2 N))))) (mz_k S R N b t)) : mz_Ed (mz_X0 L xs) d 470 [.ref 232, .int v1, .int v2] (mz_k S R N b t) Q :=
  by
  refine g_in mzq_470 (Nat.le_of_ble_eq_true rfl) (Nat.le_of_ble_eq_true rfl) (Nat.le_trans (Nat.le_of_ble_eq_true rfl) hd) ?_
  refine g_weak ?_ (cg_470_0 (d := d - 1) (by omega) hS hR v1 v2 N (C0 := fun z => Q (.inl (some (.int (mz_b01 z)))) (mz_k S R N b t)) (fun _ h => h) hp hq)
  exact ⟨rfl, rfl, rfl, trivial⟩
/-! 469 KeptHouseModel.isConflict (II)Z -/
theorem ms_469_0 : mz_sf mk_469 0 = mk_469 := mz_sf_zero _
theorem ms_469_32 : mz_sf mk_469 32 = mt_469_32 := mz_sf_add ms_469_0 (t := 32) rfl rfl
theorem ms_469_55 : mz_sf mk_469 55 = mt_469_55 := mz_sf_add ms_469_32 (t := 23) rfl rfl
theorem ms_469_59 : mz_sf mk_469 59 = mt_469_59 := mz_sf_add ms_469_55 (t := 4) rfl rfl
theorem ms_469_60 : mz_sf mk_469 60 = mt_469_60 := mz_sf_add ms_469_59 (t := 1) rfl rfl
set_option maxRecDepth 100000 in
theorem mzq_469 : mz_PG0 469 = some (12, ⟨"KeptHouseModel", "isConflict", "(II)Z"⟩, prog_14_method_26_code, 3, some .boolean, [], mk_469, []) := rfl
theorem cg_469_0 (hd : 1 ≤ d) (hS : mz_extR S 342) (hR : mz_rok R 342)  (v1 : Int32) (v2 : Int32) (N : mz_N) {C0 : (Bool) → Prop} (hr : ∀ (w : Bool), C0 w → Q (.inl (some (.int (mz_b01 w)))) (mz_k S R N b t)) (hp : cp_469_0 v1 v2 N) (hC : C0 (cf_469_0 v1 v2 N)) : mz_G (d, mz_X0 L xs, some .boolean, [], mk_469, 3, Q) 0 mk_469 [(0, .ref 232), (1, .int v1), (2, .int v2)] [] true (mz_k S R N b t) := by
  unfold cf_469_0 at hC
  unfold cp_469_0 at hp
  refine g_aload_n rfl (g_iload_n rfl (g_iload_n rfl ?_))
  obtain ⟨h1, hp⟩ := hp
  refine g_v3v (Nat.le_of_ble_eq_true rfl) (mz_at hS (Nat.le_of_ble_eq_true rfl) mzcS_232) (fun _ hq => cs_470 (Nat.le_trans (Nat.le_of_ble_eq_true rfl) hd) (hS.le (Nat.le_of_ble_eq_true rfl)) (hR.le (Nat.le_of_ble_eq_true rfl))  v1 v2 N h1 hq) ?_
  refine g_zeq (tg := 59) rfl ms_469_59 hC (fun h2 hC => ?_) (fun h2 hC => ?_)
  · have hp := hp.1 h2
    refine g_aload_n rfl (g_getR (mz_at hS (Nat.le_of_ble_eq_true rfl) mzcS_232) mzcf_12_3 (mz_rb hR (Nat.le_of_ble_eq_true rfl) rfl mzcR_232_3) (g_iload_n rfl ?_))
    obtain ⟨h3, hp⟩ := hp
    refine g_iald hS.1 (mz_at hS (Nat.le_of_ble_eq_true rfl) mzcS_233) h3 (g_aload_n rfl (g_getR (mz_at hS (Nat.le_of_ble_eq_true rfl) mzcS_232) mzcf_12_3 (mz_rb hR (Nat.le_of_ble_eq_true rfl) rfl mzcR_232_3) (g_sipush mzs_550 (g_iconst mzi_4 (g_iload_n rfl (g_iadd (g_imul ?_)))))))
    refine g_iload_n rfl (g_iadd ?_)
    obtain ⟨h4, hp⟩ := hp
    refine g_iald hS.1 (mz_at hS (Nat.le_of_ble_eq_true rfl) mzcS_233) h4 ?_
    refine g_iceq (tg := 59) rfl ms_469_59 hC (fun h5 hC => ?_) (fun h5 hC => ?_)
    · have hp := hp.1 h5
      refine g_iconst mzi_0 ?_
      exact g_zret (z := false) rfl (hr _ hC)
    · have hp := hp.2 h5
      refine g_aload_n rfl (g_getR (mz_at hS (Nat.le_of_ble_eq_true rfl) mzcS_232) mzcf_12_3 (mz_rb hR (Nat.le_of_ble_eq_true rfl) rfl mzcR_232_3) (g_iload_n rfl ?_))
      obtain ⟨h6, hp⟩ := hp
      refine g_iald hS.1 (mz_at hS (Nat.le_of_ble_eq_true rfl) mzcS_233) h6 (g_aload_n rfl (g_getR (mz_at hS (Nat.le_of_ble_eq_true rfl) mzcS_232) mzcf_12_3 (mz_rb hR (Nat.le_of_ble_eq_true rfl) rfl mzcR_232_3) (g_sipush mzs_550 (g_iconst mzi_1 (g_iload_n rfl (g_iadd (g_imul ?_)))))))
      refine g_iload_n rfl (g_iadd ?_)
      have h7 := hp
      refine g_iald hS.1 (mz_at hS (Nat.le_of_ble_eq_true rfl) mzcS_233) h7 ?_
      refine g_iceq (tg := 59) rfl ms_469_59 hC (fun h8 hC => ?_) (fun h8 hC => ?_)
      · refine g_iconst mzi_0 ?_
        exact g_zret (z := false) rfl (hr _ hC)
      · refine g_iconst mzi_1 (g_goto (tg := 60) rfl ms_469_60 ?_)
        exact g_zret (z := true) rfl (hr _ hC)
  · have hp := hp.2 h2
    refine g_iconst mzi_0 ?_
    exact g_zret (z := false) rfl (hr _ hC)
theorem cs_469 (hd : 2 ≤ d) (hS : mz_extR S 342) (hR : mz_rok R 342)  (v1 : Int32) (v2 : Int32) (N : mz_N) (hp : cp_469_0 v1 v2 N) (hq : Q (.inl (some (.int (mz_b01 (cf_469_0 v1 v2 N))))) (mz_k S R N b t)) : mz_Ed (mz_X0 L xs) d 469 [.ref 232, .int v1, .int v2] (mz_k S R N b t) Q :=
  by
  refine g_in mzq_469 (Nat.le_of_ble_eq_true rfl) (Nat.le_of_ble_eq_true rfl) (Nat.le_trans (Nat.le_of_ble_eq_true rfl) hd) ?_
  refine g_weak ?_ (cg_469_0 (d := d - 1) (by omega) hS hR v1 v2 N (C0 := fun z => Q (.inl (some (.int (mz_b01 z)))) (mz_k S R N b t)) (fun _ h => h) hp hq)
  exact ⟨rfl, rfl, rfl, trivial⟩
/-! 468 KeptHouseModel.conflicts (I)I -/
theorem ms_468_0 : mz_sf mk_468 0 = mk_468 := mz_sf_zero _
theorem ms_468_4 : mz_sf mk_468 4 = mt_468_4 := mz_sf_add ms_468_0 (t := 4) rfl rfl
theorem ms_468_25 : mz_sf mk_468 25 = mt_468_25 := mz_sf_add ms_468_4 (t := 21) rfl rfl
theorem ms_468_26 : mz_sf mk_468 26 = mt_468_26 := mz_sf_add ms_468_25 (t := 1) rfl rfl
theorem ms_468_34 : mz_sf mk_468 34 = mt_468_34 := mz_sf_add ms_468_26 (t := 8) rfl rfl
set_option maxRecDepth 100000 in
theorem mzq_468 : mz_PG0 468 = some (12, ⟨"KeptHouseModel", "conflicts", "(I)I"⟩, prog_14_method_27_code, 4, some .int, [], mk_468, []) := rfl
theorem cg_468_26 (hd : 2 ≤ d) (hS : mz_extR S 342) (hR : mz_rok R 342)  (s0 : Int32) (s1 : Bool) (v1 : Int32) (v3 : Int32) (N : mz_N) {C0 : (Int32) → Prop} (hr : ∀ (w : Int32), C0 w → Q (.inl (some (.int w))) (mz_k S R N b t)) {C1 : ((Int32 × Int32) ⊕ (Int32)) → Prop} (hc1 : ∀ s2, C1 (.inl s2) → mz_G (d, mz_X0 L xs, some .int, [], mk_468, 4, Q) 4 mt_468_4 [(0, .ref 232), (1, .int v1), (2, .int s2.1), (3, .int s2.2)] [] false (mz_k S R N b t)) (hx1 : ∀ z, C1 (.inr z) → C0 z) (hp : cp_468_26 s0 s1 v1 v3 N) (hC : C1 (cf_468_26 s0 s1 v1 v3 N)) : mz_G (d, mz_X0 L xs, some .int, [], mk_468, 4, Q) 26 mt_468_26 [(0, .ref 232), (1, .int v1), (3, .int v3)] [.int (mz_b01 s1), .int s0] false (mz_k S R N b t) := by
  unfold cf_468_26 at hC
  unfold cp_468_26 at hp
  refine g_iadd (g_istore_n (Nat.le_of_ble_eq_true rfl) rfl (g_iinc rfl mzi_1 (Nat.le_of_ble_eq_true rfl) rfl (g_goto (tg := 4) rfl ms_468_4 ?_)))
  refine g_weak ?_ (g_cl (hc1 ((s0 + (mz_b01 s1)), (v3 + 1)) hC))
  exact ⟨rfl, rfl, rfl, rfl, trivial⟩
theorem cb_468_4 (hd : 2 ≤ d) (hS : mz_extR S 342) (hR : mz_rok R 342)  (v1 : Int32) (N : mz_N) (s : Int32 × Int32) {C0 : (Int32) → Prop} (hr : ∀ (w : Int32), C0 w → Q (.inl (some (.int w))) (mz_k S R N b t)) {C1 : ((Int32 × Int32) ⊕ (Int32)) → Prop} (hc1 : ∀ s2, C1 (.inl s2) → mz_G (d, mz_X0 L xs, some .int, [], mk_468, 4, Q) 4 mt_468_4 [(0, .ref 232), (1, .int v1), (2, .int s2.1), (3, .int s2.2)] [] false (mz_k S R N b t)) (hx1 : ∀ z, C1 (.inr z) → C0 z) (hp : cd_468_4 v1 N s) (hC : C1 (cq_468_4 v1 N s)) : mz_G (d, mz_X0 L xs, some .int, [], mk_468, 4, Q) 4 mt_468_4 [(0, .ref 232), (1, .int v1), (2, .int s.1), (3, .int s.2)] [] false (mz_k S R N b t) := by
  unfold cq_468_4 at hC
  unfold cd_468_4 at hp
  refine g_iload_n rfl (g_sipush mzs_550 ?_)
  refine g_icge (tg := 34) rfl ms_468_34 hC (fun h1 hC => ?_) (fun h1 hC => ?_)
  · have hp := hp.1 h1
    refine g_iload_n rfl (g_aload_n rfl (g_iload_n rfl (g_iload_n rfl ?_)))
    obtain ⟨h2, hp⟩ := hp
    refine g_v3v (Nat.le_of_ble_eq_true rfl) (mz_at hS (Nat.le_of_ble_eq_true rfl) mzcS_232) (fun _ hq => cs_469 (Nat.le_trans (Nat.le_of_ble_eq_true rfl) hd) (hS.le (Nat.le_of_ble_eq_true rfl)) (hR.le (Nat.le_of_ble_eq_true rfl))  v1 s.2 N h2 hq) ?_
    refine g_zeq (tg := 25) rfl ms_468_25 hC (fun h3 hC => ?_) (fun h3 hC => ?_)
    · have hp := hp.1 h3
      refine g_iconst mzi_1 (g_goto (tg := 26) rfl ms_468_26 ?_)
      refine g_weak ?_ (g_cl (cg_468_26 hd hS hR s.1 true v1 s.2 N hr hc1 hx1 hp hC))
      exact ⟨rfl, rfl, rfl, trivial⟩
    · have hp := hp.2 h3
      refine g_iconst mzi_0 ?_
      refine g_weak ?_ (g_cl (cg_468_26 hd hS hR s.1 false v1 s.2 N hr hc1 hx1 hp hC))
      exact ⟨rfl, rfl, rfl, trivial⟩
  · have hp := hp.2 h1
    refine g_iload_n rfl ?_
    exact g_iret rfl (hr _ (hx1 _ hC))
theorem cg_468_4 (hd : 2 ≤ d) (hS : mz_extR S 342) (hR : mz_rok R 342)  (v1 : Int32) (v2 : Int32) (v3 : Int32) (N : mz_N) {C0 : (Int32) → Prop} (hr : ∀ (w : Int32), C0 w → Q (.inl (some (.int w))) (mz_k S R N b t)) (hp : cp_468_4 v1 v2 v3 N) (hC : C0 (cf_468_4 v1 v2 v3 N)) : mz_G (d, mz_X0 L xs, some .int, [], mk_468, 4, Q) 4 mt_468_4 [(0, .ref 232), (1, .int v1), (2, .int v2), (3, .int v3)] [] false (mz_k S R N b t) := by
  obtain ⟨n, hn⟩ := hp
  exact g_loop (G := fun s => mz_G (d, mz_X0 L xs, some .int, [], mk_468, 4, Q) 4 mt_468_4 [(0, .ref 232), (1, .int v1), (2, .int s.1), (3, .int s.2)] [] false (mz_k S R N b t)) (C := C0) (fun C2 hc hx s hP hC => cb_468_4 hd hS hR v1 N s hr hc hx hP hC) n (v2, v3) hn hC
theorem cg_468_0 (hd : 2 ≤ d) (hS : mz_extR S 342) (hR : mz_rok R 342)  (v1 : Int32) (N : mz_N) {C0 : (Int32) → Prop} (hr : ∀ (w : Int32), C0 w → Q (.inl (some (.int w))) (mz_k S R N b t)) (hp : cp_468_0 v1 N) (hC : C0 (cf_468_0 v1 N)) : mz_G (d, mz_X0 L xs, some .int, [], mk_468, 4, Q) 0 mk_468 [(0, .ref 232), (1, .int v1)] [] true (mz_k S R N b t) := by
  unfold cf_468_0 at hC
  unfold cp_468_0 at hp
  refine g_iconst mzi_0 (g_istore_n (Nat.le_of_ble_eq_true rfl) rfl (g_iconst mzi_0 (g_istore_n (Nat.le_of_ble_eq_true rfl) rfl ?_)))
  refine g_weak ?_ (g_cl (cg_468_4 hd hS hR v1 0 0 N hr hp hC))
  exact ⟨rfl, rfl, rfl, rfl, trivial⟩
theorem cs_468 (hd : 3 ≤ d) (hS : mz_extR S 342) (hR : mz_rok R 342)  (v1 : Int32) (N : mz_N) (hp : cp_468_0 v1 N) (hq : Q (.inl (some (.int (cf_468_0 v1 N)))) (mz_k S R N b t)) : mz_Ed (mz_X0 L xs) d 468 [.ref 232, .int v1] (mz_k S R N b t) Q :=
  by
  refine g_in mzq_468 (Nat.le_of_ble_eq_true rfl) (Nat.le_of_ble_eq_true rfl) (Nat.le_trans (Nat.le_of_ble_eq_true rfl) hd) ?_
  refine g_weak ?_ (cg_468_0 (d := d - 1) (by omega) hS hR v1 N (C0 := fun z => Q (.inl (some (.int z))) (mz_k S R N b t)) (fun _ h => h) hp hq)
  exact ⟨rfl, rfl, trivial⟩
/-! 471 KeptHouseModel.beginGroup ()V -/
theorem ms_471_0 : mz_sf mk_471 0 = mk_471 := mz_sf_zero _
set_option maxRecDepth 100000 in
theorem mzq_471 : mz_PG0 471 = some (12, ⟨"KeptHouseModel", "beginGroup", "()V"⟩, prog_14_method_162_code, 1, none, [], mk_471, []) := rfl
theorem cg_471_0 (hd : 0 ≤ d) (hS : mz_extR S 342) (hR : mz_rok R 342)  (N : mz_N) {C0 : (mz_N) → Prop} (hr : ∀ (N2 : mz_N), C0 N2 → Q (.inl none) (mz_k S R N2 b t)) (hp : cp_471_0 N) (hC : C0 (cf_471_0 N)) : mz_G (d, mz_X0 L xs, none, [], mk_471, 1, Q) 0 mk_471 [(0, .ref 232)] [] true (mz_k S R N b t) := by
  unfold cf_471_0 at hC
  unfold cp_471_0 at hp
  refine g_aload_n rfl (g_iconst mzi_0 (g_putI (mz_at hS (Nat.le_of_ble_eq_true rfl) mzcS_232) mzcf_12_139 ?_))
  exact g_vret rfl (hr _ hC)
theorem cs_471 (hd : 1 ≤ d) (hS : mz_extR S 342) (hR : mz_rok R 342)  (N : mz_N) (hp : cp_471_0 N) (hq : Q (.inl none) (mz_k S R (cf_471_0 N) b t)) : mz_Ed (mz_X0 L xs) d 471 [.ref 232] (mz_k S R N b t) Q :=
  by
  refine g_in mzq_471 (Nat.le_of_ble_eq_true rfl) (Nat.le_of_ble_eq_true rfl) (Nat.le_trans (Nat.le_of_ble_eq_true rfl) hd) ?_
  refine g_weak ?_ (cg_471_0 (d := d - 1) (by omega) hS hR N (C0 := fun z => Q (.inl none) (mz_k S R z b t)) (fun _ h => h) hp hq)
  exact ⟨rfl, trivial⟩
/-! 473 KeptHouseModel.keyOf (II)I -/
theorem ms_473_0 : mz_sf mk_473 0 = mk_473 := mz_sf_zero _
theorem ms_473_11 : mz_sf mk_473 11 = mt_473_11 := mz_sf_add ms_473_0 (t := 11) rfl rfl
theorem ms_473_13 : mz_sf mk_473 13 = mt_473_13 := mz_sf_add ms_473_11 (t := 2) rfl rfl
theorem ms_473_34 : mz_sf mk_473 34 = mt_473_34 := mz_sf_add ms_473_13 (t := 21) rfl rfl
theorem ms_473_35 : mz_sf mk_473 35 = mt_473_35 := mz_sf_add ms_473_34 (t := 1) rfl rfl
set_option maxRecDepth 100000 in
theorem mzq_473 : mz_PG0 473 = some (12, ⟨"KeptHouseModel", "keyOf", "(II)I"⟩, prog_14_method_160_code, 3, some .int, [], mk_473, []) := rfl
theorem cg_473_0 (hd : 1 ≤ d) (hS : mz_extR S 342) (hR : mz_rok R 342)  (v0 : Int32) (v1 : Int32) {C0 : (Int32) → Prop} (hr : ∀ (w : Int32), C0 w → Q (.inl (some (.int w))) (mz_k S R N b t)) (hp : cp_473_0 v0 v1) (hC : C0 (cf_473_0 v0 v1)) : mz_G (d, mz_X0 L xs, some .int, [], mk_473, 3, Q) 0 mk_473 [(0, .int v0), (1, .int v1)] [] true (mz_k S R N b t) := by
  unfold cf_473_0 at hC
  unfold cp_473_0 at hp
  refine g_iload_n rfl (g_iconst mzi_1 ?_)
  refine g_iclt (tg := 11) rfl ms_473_11 hC (fun h1 hC => ?_) (fun h1 hC => ?_)
  · refine g_iconst mzi_m1 ?_
    exact g_iret rfl (hr _ hC)
  · refine g_iload_n rfl (g_bipush mzb_15 ?_)
    refine g_icle (tg := 13) rfl ms_473_13 hC (fun h2 hC => ?_) (fun h2 hC => ?_)
    · refine g_iconst mzi_m1 ?_
      exact g_iret rfl (hr _ hC)
    · refine g_iload_n rfl ?_
      refine g_s1v (Nat.le_of_ble_eq_true rfl) (fun _ hq => cs_420 (Nat.le_trans (Nat.le_of_ble_eq_true rfl) hd) (hS.le (Nat.le_of_ble_eq_true rfl)) (hR.le (Nat.le_of_ble_eq_true rfl))  v0 trivial hq) (g_iload_n rfl (g_iadd (g_istore_n (Nat.le_of_ble_eq_true rfl) rfl (g_iload_n rfl (g_iload_n rfl (g_iconst mzi_1 (g_iadd ?_)))))))
      refine g_s1v (Nat.le_of_ble_eq_true rfl) (fun _ hq => cs_420 (Nat.le_trans (Nat.le_of_ble_eq_true rfl) hd) (hS.le (Nat.le_of_ble_eq_true rfl)) (hR.le (Nat.le_of_ble_eq_true rfl))  (v0 + 1) trivial hq) ?_
      refine g_icge (tg := 34) rfl ms_473_34 hC (fun h5 hC => ?_) (fun h5 hC => ?_)
      · refine g_iload_n rfl (g_goto (tg := 35) rfl ms_473_35 ?_)
        exact g_iret rfl (hr _ hC)
      · refine g_iconst mzi_m1 ?_
        exact g_iret rfl (hr _ hC)
theorem cs_473 (hd : 2 ≤ d) (hS : mz_extR S 342) (hR : mz_rok R 342)  (v0 : Int32) (v1 : Int32) (hp : cp_473_0 v0 v1) (hq : Q (.inl (some (.int (cf_473_0 v0 v1)))) (mz_k S R N b t)) : mz_Ed (mz_X0 L xs) d 473 [.int v0, .int v1] (mz_k S R N b t) Q :=
  by
  refine g_in mzq_473 (Nat.le_of_ble_eq_true rfl) (Nat.le_of_ble_eq_true rfl) (Nat.le_trans (Nat.le_of_ble_eq_true rfl) hd) ?_
  refine g_weak ?_ (cg_473_0 (d := d - 1) (by omega) hS hR v0 v1 (C0 := fun z => Q (.inl (some (.int z))) (mz_k S R N b t)) (fun _ h => h) hp hq)
  exact ⟨rfl, rfl, trivial⟩
/-! 472 KeptHouseModel.addKey (II)V -/
theorem ms_472_0 : mz_sf mk_472 0 = mk_472 := mz_sf_zero _
theorem ms_472_24 : mz_sf mk_472 24 = mt_472_24 := mz_sf_add ms_472_0 (t := 24) rfl rfl
set_option maxRecDepth 100000 in
theorem mzq_472 : mz_PG0 472 = some (12, ⟨"KeptHouseModel", "addKey", "(II)V"⟩, prog_14_method_163_code, 3, none, [], mk_472, []) := rfl
theorem cg_472_24 (hd : 2 ≤ d) (hS : mz_extR S 342) (hR : mz_rok R 342)  (N : mz_N) {C0 : (mz_N) → Prop} (hr : ∀ (N2 : mz_N), C0 N2 → Q (.inl none) (mz_k S R N2 b t)) (hp : cp_472_24 N) (hC : C0 (cf_472_24 N)) : mz_G (d, mz_X0 L xs, none, [], mk_472, 3, Q) 24 mt_472_24 [] [] false (mz_k S R N b t) := by
  unfold cf_472_24 at hC
  unfold cp_472_24 at hp
  exact g_vret rfl (hr _ hC)
theorem cg_472_0 (hd : 2 ≤ d) (hS : mz_extR S 342) (hR : mz_rok R 342)  (v1 : Int32) (v2 : Int32) (N : mz_N) {C0 : (mz_N) → Prop} (hr : ∀ (N2 : mz_N), C0 N2 → Q (.inl none) (mz_k S R N2 b t)) (hp : cp_472_0 v1 v2 N) (hC : C0 (cf_472_0 v1 v2 N)) : mz_G (d, mz_X0 L xs, none, [], mk_472, 3, Q) 0 mk_472 [(0, .ref 232), (1, .int v1), (2, .int v2)] [] true (mz_k S R N b t) := by
  unfold cf_472_0 at hC
  unfold cp_472_0 at hp
  refine g_aload_n rfl (g_getR (mz_at hS (Nat.le_of_ble_eq_true rfl) mzcS_232) mzcf_12_138 (mz_rb hR (Nat.le_of_ble_eq_true rfl) rfl mzcR_232_138) (g_aload_n rfl (g_getI (mz_at hS (Nat.le_of_ble_eq_true rfl) mzcS_232) mzcf_12_139 (g_iload_n rfl (g_iload_n rfl ?_)))))
  refine g_s2v (Nat.le_of_ble_eq_true rfl) (fun _ hq => cs_473 (Nat.le_trans (Nat.le_of_ble_eq_true rfl) hd) (hS.le (Nat.le_of_ble_eq_true rfl)) (hR.le (Nat.le_of_ble_eq_true rfl))  v1 v2 trivial hq) ?_
  obtain ⟨h2, hp⟩ := hp
  refine g_iast (mz_at hS (Nat.le_of_ble_eq_true rfl) mzcS_333) h2 (g_aload_n rfl (g_dup rfl (g_getI (mz_at hS (Nat.le_of_ble_eq_true rfl) mzcS_232) mzcf_12_139 (g_iconst mzi_1 (g_iadd (g_putI (mz_at hS (Nat.le_of_ble_eq_true rfl) mzcS_232) mzcf_12_139 ?_))))))
  refine g_weak ?_ (g_cl (cg_472_24 hd hS hR (mz_pI (mz_wI N 333 (N.1 232 139) (cf_473_0 v1 v2)) 232 139 (((mz_wI N 333 (N.1 232 139) (cf_473_0 v1 v2)).1 232 139) + 1)) hr hp hC))
  exact trivial
theorem cs_472 (hd : 3 ≤ d) (hS : mz_extR S 342) (hR : mz_rok R 342)  (v1 : Int32) (v2 : Int32) (N : mz_N) (hp : cp_472_0 v1 v2 N) (hq : Q (.inl none) (mz_k S R (cf_472_0 v1 v2 N) b t)) : mz_Ed (mz_X0 L xs) d 472 [.ref 232, .int v1, .int v2] (mz_k S R N b t) Q :=
  by
  refine g_in mzq_472 (Nat.le_of_ble_eq_true rfl) (Nat.le_of_ble_eq_true rfl) (Nat.le_trans (Nat.le_of_ble_eq_true rfl) hd) ?_
  refine g_weak ?_ (cg_472_0 (d := d - 1) (by omega) hS hR v1 v2 N (C0 := fun z => Q (.inl none) (mz_k S R z b t)) (fun _ h => h) hp hq)
  exact ⟨rfl, rfl, rfl, trivial⟩
/-! 475 KeptHouseModel.snapshot ([Z[B)Z -/
theorem ms_475_0 : mz_sf mk_475 0 = mk_475 := mz_sf_zero _
theorem ms_475_5 : mz_sf mk_475 5 = mt_475_5 := mz_sf_add ms_475_0 (t := 5) rfl rfl
theorem ms_475_25 : mz_sf mk_475 25 = mt_475_25 := mz_sf_add ms_475_5 (t := 20) rfl rfl
theorem ms_475_26 : mz_sf mk_475 26 = mt_475_26 := mz_sf_add ms_475_25 (t := 1) rfl rfl
theorem ms_475_33 : mz_sf mk_475 33 = mt_475_33 := mz_sf_add ms_475_26 (t := 7) rfl rfl
theorem ms_475_50 : mz_sf mk_475 50 = mt_475_50 := mz_sf_add ms_475_33 (t := 17) rfl rfl
theorem ms_475_83 : mz_sf mk_475 83 = mt_475_83 := mz_sf_add ms_475_50 (t := 33) rfl rfl
theorem ms_475_96 : mz_sf mk_475 96 = mt_475_96 := mz_sf_add ms_475_83 (t := 13) rfl rfl
theorem ms_475_98 : mz_sf mk_475 98 = mt_475_98 := mz_sf_add ms_475_96 (t := 2) rfl rfl
theorem ms_475_106 : mz_sf mk_475 106 = mt_475_106 := mz_sf_add ms_475_98 (t := 8) rfl rfl
theorem ms_475_118 : mz_sf mk_475 118 = mt_475_118 := mz_sf_add ms_475_106 (t := 12) rfl rfl
theorem ms_475_139 : mz_sf mk_475 139 = mt_475_139 := mz_sf_add ms_475_118 (t := 21) rfl rfl
theorem ms_475_163 : mz_sf mk_475 163 = mt_475_163 := mz_sf_add ms_475_139 (t := 24) rfl rfl
theorem ms_475_169 : mz_sf mk_475 169 = mt_475_169 := mz_sf_add ms_475_163 (t := 6) rfl rfl
theorem ms_475_200 : mz_sf mk_475 200 = mt_475_200 := mz_sf_add ms_475_169 (t := 31) rfl rfl
theorem ms_475_201 : mz_sf mk_475 201 = mt_475_201 := mz_sf_add ms_475_200 (t := 1) rfl rfl
theorem ms_475_211 : mz_sf mk_475 211 = mt_475_211 := mz_sf_add ms_475_201 (t := 10) rfl rfl
theorem ms_475_217 : mz_sf mk_475 217 = mt_475_217 := mz_sf_add ms_475_211 (t := 6) rfl rfl
theorem ms_475_233 : mz_sf mk_475 233 = mt_475_233 := mz_sf_add ms_475_217 (t := 16) rfl rfl
set_option maxRecDepth 100000 in
theorem mzq_475 : mz_PG0 475 = some (12, ⟨"KeptHouseModel", "snapshot", "([Z[B)Z"⟩, prog_14_method_173_code, 10, some .boolean, [], mk_475, []) := rfl
theorem cg_475_26 (hd : 3 ≤ d) (hS : mz_extR S 342) (hR : mz_rok R 342) (a1 : Nat) (a2 : Nat) (hs1 : S[a1]? = some (3, 135, [])) (hs2 : S[a2]? = some (2, 3780, [])) (s0 : Int32) (v4 : Int32) (N : mz_N) {C0 : (Bool × mz_N) → Prop} (hr : ∀ (w : Bool) (N2 : mz_N), C0 (w, N2) → Q (.inl (some (.int (mz_b01 w)))) (mz_k S R N2 b t)) {C1 : ((Int32 × Int32) ⊕ (Bool × mz_N)) → Prop} (hc1 : ∀ s2, C1 (.inl s2) → mz_G (d, mz_X0 L xs, some .boolean, [], mk_475, 10, Q) 5 mt_475_5 [(0, .ref 232), (1, .ref a1), (2, .ref a2), (3, .int s2.1), (4, .int s2.2)] [] false (mz_k S R N b t)) (hx1 : ∀ z, C1 (.inr z) → C0 z) (hp : cp_475_26 a1 a2 s0 v4 N) (hC : C1 (cf_475_26 a1 a2 s0 v4 N)) : mz_G (d, mz_X0 L xs, some .boolean, [], mk_475, 10, Q) 26 mt_475_26 [(0, .ref 232), (1, .ref a1), (2, .ref a2), (4, .int v4)] [.int s0] false (mz_k S R N b t) := by
  unfold cf_475_26 at hC
  unfold cp_475_26 at hp
  refine g_istore_n (Nat.le_of_ble_eq_true rfl) rfl (g_iinc rfl mzi_1 (Nat.le_of_ble_eq_true rfl) rfl (g_goto (tg := 5) rfl ms_475_5 ?_))
  refine g_weak ?_ (g_cl (hc1 (s0, (v4 + 1)) hC))
  exact ⟨rfl, rfl, rfl, rfl, rfl, trivial⟩
theorem cg_475_98 (hd : 3 ≤ d) (hS : mz_extR S 342) (hR : mz_rok R 342) (a1 : Nat) (a2 : Nat) (hs1 : S[a1]? = some (3, 135, [])) (hs2 : S[a2]? = some (2, 3780, [])) (s0 : Int64) (v3 : Int32) (v4 : Int32) (v7 : Int32) (N : mz_N) {C0 : (Bool × mz_N) → Prop} (hr : ∀ (w : Bool) (N2 : mz_N), C0 (w, N2) → Q (.inl (some (.int (mz_b01 w)))) (mz_k S R N2 b t)) {C1 : ((Int64 × Int32) ⊕ (Bool × mz_N)) → Prop} (hc1 : ∀ s2, C1 (.inl s2) → mz_G (d, mz_X0 L xs, some .boolean, [], mk_475, 10, Q) 50 mt_475_50 [(0, .ref 232), (1, .ref a1), (2, .ref a2), (3, .int v3), (4, .int v4), (5, .long s2.1), (7, .int s2.2)] [] false (mz_k S R N b t)) (hx1 : ∀ z, C1 (.inr z) → C0 z) (hp : cp_475_98 a1 a2 s0 v3 v4 v7 N) (hC : C1 (cf_475_98 a1 a2 s0 v3 v4 v7 N)) : mz_G (d, mz_X0 L xs, some .boolean, [], mk_475, 10, Q) 98 mt_475_98 [(0, .ref 232), (1, .ref a1), (2, .ref a2), (3, .int v3), (4, .int v4), (7, .int v7)] [.long s0] false (mz_k S R N b t) := by
  unfold cf_475_98 at hC
  unfold cp_475_98 at hp
  refine g_lstore (Nat.le_of_ble_eq_true rfl) rfl rfl (g_iinc rfl mzi_1 (Nat.le_of_ble_eq_true rfl) rfl (g_goto (tg := 50) rfl ms_475_50 ?_))
  refine g_weak ?_ (g_cl (hc1 (s0, (v7 + 1)) hC))
  exact ⟨rfl, rfl, rfl, rfl, rfl, rfl, rfl, trivial⟩
theorem cg_475_211 (hd : 3 ≤ d) (hS : mz_extR S 342) (hR : mz_rok R 342) (a1 : Nat) (a2 : Nat) (hs1 : S[a1]? = some (3, 135, [])) (hs2 : S[a2]? = some (2, 3780, [])) (v3 : Int32) (v4 : Int32) (v5 : Int64) (v7 : Int32) (v8 : Int32) (N : mz_N) {C0 : (Bool × mz_N) → Prop} (hr : ∀ (w : Bool) (N2 : mz_N), C0 (w, N2) → Q (.inl (some (.int (mz_b01 w)))) (mz_k S R N2 b t)) {C1 : ((Int32 × Int32 × mz_N) ⊕ (Bool × mz_N)) → Prop} (hc1 : ∀ s2, C1 (.inl s2) → mz_G (d, mz_X0 L xs, some .boolean, [], mk_475, 10, Q) 118 mt_475_118 [(0, .ref 232), (1, .ref a1), (2, .ref a2), (3, .int v3), (4, .int v4), (5, .long v5), (7, .int s2.1), (8, .int s2.2.1)] [] false (mz_k S R s2.2.2 b t)) (hx1 : ∀ z, C1 (.inr z) → C0 z) (hp : cp_475_211 a1 a2 v3 v4 v5 v7 v8 N) (hC : C1 (cf_475_211 a1 a2 v3 v4 v5 v7 v8 N)) : mz_G (d, mz_X0 L xs, some .boolean, [], mk_475, 10, Q) 211 mt_475_211 [(0, .ref 232), (1, .ref a1), (2, .ref a2), (3, .int v3), (4, .int v4), (5, .long v5), (7, .int v7), (8, .int v8)] [] false (mz_k S R N b t) := by
  unfold cf_475_211 at hC
  unfold cp_475_211 at hp
  refine g_iinc rfl mzi_1 (Nat.le_of_ble_eq_true rfl) rfl (g_goto (tg := 118) rfl ms_475_118 ?_)
  refine g_weak ?_ (g_cl (hc1 (v7, (v8 + 1), N) hC))
  exact ⟨rfl, rfl, rfl, rfl, rfl, rfl, rfl, rfl, trivial⟩
theorem cg_475_201 (hd : 3 ≤ d) (hS : mz_extR S 342) (hR : mz_rok R 342) (a1 : Nat) (a2 : Nat) (hs1 : S[a1]? = some (3, 135, [])) (hs2 : S[a2]? = some (2, 3780, [])) (s1 : Int32) (s2 : Int32) (s3 : Int32) (s4 : Int32) (s5 : Bool) (v3 : Int32) (v4 : Int32) (v5 : Int64) (v7 : Int32) (v8 : Int32) (N : mz_N) {C0 : (Bool × mz_N) → Prop} (hr : ∀ (w : Bool) (N2 : mz_N), C0 (w, N2) → Q (.inl (some (.int (mz_b01 w)))) (mz_k S R N2 b t)) {C1 : ((Int32 × Int32 × mz_N) ⊕ (Bool × mz_N)) → Prop} (hc1 : ∀ s2, C1 (.inl s2) → mz_G (d, mz_X0 L xs, some .boolean, [], mk_475, 10, Q) 118 mt_475_118 [(0, .ref 232), (1, .ref a1), (2, .ref a2), (3, .int v3), (4, .int v4), (5, .long v5), (7, .int s2.1), (8, .int s2.2.1)] [] false (mz_k S R s2.2.2 b t)) (hx1 : ∀ z, C1 (.inr z) → C0 z) (hp : cp_475_201 a1 a2 s1 s2 s3 s4 s5 v3 v4 v5 v7 v8 N) (hC : C1 (cf_475_201 a1 a2 s1 s2 s3 s4 s5 v3 v4 v5 v7 v8 N)) : mz_G (d, mz_X0 L xs, some .boolean, [], mk_475, 10, Q) 201 mt_475_201 [(0, .ref 232), (1, .ref a1), (2, .ref a2), (3, .int v3), (4, .int v4), (5, .long v5), (7, .int v7), (8, .int v8)] [.int (mz_b01 s5), .int s4, .int s3, .int s2, .int s1, .ref 232] false (mz_k S R N b t) := by
  unfold cf_475_201 at hC
  unfold cp_475_201 at hp
  refine g_lload rfl ?_
  obtain ⟨h1, hp⟩ := hp
  refine g_v7v (Nat.le_of_ble_eq_true rfl) (mz_at hS (Nat.le_of_ble_eq_true rfl) mzcS_232) (fun _ hq => cs_411 (Nat.le_trans (Nat.le_of_ble_eq_true rfl) hd) (hS.le (Nat.le_of_ble_eq_true rfl)) (hR.le (Nat.le_of_ble_eq_true rfl))  s1 s2 s3 s4 s5 v5 N h1 hq) ?_
  refine g_zne (tg := 211) rfl ms_475_211 hC (fun h2 hC => ?_) (fun h2 hC => ?_)
  · have hp := hp.1 h2
    refine g_weak ?_ (g_cl (cg_475_211 hd hS hR a1 a2 hs1 hs2 v3 v4 v5 v7 v8 ((cf_411_0 s1 s2 s3 s4 s5 v5 N).2) hr hc1 hx1 hp hC))
    exact ⟨rfl, rfl, rfl, rfl, rfl, rfl, rfl, rfl, trivial⟩
  · have hp := hp.2 h2
    refine g_iconst mzi_0 ?_
    exact g_zret (z := false) rfl (hr _ _ (hx1 _ hC))
theorem cb_475_139 (hd : 3 ≤ d) (hS : mz_extR S 342) (hR : mz_rok R 342) (a1 : Nat) (a2 : Nat) (hs1 : S[a1]? = some (3, 135, [])) (hs2 : S[a2]? = some (2, 3780, [])) (v3 : Int32) (v4 : Int32) (v5 : Int64) (v7 : Int32) (v8 : Int32) (s : Int32 × mz_N) {C0 : (Bool × mz_N) → Prop} (hr : ∀ (w : Bool) (N2 : mz_N), C0 (w, N2) → Q (.inl (some (.int (mz_b01 w)))) (mz_k S R N2 b t)) {C1 : ((Int32 × Int32 × mz_N) ⊕ (Bool × mz_N)) → Prop} (hc1 : ∀ s2, C1 (.inl s2) → mz_G (d, mz_X0 L xs, some .boolean, [], mk_475, 10, Q) 118 mt_475_118 [(0, .ref 232), (1, .ref a1), (2, .ref a2), (3, .int v3), (4, .int v4), (5, .long v5), (7, .int s2.1), (8, .int s2.2.1)] [] false (mz_k S R s2.2.2 b t)) (hx1 : ∀ z, C1 (.inr z) → C0 z) {C2 : ((Int32 × mz_N) ⊕ ((Int32 × Int32 × mz_N) ⊕ (Bool × mz_N))) → Prop} (hc2 : ∀ s2, C2 (.inl s2) → mz_G (d, mz_X0 L xs, some .boolean, [], mk_475, 10, Q) 139 mt_475_139 [(0, .ref 232), (1, .ref a1), (2, .ref a2), (3, .int v3), (4, .int v4), (5, .long v5), (7, .int v7), (8, .int v8), (9, .int s2.1)] [] false (mz_k S R s2.2 b t)) (hx2 : ∀ z, C2 (.inr z) → C1 z) (hp : cd_475_139 a1 a2 v3 v4 v5 v7 v8 s) (hC : C2 (cq_475_139 a1 a2 v3 v4 v5 v7 v8 s)) : mz_G (d, mz_X0 L xs, some .boolean, [], mk_475, 10, Q) 139 mt_475_139 [(0, .ref 232), (1, .ref a1), (2, .ref a2), (3, .int v3), (4, .int v4), (5, .long v5), (7, .int v7), (8, .int v8), (9, .int s.1)] [] false (mz_k S R s.2 b t) := by
  unfold cq_475_139 at hC
  unfold cd_475_139 at hp
  refine g_iload rfl (g_bipush mzb_28 ?_)
  refine g_icge (tg := 169) rfl ms_475_169 hC (fun h1 hC => ?_) (fun h1 hC => ?_)
  · have hp := hp.1 h1
    refine g_aload_n rfl (g_getR (mz_at hS (Nat.le_of_ble_eq_true rfl) mzcS_232) mzcf_12_132 (mz_rb hR (Nat.le_of_ble_eq_true rfl) rfl mzcR_232_132) (g_iload rfl (g_aload_n rfl (g_bipush mzb_28 (g_iload rfl (g_imul (g_iload rfl ?_)))))))
    refine g_iadd ?_
    obtain ⟨h2, hp⟩ := hp
    refine g_bald hs2 h2 ?_
    have h3 := hp
    refine g_bast (mz_at hS (Nat.le_of_ble_eq_true rfl) mzcS_332) h3 (g_iinc rfl mzi_1 (Nat.le_of_ble_eq_true rfl) rfl (g_goto (tg := 139) rfl ms_475_139 ?_))
    refine g_weak ?_ (g_cl (hc2 ((s.1 + 1), mz_wI s.2 332 s.1 (mz_nb (mz_gI s.2 a2 ((28 * v8) + s.1)))) hC))
    exact ⟨rfl, rfl, rfl, rfl, rfl, rfl, rfl, rfl, rfl, trivial⟩
  · have hp := hp.2 h1
    refine g_aload_n rfl (g_iload rfl (g_iload rfl (g_iload rfl ?_)))
    obtain ⟨h4, hp⟩ := hp
    refine g_s1v (Nat.le_of_ble_eq_true rfl) (fun _ hq => cs_419 (Nat.le_trans (Nat.le_of_ble_eq_true rfl) hd) (hS.le (Nat.le_of_ble_eq_true rfl)) (hR.le (Nat.le_of_ble_eq_true rfl))  v8 h4 hq) (g_iload rfl (g_iload rfl ?_))
    obtain ⟨h5, hp⟩ := hp
    refine g_s1v (Nat.le_of_ble_eq_true rfl) (fun _ hq => cs_419 (Nat.le_trans (Nat.le_of_ble_eq_true rfl) hd) (hS.le (Nat.le_of_ble_eq_true rfl)) (hR.le (Nat.le_of_ble_eq_true rfl))  v8 h5 hq) ?_
    refine g_s1v (Nat.le_of_ble_eq_true rfl) (fun _ hq => cs_420 (Nat.le_trans (Nat.le_of_ble_eq_true rfl) hd) (hS.le (Nat.le_of_ble_eq_true rfl)) (hR.le (Nat.le_of_ble_eq_true rfl))  (cf_419_0 v8) trivial hq) (g_isub (g_iload rfl (g_iload_n rfl ?_)))
    refine g_icne (tg := 200) rfl ms_475_200 hC (fun h7 hC => ?_) (fun h7 hC => ?_)
    · have hp := hp.1 h7
      refine g_iconst mzi_1 (g_goto (tg := 201) rfl ms_475_201 ?_)
      refine g_weak ?_ (g_cl (cg_475_201 hd hS hR a1 a2 hs1 hs2 v4 v7 (cf_419_0 v8) (v8 - (cf_420_0 (cf_419_0 v8))) true v3 v4 v5 v7 v8 s.2 hr hc1 hx1 hp (hx2 _ hC)))
      exact ⟨rfl, rfl, rfl, rfl, rfl, rfl, rfl, rfl, trivial⟩
    · have hp := hp.2 h7
      refine g_iconst mzi_0 ?_
      refine g_weak ?_ (g_cl (cg_475_201 hd hS hR a1 a2 hs1 hs2 v4 v7 (cf_419_0 v8) (v8 - (cf_420_0 (cf_419_0 v8))) false v3 v4 v5 v7 v8 s.2 hr hc1 hx1 hp (hx2 _ hC)))
      exact ⟨rfl, rfl, rfl, rfl, rfl, rfl, rfl, rfl, trivial⟩
theorem cg_475_139 (hd : 3 ≤ d) (hS : mz_extR S 342) (hR : mz_rok R 342) (a1 : Nat) (a2 : Nat) (hs1 : S[a1]? = some (3, 135, [])) (hs2 : S[a2]? = some (2, 3780, [])) (v3 : Int32) (v4 : Int32) (v5 : Int64) (v7 : Int32) (v8 : Int32) (v9 : Int32) (N : mz_N) {C0 : (Bool × mz_N) → Prop} (hr : ∀ (w : Bool) (N2 : mz_N), C0 (w, N2) → Q (.inl (some (.int (mz_b01 w)))) (mz_k S R N2 b t)) {C1 : ((Int32 × Int32 × mz_N) ⊕ (Bool × mz_N)) → Prop} (hc1 : ∀ s2, C1 (.inl s2) → mz_G (d, mz_X0 L xs, some .boolean, [], mk_475, 10, Q) 118 mt_475_118 [(0, .ref 232), (1, .ref a1), (2, .ref a2), (3, .int v3), (4, .int v4), (5, .long v5), (7, .int s2.1), (8, .int s2.2.1)] [] false (mz_k S R s2.2.2 b t)) (hx1 : ∀ z, C1 (.inr z) → C0 z) (hp : cp_475_139 a1 a2 v3 v4 v5 v7 v8 v9 N) (hC : C1 (cf_475_139 a1 a2 v3 v4 v5 v7 v8 v9 N)) : mz_G (d, mz_X0 L xs, some .boolean, [], mk_475, 10, Q) 139 mt_475_139 [(0, .ref 232), (1, .ref a1), (2, .ref a2), (3, .int v3), (4, .int v4), (5, .long v5), (7, .int v7), (8, .int v8), (9, .int v9)] [] false (mz_k S R N b t) := by
  obtain ⟨n, hn⟩ := hp
  exact g_loop (G := fun s => mz_G (d, mz_X0 L xs, some .boolean, [], mk_475, 10, Q) 139 mt_475_139 [(0, .ref 232), (1, .ref a1), (2, .ref a2), (3, .int v3), (4, .int v4), (5, .long v5), (7, .int v7), (8, .int v8), (9, .int s.1)] [] false (mz_k S R s.2 b t)) (C := C1) (fun C2 hc hx s hP hC => cb_475_139 hd hS hR a1 a2 hs1 hs2 v3 v4 v5 v7 v8 s hr hc1 hx1 hc hx hP hC) n (v9, N) hn hC
theorem cb_475_118 (hd : 3 ≤ d) (hS : mz_extR S 342) (hR : mz_rok R 342) (a1 : Nat) (a2 : Nat) (hs1 : S[a1]? = some (3, 135, [])) (hs2 : S[a2]? = some (2, 3780, [])) (v3 : Int32) (v4 : Int32) (v5 : Int64) (s : Int32 × Int32 × mz_N) {C0 : (Bool × mz_N) → Prop} (hr : ∀ (w : Bool) (N2 : mz_N), C0 (w, N2) → Q (.inl (some (.int (mz_b01 w)))) (mz_k S R N2 b t)) {C1 : ((Int32 × Int32 × mz_N) ⊕ (Bool × mz_N)) → Prop} (hc1 : ∀ s2, C1 (.inl s2) → mz_G (d, mz_X0 L xs, some .boolean, [], mk_475, 10, Q) 118 mt_475_118 [(0, .ref 232), (1, .ref a1), (2, .ref a2), (3, .int v3), (4, .int v4), (5, .long v5), (7, .int s2.1), (8, .int s2.2.1)] [] false (mz_k S R s2.2.2 b t)) (hx1 : ∀ z, C1 (.inr z) → C0 z) (hp : cd_475_118 a1 a2 v3 v4 v5 s) (hC : C1 (cq_475_118 a1 a2 v3 v4 v5 s)) : mz_G (d, mz_X0 L xs, some .boolean, [], mk_475, 10, Q) 118 mt_475_118 [(0, .ref 232), (1, .ref a1), (2, .ref a2), (3, .int v3), (4, .int v4), (5, .long v5), (7, .int s.1), (8, .int s.2.1)] [] false (mz_k S R s.2.2 b t) := by
  unfold cq_475_118 at hC
  unfold cd_475_118 at hp
  refine g_iload rfl (g_sipush mzs_135 ?_)
  refine g_icge (tg := 217) rfl ms_475_217 hC (fun h1 hC => ?_) (fun h1 hC => ?_)
  · have hp := hp.1 h1
    refine g_aload_n rfl (g_iload rfl ?_)
    obtain ⟨h2, hp⟩ := hp
    obtain ⟨h3, hp⟩ := hp
    refine g_zald hs1 h2 h3 ?_
    refine g_zeq (tg := 211) rfl ms_475_211 hC (fun h4 hC => ?_) (fun h4 hC => ?_)
    · have hp := hp.1 h4
      refine g_iinc rfl mzi_1 (Nat.le_of_ble_eq_true rfl) rfl (g_iconst mzi_0 (g_istore (Nat.le_of_ble_eq_true rfl) rfl ?_))
      refine g_weak ?_ (g_cl (cg_475_139 hd hS hR a1 a2 hs1 hs2 v3 v4 v5 (s.1 + 1) s.2.1 0 s.2.2 hr hc1 hx1 hp hC))
      exact ⟨rfl, rfl, rfl, rfl, rfl, rfl, rfl, rfl, rfl, trivial⟩
    · have hp := hp.2 h4
      refine g_weak ?_ (g_cl (cg_475_211 hd hS hR a1 a2 hs1 hs2 v3 v4 v5 s.1 s.2.1 s.2.2 hr hc1 hx1 hp hC))
      exact ⟨rfl, rfl, rfl, rfl, rfl, rfl, rfl, rfl, trivial⟩
  · have hp := hp.2 h1
    refine g_aload_n rfl (g_iload rfl (g_iload rfl (g_i2l (g_lload rfl ?_))))
    have h5 := hp
    refine g_v4v (Nat.le_of_ble_eq_true rfl) (mz_at hS (Nat.le_of_ble_eq_true rfl) mzcS_232) (fun _ hq => cs_409 (Nat.le_trans (Nat.le_of_ble_eq_true rfl) hd) (hS.le (Nat.le_of_ble_eq_true rfl)) (hR.le (Nat.le_of_ble_eq_true rfl))  v4 s.1.toInt64 v5 s.2.2 h5 hq) ?_
    refine g_zne (tg := 233) rfl ms_475_233 hC (fun h6 hC => ?_) (fun h6 hC => ?_)
    · refine g_aload_n rfl (g_iload rfl (g_putI (mz_at hS (Nat.le_of_ble_eq_true rfl) mzcS_232) mzcf_12_133 (g_aload_n rfl (g_lload rfl (g_putL (mz_at hS (Nat.le_of_ble_eq_true rfl) mzcS_232) mzcf_12_134 (g_aload_n rfl (g_iload rfl ?_)))))))
      refine g_iconst mzi_1 (g_iadd (g_putI (mz_at hS (Nat.le_of_ble_eq_true rfl) mzcS_232) mzcf_12_135 (g_iconst mzi_1 ?_)))
      exact g_zret (z := true) rfl (hr _ _ (hx1 _ hC))
    · refine g_iconst mzi_0 ?_
      exact g_zret (z := false) rfl (hr _ _ (hx1 _ hC))
theorem cg_475_118 (hd : 3 ≤ d) (hS : mz_extR S 342) (hR : mz_rok R 342) (a1 : Nat) (a2 : Nat) (hs1 : S[a1]? = some (3, 135, [])) (hs2 : S[a2]? = some (2, 3780, [])) (v3 : Int32) (v4 : Int32) (v5 : Int64) (v7 : Int32) (v8 : Int32) (N : mz_N) {C0 : (Bool × mz_N) → Prop} (hr : ∀ (w : Bool) (N2 : mz_N), C0 (w, N2) → Q (.inl (some (.int (mz_b01 w)))) (mz_k S R N2 b t)) (hp : cp_475_118 a1 a2 v3 v4 v5 v7 v8 N) (hC : C0 (cf_475_118 a1 a2 v3 v4 v5 v7 v8 N)) : mz_G (d, mz_X0 L xs, some .boolean, [], mk_475, 10, Q) 118 mt_475_118 [(0, .ref 232), (1, .ref a1), (2, .ref a2), (3, .int v3), (4, .int v4), (5, .long v5), (7, .int v7), (8, .int v8)] [] false (mz_k S R N b t) := by
  obtain ⟨n, hn⟩ := hp
  exact g_loop (G := fun s => mz_G (d, mz_X0 L xs, some .boolean, [], mk_475, 10, Q) 118 mt_475_118 [(0, .ref 232), (1, .ref a1), (2, .ref a2), (3, .int v3), (4, .int v4), (5, .long v5), (7, .int s.1), (8, .int s.2.1)] [] false (mz_k S R s.2.2 b t)) (C := C0) (fun C2 hc hx s hP hC => cb_475_118 hd hS hR a1 a2 hs1 hs2 v3 v4 v5 s hr hc hx hP hC) n (v7, v8, N) hn hC
theorem cb_475_50 (hd : 3 ≤ d) (hS : mz_extR S 342) (hR : mz_rok R 342) (a1 : Nat) (a2 : Nat) (hs1 : S[a1]? = some (3, 135, [])) (hs2 : S[a2]? = some (2, 3780, [])) (v3 : Int32) (v4 : Int32) (N : mz_N) (s : Int64 × Int32) {C0 : (Bool × mz_N) → Prop} (hr : ∀ (w : Bool) (N2 : mz_N), C0 (w, N2) → Q (.inl (some (.int (mz_b01 w)))) (mz_k S R N2 b t)) {C1 : ((Int64 × Int32) ⊕ (Bool × mz_N)) → Prop} (hc1 : ∀ s2, C1 (.inl s2) → mz_G (d, mz_X0 L xs, some .boolean, [], mk_475, 10, Q) 50 mt_475_50 [(0, .ref 232), (1, .ref a1), (2, .ref a2), (3, .int v3), (4, .int v4), (5, .long s2.1), (7, .int s2.2)] [] false (mz_k S R N b t)) (hx1 : ∀ z, C1 (.inr z) → C0 z) (hp : cd_475_50 a1 a2 v3 v4 N s) (hC : C1 (cq_475_50 a1 a2 v3 v4 N s)) : mz_G (d, mz_X0 L xs, some .boolean, [], mk_475, 10, Q) 50 mt_475_50 [(0, .ref 232), (1, .ref a1), (2, .ref a2), (3, .int v3), (4, .int v4), (5, .long s.1), (7, .int s.2)] [] false (mz_k S R N b t) := by
  unfold cq_475_50 at hC
  unfold cd_475_50 at hp
  refine g_iload rfl (g_iconst mzi_2 ?_)
  refine g_icge (tg := 106) rfl ms_475_106 hC (fun h1 hC => ?_) (fun h1 hC => ?_)
  · have hp := hp.1 h1
    refine g_aload_n rfl (g_getR (mz_at hS (Nat.le_of_ble_eq_true rfl) mzcS_232) mzcf_12_129 (mz_rb hR (Nat.le_of_ble_eq_true rfl) rfl mzcR_232_129) (g_sipush mzs_9600 (g_iload rfl (g_imul (g_bipush mzb_48 (g_iload rfl (g_imul ?_)))))))
    refine g_iadd (g_bipush mzb_8 (g_iadd (g_iconst mzi_4 ?_)))
    obtain ⟨h2, hp⟩ := hp
    refine g_s3v (Nat.le_of_ble_eq_true rfl) (fun _ hq => cs_423 (Nat.le_trans (Nat.le_of_ble_eq_true rfl) hd) (hS.le (Nat.le_of_ble_eq_true rfl)) (hR.le (Nat.le_of_ble_eq_true rfl)) 329 19200 (mz_at hS (Nat.le_of_ble_eq_true rfl) mzcS_329) (((9600 * v4) + (48 * s.2)) + 8) 4 N h2 hq) (g_l2i (g_i2l (g_lstore (Nat.le_of_ble_eq_true rfl) rfl rfl (g_lload rfl (g_lload rfl (g_lcmp ?_))))))
    refine g_lle (tg := 96) rfl ms_475_96 hC (fun h3 hC => ?_) (fun h3 hC => ?_)
    · have hp := hp.1 h3
      refine g_lload rfl (g_goto (tg := 98) rfl ms_475_98 ?_)
      refine g_weak ?_ (g_cl (cg_475_98 hd hS hR a1 a2 hs1 hs2 (((cf_423_0 329 19200 (((9600 * v4) + (48 * s.2)) + 8) 4 N).toInt32).toInt64) v3 v4 s.2 N hr hc1 hx1 hp hC))
      exact ⟨rfl, rfl, rfl, rfl, rfl, rfl, trivial⟩
    · have hp := hp.2 h3
      refine g_lload rfl ?_
      refine g_weak ?_ (g_cl (cg_475_98 hd hS hR a1 a2 hs1 hs2 s.1 v3 v4 s.2 N hr hc1 hx1 hp hC))
      exact ⟨rfl, rfl, rfl, rfl, rfl, rfl, trivial⟩
  · have hp := hp.2 h1
    refine g_lload rfl (g_lconst mzl_1 (g_ladd (g_lstore (Nat.le_of_ble_eq_true rfl) rfl rfl (g_iconst mzi_0 (g_istore (Nat.le_of_ble_eq_true rfl) rfl (g_iconst mzi_0 (g_istore (Nat.le_of_ble_eq_true rfl) rfl ?_)))))))
    refine g_weak ?_ (g_cl (cg_475_118 hd hS hR a1 a2 hs1 hs2 v3 v4 (s.1 + 1) 0 0 N hr hp (hx1 _ hC)))
    exact ⟨rfl, rfl, rfl, rfl, rfl, rfl, rfl, rfl, trivial⟩
theorem cg_475_50 (hd : 3 ≤ d) (hS : mz_extR S 342) (hR : mz_rok R 342) (a1 : Nat) (a2 : Nat) (hs1 : S[a1]? = some (3, 135, [])) (hs2 : S[a2]? = some (2, 3780, [])) (v3 : Int32) (v4 : Int32) (v5 : Int64) (v7 : Int32) (N : mz_N) {C0 : (Bool × mz_N) → Prop} (hr : ∀ (w : Bool) (N2 : mz_N), C0 (w, N2) → Q (.inl (some (.int (mz_b01 w)))) (mz_k S R N2 b t)) (hp : cp_475_50 a1 a2 v3 v4 v5 v7 N) (hC : C0 (cf_475_50 a1 a2 v3 v4 v5 v7 N)) : mz_G (d, mz_X0 L xs, some .boolean, [], mk_475, 10, Q) 50 mt_475_50 [(0, .ref 232), (1, .ref a1), (2, .ref a2), (3, .int v3), (4, .int v4), (5, .long v5), (7, .int v7)] [] false (mz_k S R N b t) := by
  obtain ⟨n, hn⟩ := hp
  exact g_loop (G := fun s => mz_G (d, mz_X0 L xs, some .boolean, [], mk_475, 10, Q) 50 mt_475_50 [(0, .ref 232), (1, .ref a1), (2, .ref a2), (3, .int v3), (4, .int v4), (5, .long s.1), (7, .int s.2)] [] false (mz_k S R N b t)) (C := C0) (fun C2 hc hx s hP hC => cb_475_50 hd hS hR a1 a2 hs1 hs2 v3 v4 N s hr hc hx hP hC) n (v5, v7) hn hC
theorem cb_475_5 (hd : 3 ≤ d) (hS : mz_extR S 342) (hR : mz_rok R 342) (a1 : Nat) (a2 : Nat) (hs1 : S[a1]? = some (3, 135, [])) (hs2 : S[a2]? = some (2, 3780, [])) (N : mz_N) (s : Int32 × Int32) {C0 : (Bool × mz_N) → Prop} (hr : ∀ (w : Bool) (N2 : mz_N), C0 (w, N2) → Q (.inl (some (.int (mz_b01 w)))) (mz_k S R N2 b t)) {C1 : ((Int32 × Int32) ⊕ (Bool × mz_N)) → Prop} (hc1 : ∀ s2, C1 (.inl s2) → mz_G (d, mz_X0 L xs, some .boolean, [], mk_475, 10, Q) 5 mt_475_5 [(0, .ref 232), (1, .ref a1), (2, .ref a2), (3, .int s2.1), (4, .int s2.2)] [] false (mz_k S R N b t)) (hx1 : ∀ z, C1 (.inr z) → C0 z) (hp : cd_475_5 a1 a2 N s) (hC : C1 (cq_475_5 a1 a2 N s)) : mz_G (d, mz_X0 L xs, some .boolean, [], mk_475, 10, Q) 5 mt_475_5 [(0, .ref 232), (1, .ref a1), (2, .ref a2), (3, .int s.1), (4, .int s.2)] [] false (mz_k S R N b t) := by
  unfold cq_475_5 at hC
  unfold cd_475_5 at hp
  refine g_iload rfl (g_sipush mzs_135 ?_)
  refine g_icge (tg := 33) rfl ms_475_33 hC (fun h1 hC => ?_) (fun h1 hC => ?_)
  · have hp := hp.1 h1
    refine g_aload_n rfl (g_iload rfl ?_)
    obtain ⟨h2, hp⟩ := hp
    obtain ⟨h3, hp⟩ := hp
    refine g_zald hs1 h2 h3 ?_
    refine g_zeq (tg := 25) rfl ms_475_25 hC (fun h4 hC => ?_) (fun h4 hC => ?_)
    · have hp := hp.1 h4
      refine g_iload rfl (g_goto (tg := 26) rfl ms_475_26 ?_)
      refine g_weak ?_ (g_cl (cg_475_26 hd hS hR a1 a2 hs1 hs2 s.2 s.2 N hr hc1 hx1 hp hC))
      exact ⟨rfl, rfl, rfl, rfl, trivial⟩
    · have hp := hp.2 h4
      refine g_iload_n rfl ?_
      refine g_weak ?_ (g_cl (cg_475_26 hd hS hR a1 a2 hs1 hs2 s.1 s.2 N hr hc1 hx1 hp hC))
      exact ⟨rfl, rfl, rfl, rfl, trivial⟩
  · have hp := hp.2 h1
    refine g_iconst mzi_1 (g_aload_n rfl (g_getI (mz_at hS (Nat.le_of_ble_eq_true rfl) mzcS_232) mzcf_12_133 (g_isub (g_istore (Nat.le_of_ble_eq_true rfl) rfl (g_aload_n rfl (g_getL (mz_at hS (Nat.le_of_ble_eq_true rfl) mzcS_232) mzcf_12_134 (g_lstore (Nat.le_of_ble_eq_true rfl) rfl rfl ?_)))))))
    refine g_iconst mzi_0 (g_istore (Nat.le_of_ble_eq_true rfl) rfl ?_)
    refine g_weak ?_ (g_cl (cg_475_50 hd hS hR a1 a2 hs1 hs2 s.1 (1 - (N.1 232 133)) (N.2 232 134) 0 N hr hp (hx1 _ hC)))
    exact ⟨rfl, rfl, rfl, rfl, rfl, rfl, rfl, trivial⟩
theorem cg_475_5 (hd : 3 ≤ d) (hS : mz_extR S 342) (hR : mz_rok R 342) (a1 : Nat) (a2 : Nat) (hs1 : S[a1]? = some (3, 135, [])) (hs2 : S[a2]? = some (2, 3780, [])) (v3 : Int32) (v4 : Int32) (N : mz_N) {C0 : (Bool × mz_N) → Prop} (hr : ∀ (w : Bool) (N2 : mz_N), C0 (w, N2) → Q (.inl (some (.int (mz_b01 w)))) (mz_k S R N2 b t)) (hp : cp_475_5 a1 a2 v3 v4 N) (hC : C0 (cf_475_5 a1 a2 v3 v4 N)) : mz_G (d, mz_X0 L xs, some .boolean, [], mk_475, 10, Q) 5 mt_475_5 [(0, .ref 232), (1, .ref a1), (2, .ref a2), (3, .int v3), (4, .int v4)] [] false (mz_k S R N b t) := by
  obtain ⟨n, hn⟩ := hp
  exact g_loop (G := fun s => mz_G (d, mz_X0 L xs, some .boolean, [], mk_475, 10, Q) 5 mt_475_5 [(0, .ref 232), (1, .ref a1), (2, .ref a2), (3, .int s.1), (4, .int s.2)] [] false (mz_k S R N b t)) (C := C0) (fun C2 hc hx s hP hC => cb_475_5 hd hS hR a1 a2 hs1 hs2 N s hr hc hx hP hC) n (v3, v4) hn hC
theorem cg_475_0 (hd : 3 ≤ d) (hS : mz_extR S 342) (hR : mz_rok R 342) (a1 : Nat) (a2 : Nat) (hs1 : S[a1]? = some (3, 135, [])) (hs2 : S[a2]? = some (2, 3780, [])) (N : mz_N) {C0 : (Bool × mz_N) → Prop} (hr : ∀ (w : Bool) (N2 : mz_N), C0 (w, N2) → Q (.inl (some (.int (mz_b01 w)))) (mz_k S R N2 b t)) (hp : cp_475_0 a1 a2 N) (hC : C0 (cf_475_0 a1 a2 N)) : mz_G (d, mz_X0 L xs, some .boolean, [], mk_475, 10, Q) 0 mk_475 [(0, .ref 232), (1, .ref a1), (2, .ref a2)] [] true (mz_k S R N b t) := by
  unfold cf_475_0 at hC
  unfold cp_475_0 at hp
  refine g_iconst mzi_m1 (g_istore_n (Nat.le_of_ble_eq_true rfl) rfl (g_iconst mzi_0 (g_istore (Nat.le_of_ble_eq_true rfl) rfl ?_)))
  refine g_weak ?_ (g_cl (cg_475_5 hd hS hR a1 a2 hs1 hs2 (-1) 0 N hr hp hC))
  exact ⟨rfl, rfl, rfl, rfl, rfl, trivial⟩
theorem cs_475 (hd : 4 ≤ d) (hS : mz_extR S 342) (hR : mz_rok R 342) (a1 : Nat) (a2 : Nat) (hs1 : S[a1]? = some (3, 135, [])) (hs2 : S[a2]? = some (2, 3780, [])) (N : mz_N) (hp : cp_475_0 a1 a2 N) (hq : Q (.inl (some (.int (mz_b01 ((cf_475_0 a1 a2 N).1))))) (mz_k S R ((cf_475_0 a1 a2 N).2) b t)) : mz_Ed (mz_X0 L xs) d 475 [.ref 232, .ref a1, .ref a2] (mz_k S R N b t) Q :=
  by
  refine g_in mzq_475 (Nat.le_of_ble_eq_true rfl) (Nat.le_of_ble_eq_true rfl) (Nat.le_trans (Nat.le_of_ble_eq_true rfl) hd) ?_
  refine g_weak ?_ (cg_475_0 (d := d - 1) (by omega) hS hR a1 a2 hs1 hs2 N (C0 := fun z => Q (.inl (some (.int (mz_b01 z.1)))) (mz_k S R z.2 b t)) (fun _ _ h => h) hp hq)
  exact ⟨rfl, rfl, rfl, trivial⟩
/-! 477 KeptHouseModel.makeMore (II)V -/
theorem ms_477_0 : mz_sf mk_477 0 = mk_477 := mz_sf_zero _
theorem ms_477_71 : mz_sf mk_477 71 = mt_477_71 := mz_sf_add ms_477_0 (t := 71) rfl rfl
theorem ms_477_97 : mz_sf mk_477 97 = mt_477_97 := mz_sf_add ms_477_71 (t := 26) rfl rfl
theorem ms_477_113 : mz_sf mk_477 113 = mt_477_113 := mz_sf_add ms_477_97 (t := 16) rfl rfl
theorem ms_477_134 : mz_sf mk_477 134 = mt_477_134 := mz_sf_add ms_477_113 (t := 21) rfl rfl
theorem ms_477_157 : mz_sf mk_477 157 = mt_477_157 := mz_sf_add ms_477_134 (t := 23) rfl rfl
theorem ms_477_171 : mz_sf mk_477 171 = mt_477_171 := mz_sf_add ms_477_157 (t := 14) rfl rfl
theorem ms_477_197 : mz_sf mk_477 197 = mt_477_197 := mz_sf_add ms_477_171 (t := 26) rfl rfl
theorem ms_477_211 : mz_sf mk_477 211 = mt_477_211 := mz_sf_add ms_477_197 (t := 14) rfl rfl
theorem ms_477_234 : mz_sf mk_477 234 = mt_477_234 := mz_sf_add ms_477_211 (t := 23) rfl rfl
theorem ms_477_240 : mz_sf mk_477 240 = mt_477_240 := mz_sf_add ms_477_234 (t := 6) rfl rfl
theorem ms_477_243 : mz_sf mk_477 243 = mt_477_243 := mz_sf_add ms_477_240 (t := 3) rfl rfl
theorem ms_477_268 : mz_sf mk_477 268 = mt_477_268 := mz_sf_add ms_477_243 (t := 25) rfl rfl
theorem ms_477_299 : mz_sf mk_477 299 = mt_477_299 := mz_sf_add ms_477_268 (t := 31) rfl rfl
theorem ms_477_300 : mz_sf mk_477 300 = mt_477_300 := mz_sf_add ms_477_299 (t := 1) rfl rfl
theorem ms_477_306 : mz_sf mk_477 306 = mt_477_306 := mz_sf_add ms_477_300 (t := 6) rfl rfl
theorem ms_477_335 : mz_sf mk_477 335 = mt_477_335 := mz_sf_add ms_477_306 (t := 29) rfl rfl
theorem ms_477_361 : mz_sf mk_477 361 = mt_477_361 := mz_sf_add ms_477_335 (t := 26) rfl rfl
theorem ms_477_386 : mz_sf mk_477 386 = mt_477_386 := mz_sf_add ms_477_361 (t := 25) rfl rfl
theorem ms_477_389 : mz_sf mk_477 389 = mt_477_389 := mz_sf_add ms_477_386 (t := 3) rfl rfl
theorem ms_477_409 : mz_sf mk_477 409 = mt_477_409 := mz_sf_add ms_477_389 (t := 20) rfl rfl
theorem ms_477_425 : mz_sf mk_477 425 = mt_477_425 := mz_sf_add ms_477_409 (t := 16) rfl rfl
theorem ms_477_445 : mz_sf mk_477 445 = mt_477_445 := mz_sf_add ms_477_425 (t := 20) rfl rfl
theorem ms_477_474 : mz_sf mk_477 474 = mt_477_474 := mz_sf_add ms_477_445 (t := 29) rfl rfl
theorem ms_477_475 : mz_sf mk_477 475 = mt_477_475 := mz_sf_add ms_477_474 (t := 1) rfl rfl
theorem ms_477_494 : mz_sf mk_477 494 = mt_477_494 := mz_sf_add ms_477_475 (t := 19) rfl rfl
theorem ms_477_514 : mz_sf mk_477 514 = mt_477_514 := mz_sf_add ms_477_494 (t := 20) rfl rfl
theorem ms_477_527 : mz_sf mk_477 527 = mt_477_527 := mz_sf_add ms_477_514 (t := 13) rfl rfl
set_option maxRecDepth 100000 in
theorem mzq_477 : mz_PG0 477 = some (12, ⟨"KeptHouseModel", "makeMore", "(II)V"⟩, prog_14_method_167_code, 4, none, [], mk_477, []) := rfl
theorem cg_477_527 (hd : 1 ≤ d) (hS : mz_extR S 342) (hR : mz_rok R 342)  (N : mz_N) {C0 : (mz_N) → Prop} (hr : ∀ (N2 : mz_N), C0 N2 → Q (.inl none) (mz_k S R N2 b t)) (hp : cp_477_527 N) (hC : C0 (cf_477_527 N)) : mz_G (d, mz_X0 L xs, none, [], mk_477, 4, Q) 527 mt_477_527 [] [] false (mz_k S R N b t) := by
  unfold cf_477_527 at hC
  unfold cp_477_527 at hp
  exact g_vret rfl (hr _ hC)
theorem cg_477_514 (hd : 1 ≤ d) (hS : mz_extR S 342) (hR : mz_rok R 342)  (v2 : Int32) (N : mz_N) {C0 : (mz_N) → Prop} (hr : ∀ (N2 : mz_N), C0 N2 → Q (.inl none) (mz_k S R N2 b t)) (hp : cp_477_514 v2 N) (hC : C0 (cf_477_514 v2 N)) : mz_G (d, mz_X0 L xs, none, [], mk_477, 4, Q) 514 mt_477_514 [(0, .ref 232), (2, .int v2)] [] false (mz_k S R N b t) := by
  unfold cf_477_514 at hC
  unfold cp_477_514 at hp
  refine g_aload_n rfl (g_iconst mzi_2 (g_iconst mzi_1 (g_aload_n rfl (g_getR (mz_at hS (Nat.le_of_ble_eq_true rfl) mzcS_232) mzcf_12_77 (mz_rb hR (Nat.le_of_ble_eq_true rfl) rfl mzcR_232_77) (g_iload_n rfl ?_)))))
  obtain ⟨h1, hp⟩ := hp
  refine g_iald hS.1 (mz_at hS (Nat.le_of_ble_eq_true rfl) mzcS_284) h1 (g_i2l ?_)
  obtain ⟨h2, hp⟩ := hp
  refine g_v4n (Nat.le_of_ble_eq_true rfl) (mz_at hS (Nat.le_of_ble_eq_true rfl) mzcS_232) (fun _ hq => cs_410 (Nat.le_trans (Nat.le_of_ble_eq_true rfl) hd) (hS.le (Nat.le_of_ble_eq_true rfl)) (hR.le (Nat.le_of_ble_eq_true rfl))  2 1 ((mz_gI N 284 v2).toInt64) N h2 hq) ?_
  refine g_weak ?_ (g_cl (cg_477_527 hd hS hR (cf_410_0 2 1 ((mz_gI N 284 v2).toInt64) N) hr hp hC))
  exact trivial
theorem cb_477_211 (hd : 1 ≤ d) (hS : mz_extR S 342) (hR : mz_rok R 342)   (s : Int32 × mz_N) {C0 : (mz_N) → Prop} (hr : ∀ (N2 : mz_N), C0 N2 → Q (.inl none) (mz_k S R N2 b t)) {C1 : ((Int32 × mz_N) ⊕ (mz_N)) → Prop} (hc1 : ∀ s2, C1 (.inl s2) → mz_G (d, mz_X0 L xs, none, [], mk_477, 4, Q) 211 mt_477_211 [(0, .ref 232), (3, .int s2.1)] [] false (mz_k S R s2.2 b t)) (hx1 : ∀ z, C1 (.inr z) → C0 z) (hp : cd_477_211  s) (hC : C1 (cq_477_211  s)) : mz_G (d, mz_X0 L xs, none, [], mk_477, 4, Q) 211 mt_477_211 [(0, .ref 232), (3, .int s.1)] [] false (mz_k S R s.2 b t) := by
  unfold cq_477_211 at hC
  unfold cd_477_211 at hp
  refine g_iload_n rfl (g_iconst mzi_3 ?_)
  refine g_icge (tg := 240) rfl ms_477_240 hC (fun h1 hC => ?_) (fun h1 hC => ?_)
  · have hp := hp.1 h1
    refine g_aload_n rfl (g_bipush mzb_12 (g_iconst mzi_4 (g_iload_n rfl (g_imul (g_iadd (g_iconst mzi_4 (g_aload_n rfl ?_)))))))
    refine g_getR (mz_at hS (Nat.le_of_ble_eq_true rfl) mzcS_232) mzcf_12_22 (mz_rb hR (Nat.le_of_ble_eq_true rfl) rfl mzcR_232_22) (g_iload_n rfl ?_)
    obtain ⟨h2, hp⟩ := hp
    refine g_iald hS.1 (mz_at hS (Nat.le_of_ble_eq_true rfl) mzcS_249) h2 (g_i2l ?_)
    have h3 := hp
    refine g_v4n (Nat.le_of_ble_eq_true rfl) (mz_at hS (Nat.le_of_ble_eq_true rfl) mzcS_232) (fun _ hq => cs_410 (Nat.le_trans (Nat.le_of_ble_eq_true rfl) hd) (hS.le (Nat.le_of_ble_eq_true rfl)) (hR.le (Nat.le_of_ble_eq_true rfl))  (12 + (4 * s.1)) 4 ((mz_gI s.2 249 s.1).toInt64) s.2 h3 hq) (g_iinc rfl mzi_1 (Nat.le_of_ble_eq_true rfl) rfl (g_goto (tg := 211) rfl ms_477_211 ?_))
    refine g_weak ?_ (g_cl (hc1 ((s.1 + 1), (cf_410_0 (12 + (4 * s.1)) 4 ((mz_gI s.2 249 s.1).toInt64) s.2)) hC))
    exact ⟨rfl, rfl, trivial⟩
  · have hp := hp.2 h1
    refine g_goto (tg := 527) rfl ms_477_527 ?_
    exact g_vret rfl (hr _ (hx1 _ hC))
theorem cg_477_211 (hd : 1 ≤ d) (hS : mz_extR S 342) (hR : mz_rok R 342)  (v3 : Int32) (N : mz_N) {C0 : (mz_N) → Prop} (hr : ∀ (N2 : mz_N), C0 N2 → Q (.inl none) (mz_k S R N2 b t)) (hp : cp_477_211 v3 N) (hC : C0 (cf_477_211 v3 N)) : mz_G (d, mz_X0 L xs, none, [], mk_477, 4, Q) 211 mt_477_211 [(0, .ref 232), (3, .int v3)] [] false (mz_k S R N b t) := by
  obtain ⟨n, hn⟩ := hp
  exact g_loop (G := fun s => mz_G (d, mz_X0 L xs, none, [], mk_477, 4, Q) 211 mt_477_211 [(0, .ref 232), (3, .int s.1)] [] false (mz_k S R s.2 b t)) (C := C0) (fun C2 hc hx s hP hC => cb_477_211 hd hS hR  s hr hc hx hP hC) n (v3, N) hn hC
theorem cg_477_197 (hd : 1 ≤ d) (hS : mz_extR S 342) (hR : mz_rok R 342)  (N : mz_N) {C0 : (mz_N) → Prop} (hr : ∀ (N2 : mz_N), C0 N2 → Q (.inl none) (mz_k S R N2 b t)) (hp : cp_477_197 N) (hC : C0 (cf_477_197 N)) : mz_G (d, mz_X0 L xs, none, [], mk_477, 4, Q) 197 mt_477_197 [(0, .ref 232)] [] false (mz_k S R N b t) := by
  unfold cf_477_197 at hC
  unfold cp_477_197 at hp
  refine g_aload_n rfl (g_bipush mzb_8 (g_iconst mzi_4 (g_aload_n rfl (g_getI (mz_at hS (Nat.le_of_ble_eq_true rfl) mzcS_232) mzcf_12_21 (g_i2l ?_)))))
  obtain ⟨h1, hp⟩ := hp
  refine g_v4n (Nat.le_of_ble_eq_true rfl) (mz_at hS (Nat.le_of_ble_eq_true rfl) mzcS_232) (fun _ hq => cs_410 (Nat.le_trans (Nat.le_of_ble_eq_true rfl) hd) (hS.le (Nat.le_of_ble_eq_true rfl)) (hR.le (Nat.le_of_ble_eq_true rfl))  8 4 ((N.1 232 21).toInt64) N h1 hq) (g_iconst mzi_0 (g_istore_n (Nat.le_of_ble_eq_true rfl) rfl ?_))
  refine g_weak ?_ (g_cl (cg_477_211 hd hS hR 0 (cf_410_0 8 4 ((N.1 232 21).toInt64) N) hr hp hC))
  exact ⟨rfl, rfl, trivial⟩
theorem cg_477_157 (hd : 1 ≤ d) (hS : mz_extR S 342) (hR : mz_rok R 342)  (N : mz_N) {C0 : (mz_N) → Prop} (hr : ∀ (N2 : mz_N), C0 N2 → Q (.inl none) (mz_k S R N2 b t)) (hp : cp_477_157 N) (hC : C0 (cf_477_157 N)) : mz_G (d, mz_X0 L xs, none, [], mk_477, 4, Q) 157 mt_477_157 [(0, .ref 232)] [] false (mz_k S R N b t) := by
  unfold cf_477_157 at hC
  unfold cp_477_157 at hp
  refine g_aload_n rfl (g_bipush mzb_24 (g_iconst mzi_4 (g_aload_n rfl (g_getL (mz_at hS (Nat.le_of_ble_eq_true rfl) mzcS_232) mzcf_12_125 ?_))))
  have h1 := hp
  refine g_v4n (Nat.le_of_ble_eq_true rfl) (mz_at hS (Nat.le_of_ble_eq_true rfl) mzcS_232) (fun _ hq => cs_410 (Nat.le_trans (Nat.le_of_ble_eq_true rfl) hd) (hS.le (Nat.le_of_ble_eq_true rfl)) (hR.le (Nat.le_of_ble_eq_true rfl))  24 4 (N.2 232 125) N h1 hq) (g_goto (tg := 527) rfl ms_477_527 ?_)
  exact g_vret rfl (hr _ hC)
theorem cg_477_134 (hd : 1 ≤ d) (hS : mz_extR S 342) (hR : mz_rok R 342)  (N : mz_N) {C0 : (mz_N) → Prop} (hr : ∀ (N2 : mz_N), C0 N2 → Q (.inl none) (mz_k S R N2 b t)) (hp : cp_477_134 N) (hC : C0 (cf_477_134 N)) : mz_G (d, mz_X0 L xs, none, [], mk_477, 4, Q) 134 mt_477_134 [(0, .ref 232)] [] false (mz_k S R N b t) := by
  unfold cf_477_134 at hC
  unfold cp_477_134 at hp
  refine g_aload_n rfl (g_bipush mzb_12 (g_bipush mzb_8 (g_aload_n rfl (g_getL (mz_at hS (Nat.le_of_ble_eq_true rfl) mzcS_232) mzcf_12_123 ?_))))
  obtain ⟨h1, hp⟩ := hp
  refine g_v4n (Nat.le_of_ble_eq_true rfl) (mz_at hS (Nat.le_of_ble_eq_true rfl) mzcS_232) (fun _ hq => cs_410 (Nat.le_trans (Nat.le_of_ble_eq_true rfl) hd) (hS.le (Nat.le_of_ble_eq_true rfl)) (hR.le (Nat.le_of_ble_eq_true rfl))  12 8 (N.2 232 123) N h1 hq) (g_aload_n rfl (g_bipush mzb_20 (g_iconst mzi_4 (g_aload_n rfl (g_getL (mz_at hS (Nat.le_of_ble_eq_true rfl) mzcS_232) mzcf_12_124 ?_)))))
  obtain ⟨h2, hp⟩ := hp
  refine g_v4n (Nat.le_of_ble_eq_true rfl) (mz_at hS (Nat.le_of_ble_eq_true rfl) mzcS_232) (fun _ hq => cs_410 (Nat.le_trans (Nat.le_of_ble_eq_true rfl) hd) (hS.le (Nat.le_of_ble_eq_true rfl)) (hR.le (Nat.le_of_ble_eq_true rfl))  20 4 ((cf_410_0 12 8 (N.2 232 123) N).2 232 124) (cf_410_0 12 8 (N.2 232 123) N) h2 hq) ?_
  refine g_weak ?_ (g_cl (cg_477_157 hd hS hR (cf_410_0 20 4 ((cf_410_0 12 8 (N.2 232 123) N).2 232 124) (cf_410_0 12 8 (N.2 232 123) N)) hr hp hC))
  exact ⟨rfl, trivial⟩
theorem cg_477_97 (hd : 1 ≤ d) (hS : mz_extR S 342) (hR : mz_rok R 342)  (v2 : Int32) (N : mz_N) {C0 : (mz_N) → Prop} (hr : ∀ (N2 : mz_N), C0 N2 → Q (.inl none) (mz_k S R N2 b t)) (hp : cp_477_97 v2 N) (hC : C0 (cf_477_97 v2 N)) : mz_G (d, mz_X0 L xs, none, [], mk_477, 4, Q) 97 mt_477_97 [(0, .ref 232), (2, .int v2)] [] false (mz_k S R N b t) := by
  unfold cf_477_97 at hC
  unfold cp_477_97 at hp
  refine g_aload_n rfl (g_bipush mzb_24 (g_iconst mzi_4 (g_aload_n rfl (g_getR (mz_at hS (Nat.le_of_ble_eq_true rfl) mzcS_232) mzcf_12_119 (mz_rb hR (Nat.le_of_ble_eq_true rfl) rfl mzcR_232_119) (g_iload_n rfl ?_)))))
  obtain ⟨h1, hp⟩ := hp
  refine g_lald (mz_at hS (Nat.le_of_ble_eq_true rfl) mzcS_323) h1 ?_
  have h2 := hp
  refine g_v4n (Nat.le_of_ble_eq_true rfl) (mz_at hS (Nat.le_of_ble_eq_true rfl) mzcS_232) (fun _ hq => cs_410 (Nat.le_trans (Nat.le_of_ble_eq_true rfl) hd) (hS.le (Nat.le_of_ble_eq_true rfl)) (hR.le (Nat.le_of_ble_eq_true rfl))  24 4 (mz_gL N 323 v2) N h2 hq) (g_goto (tg := 527) rfl ms_477_527 ?_)
  exact g_vret rfl (hr _ hC)
theorem cg_477_71 (hd : 1 ≤ d) (hS : mz_extR S 342) (hR : mz_rok R 342)  (v2 : Int32) (N : mz_N) {C0 : (mz_N) → Prop} (hr : ∀ (N2 : mz_N), C0 N2 → Q (.inl none) (mz_k S R N2 b t)) (hp : cp_477_71 v2 N) (hC : C0 (cf_477_71 v2 N)) : mz_G (d, mz_X0 L xs, none, [], mk_477, 4, Q) 71 mt_477_71 [(0, .ref 232), (2, .int v2)] [] false (mz_k S R N b t) := by
  unfold cf_477_71 at hC
  unfold cp_477_71 at hp
  refine g_aload_n rfl (g_bipush mzb_16 (g_iconst mzi_4 (g_aload_n rfl (g_getR (mz_at hS (Nat.le_of_ble_eq_true rfl) mzcS_232) mzcf_12_117 (mz_rb hR (Nat.le_of_ble_eq_true rfl) rfl mzcR_232_117) (g_iload_n rfl ?_)))))
  obtain ⟨h1, hp⟩ := hp
  refine g_lald (mz_at hS (Nat.le_of_ble_eq_true rfl) mzcS_321) h1 ?_
  obtain ⟨h2, hp⟩ := hp
  refine g_v4n (Nat.le_of_ble_eq_true rfl) (mz_at hS (Nat.le_of_ble_eq_true rfl) mzcS_232) (fun _ hq => cs_410 (Nat.le_trans (Nat.le_of_ble_eq_true rfl) hd) (hS.le (Nat.le_of_ble_eq_true rfl)) (hR.le (Nat.le_of_ble_eq_true rfl))  16 4 (mz_gL N 321 v2) N h2 hq) (g_aload_n rfl (g_bipush mzb_20 (g_iconst mzi_4 (g_aload_n rfl (g_getR (mz_at hS (Nat.le_of_ble_eq_true rfl) mzcS_232) mzcf_12_118 (mz_rb hR (Nat.le_of_ble_eq_true rfl) rfl mzcR_232_118) (g_iload_n rfl ?_))))))
  obtain ⟨h3, hp⟩ := hp
  refine g_lald (mz_at hS (Nat.le_of_ble_eq_true rfl) mzcS_322) h3 ?_
  obtain ⟨h4, hp⟩ := hp
  refine g_v4n (Nat.le_of_ble_eq_true rfl) (mz_at hS (Nat.le_of_ble_eq_true rfl) mzcS_232) (fun _ hq => cs_410 (Nat.le_trans (Nat.le_of_ble_eq_true rfl) hd) (hS.le (Nat.le_of_ble_eq_true rfl)) (hR.le (Nat.le_of_ble_eq_true rfl))  20 4 (mz_gL (cf_410_0 16 4 (mz_gL N 321 v2) N) 322 v2) (cf_410_0 16 4 (mz_gL N 321 v2) N) h4 hq) ?_
  refine g_weak ?_ (g_cl (cg_477_97 hd hS hR v2 (cf_410_0 20 4 (mz_gL (cf_410_0 16 4 (mz_gL N 321 v2) N) 322 v2) (cf_410_0 16 4 (mz_gL N 321 v2) N)) hr hp hC))
  exact ⟨rfl, rfl, trivial⟩
theorem cg_477_300 (hd : 1 ≤ d) (hS : mz_extR S 342) (hR : mz_rok R 342)  (s1 : Int32) (s2 : Int32) (s3 : Int64) (N : mz_N) {C0 : (mz_N) → Prop} (hr : ∀ (N2 : mz_N), C0 N2 → Q (.inl none) (mz_k S R N2 b t)) (hp : cp_477_300 s1 s2 s3 N) (hC : C0 (cf_477_300 s1 s2 s3 N)) : mz_G (d, mz_X0 L xs, none, [], mk_477, 4, Q) 300 mt_477_300 [] [.long s3, .int s2, .int s1, .ref 232] false (mz_k S R N b t) := by
  unfold cf_477_300 at hC
  unfold cp_477_300 at hp
  have h1 := hp
  refine g_v4n (Nat.le_of_ble_eq_true rfl) (mz_at hS (Nat.le_of_ble_eq_true rfl) mzcS_232) (fun _ hq => cs_410 (Nat.le_trans (Nat.le_of_ble_eq_true rfl) hd) (hS.le (Nat.le_of_ble_eq_true rfl)) (hR.le (Nat.le_of_ble_eq_true rfl))  s1 s2 s3 N h1 hq) (g_goto (tg := 527) rfl ms_477_527 ?_)
  exact g_vret rfl (hr _ hC)
theorem cg_477_268 (hd : 1 ≤ d) (hS : mz_extR S 342) (hR : mz_rok R 342)  (v2 : Int32) (N : mz_N) {C0 : (mz_N) → Prop} (hr : ∀ (N2 : mz_N), C0 N2 → Q (.inl none) (mz_k S R N2 b t)) (hp : cp_477_268 v2 N) (hC : C0 (cf_477_268 v2 N)) : mz_G (d, mz_X0 L xs, none, [], mk_477, 4, Q) 268 mt_477_268 [(0, .ref 232), (2, .int v2)] [] false (mz_k S R N b t) := by
  unfold cf_477_268 at hC
  unfold cp_477_268 at hp
  refine g_aload_n rfl (g_bipush mzb_8 (g_iconst mzi_4 (g_aload_n rfl (g_getR (mz_at hS (Nat.le_of_ble_eq_true rfl) mzcS_232) mzcf_12_101 (mz_rb hR (Nat.le_of_ble_eq_true rfl) rfl mzcR_232_101) (g_iload_n rfl ?_)))))
  obtain ⟨h1, hp⟩ := hp
  refine g_iald hS.1 (mz_at hS (Nat.le_of_ble_eq_true rfl) mzcS_306) h1 (g_i2l ?_)
  obtain ⟨h2, hp⟩ := hp
  refine g_v4n (Nat.le_of_ble_eq_true rfl) (mz_at hS (Nat.le_of_ble_eq_true rfl) mzcS_232) (fun _ hq => cs_410 (Nat.le_trans (Nat.le_of_ble_eq_true rfl) hd) (hS.le (Nat.le_of_ble_eq_true rfl)) (hR.le (Nat.le_of_ble_eq_true rfl))  8 4 ((mz_gI N 306 v2).toInt64) N h2 hq) (g_aload_n rfl (g_bipush mzb_12 (g_iconst mzi_1 (g_aload_n rfl (g_getR (mz_at hS (Nat.le_of_ble_eq_true rfl) mzcS_232) mzcf_12_102 (mz_rb hR (Nat.le_of_ble_eq_true rfl) rfl mzcR_232_102) (g_iload_n rfl ?_))))))
  obtain ⟨h3, hp⟩ := hp
  obtain ⟨h4, hp⟩ := hp
  refine g_zald (mz_at hS (Nat.le_of_ble_eq_true rfl) mzcS_307) h3 h4 ?_
  refine g_zeq (tg := 299) rfl ms_477_299 hC (fun h5 hC => ?_) (fun h5 hC => ?_)
  · have hp := hp.1 h5
    refine g_lconst mzl_1 (g_goto (tg := 300) rfl ms_477_300 ?_)
    refine g_weak ?_ (g_cl (cg_477_300 hd hS hR 12 1 1 (cf_410_0 8 4 ((mz_gI N 306 v2).toInt64) N) hr hp hC))
    exact trivial
  · have hp := hp.2 h5
    refine g_lconst mzl_0 ?_
    refine g_weak ?_ (g_cl (cg_477_300 hd hS hR 12 1 0 (cf_410_0 8 4 ((mz_gI N 306 v2).toInt64) N) hr hp hC))
    exact trivial
theorem cg_477_386 (hd : 1 ≤ d) (hS : mz_extR S 342) (hR : mz_rok R 342)  (N : mz_N) {C0 : (mz_N) → Prop} (hr : ∀ (N2 : mz_N), C0 N2 → Q (.inl none) (mz_k S R N2 b t)) (hp : cp_477_386 N) (hC : C0 (cf_477_386 N)) : mz_G (d, mz_X0 L xs, none, [], mk_477, 4, Q) 386 mt_477_386 [] [] false (mz_k S R N b t) := by
  unfold cf_477_386 at hC
  unfold cp_477_386 at hp
  refine g_goto (tg := 527) rfl ms_477_527 ?_
  exact g_vret rfl (hr _ hC)
theorem cg_477_361 (hd : 1 ≤ d) (hS : mz_extR S 342) (hR : mz_rok R 342)  (v2 : Int32) (N : mz_N) {C0 : (mz_N) → Prop} (hr : ∀ (N2 : mz_N), C0 N2 → Q (.inl none) (mz_k S R N2 b t)) (hp : cp_477_361 v2 N) (hC : C0 (cf_477_361 v2 N)) : mz_G (d, mz_X0 L xs, none, [], mk_477, 4, Q) 361 mt_477_361 [(0, .ref 232), (2, .int v2)] [] false (mz_k S R N b t) := by
  unfold cf_477_361 at hC
  unfold cp_477_361 at hp
  refine g_aload_n rfl (g_iconst mzi_4 (g_iconst mzi_4 (g_aload_n rfl (g_getR (mz_at hS (Nat.le_of_ble_eq_true rfl) mzcS_232) mzcf_12_84 (mz_rb hR (Nat.le_of_ble_eq_true rfl) rfl mzcR_232_84) (g_iload_n rfl ?_)))))
  obtain ⟨h1, hp⟩ := hp
  refine g_lald (mz_at hS (Nat.le_of_ble_eq_true rfl) mzcS_291) h1 ?_
  obtain ⟨h2, hp⟩ := hp
  refine g_v4n (Nat.le_of_ble_eq_true rfl) (mz_at hS (Nat.le_of_ble_eq_true rfl) mzcS_232) (fun _ hq => cs_410 (Nat.le_trans (Nat.le_of_ble_eq_true rfl) hd) (hS.le (Nat.le_of_ble_eq_true rfl)) (hR.le (Nat.le_of_ble_eq_true rfl))  4 4 (mz_gL N 291 v2) N h2 hq) (g_aload_n rfl (g_bipush mzb_8 (g_iconst mzi_4 (g_aload_n rfl (g_getR (mz_at hS (Nat.le_of_ble_eq_true rfl) mzcS_232) mzcf_12_85 (mz_rb hR (Nat.le_of_ble_eq_true rfl) rfl mzcR_232_85) (g_iload_n rfl ?_))))))
  obtain ⟨h3, hp⟩ := hp
  refine g_lald (mz_at hS (Nat.le_of_ble_eq_true rfl) mzcS_292) h3 ?_
  obtain ⟨h4, hp⟩ := hp
  refine g_v4n (Nat.le_of_ble_eq_true rfl) (mz_at hS (Nat.le_of_ble_eq_true rfl) mzcS_232) (fun _ hq => cs_410 (Nat.le_trans (Nat.le_of_ble_eq_true rfl) hd) (hS.le (Nat.le_of_ble_eq_true rfl)) (hR.le (Nat.le_of_ble_eq_true rfl))  8 4 (mz_gL (cf_410_0 4 4 (mz_gL N 291 v2) N) 292 v2) (cf_410_0 4 4 (mz_gL N 291 v2) N) h4 hq) ?_
  refine g_weak ?_ (g_cl (cg_477_386 hd hS hR (cf_410_0 8 4 (mz_gL (cf_410_0 4 4 (mz_gL N 291 v2) N) 292 v2) (cf_410_0 4 4 (mz_gL N 291 v2) N)) hr hp hC))
  exact trivial
theorem cg_477_335 (hd : 1 ≤ d) (hS : mz_extR S 342) (hR : mz_rok R 342)  (v2 : Int32) (N : mz_N) {C0 : (mz_N) → Prop} (hr : ∀ (N2 : mz_N), C0 N2 → Q (.inl none) (mz_k S R N2 b t)) (hp : cp_477_335 v2 N) (hC : C0 (cf_477_335 v2 N)) : mz_G (d, mz_X0 L xs, none, [], mk_477, 4, Q) 335 mt_477_335 [(0, .ref 232), (2, .int v2)] [] false (mz_k S R N b t) := by
  unfold cf_477_335 at hC
  unfold cp_477_335 at hp
  refine g_aload_n rfl (g_iconst mzi_2 (g_iconst mzi_1 (g_aload_n rfl (g_getR (mz_at hS (Nat.le_of_ble_eq_true rfl) mzcS_232) mzcf_12_82 (mz_rb hR (Nat.le_of_ble_eq_true rfl) rfl mzcR_232_82) (g_iload_n rfl ?_)))))
  obtain ⟨h1, hp⟩ := hp
  refine g_iald hS.1 (mz_at hS (Nat.le_of_ble_eq_true rfl) mzcS_289) h1 (g_i2l ?_)
  obtain ⟨h2, hp⟩ := hp
  refine g_v4n (Nat.le_of_ble_eq_true rfl) (mz_at hS (Nat.le_of_ble_eq_true rfl) mzcS_232) (fun _ hq => cs_410 (Nat.le_trans (Nat.le_of_ble_eq_true rfl) hd) (hS.le (Nat.le_of_ble_eq_true rfl)) (hR.le (Nat.le_of_ble_eq_true rfl))  2 1 ((mz_gI N 289 v2).toInt64) N h2 hq) (g_aload_n rfl (g_iconst mzi_3 (g_iconst mzi_1 (g_aload_n rfl (g_getR (mz_at hS (Nat.le_of_ble_eq_true rfl) mzcS_232) mzcf_12_83 (mz_rb hR (Nat.le_of_ble_eq_true rfl) rfl mzcR_232_83) (g_iload_n rfl ?_))))))
  obtain ⟨h3, hp⟩ := hp
  refine g_iald hS.1 (mz_at hS (Nat.le_of_ble_eq_true rfl) mzcS_290) h3 (g_i2l ?_)
  obtain ⟨h4, hp⟩ := hp
  refine g_v4n (Nat.le_of_ble_eq_true rfl) (mz_at hS (Nat.le_of_ble_eq_true rfl) mzcS_232) (fun _ hq => cs_410 (Nat.le_trans (Nat.le_of_ble_eq_true rfl) hd) (hS.le (Nat.le_of_ble_eq_true rfl)) (hR.le (Nat.le_of_ble_eq_true rfl))  3 1 ((mz_gI (cf_410_0 2 1 ((mz_gI N 289 v2).toInt64) N) 290 v2).toInt64) (cf_410_0 2 1 ((mz_gI N 289 v2).toInt64) N) h4 hq) ?_
  refine g_weak ?_ (g_cl (cg_477_361 hd hS hR v2 (cf_410_0 3 1 ((mz_gI (cf_410_0 2 1 ((mz_gI N 289 v2).toInt64) N) 290 v2).toInt64) (cf_410_0 2 1 ((mz_gI N 289 v2).toInt64) N)) hr hp hC))
  exact ⟨rfl, rfl, trivial⟩
theorem cg_477_409 (hd : 1 ≤ d) (hS : mz_extR S 342) (hR : mz_rok R 342)  (v2 : Int32) (N : mz_N) {C0 : (mz_N) → Prop} (hr : ∀ (N2 : mz_N), C0 N2 → Q (.inl none) (mz_k S R N2 b t)) (hp : cp_477_409 v2 N) (hC : C0 (cf_477_409 v2 N)) : mz_G (d, mz_X0 L xs, none, [], mk_477, 4, Q) 409 mt_477_409 [(0, .ref 232), (2, .int v2)] [] false (mz_k S R N b t) := by
  unfold cf_477_409 at hC
  unfold cp_477_409 at hp
  refine g_aload_n rfl (g_iconst mzi_2 (g_iconst mzi_1 (g_aload_n rfl (g_getR (mz_at hS (Nat.le_of_ble_eq_true rfl) mzcS_232) mzcf_12_105 (mz_rb hR (Nat.le_of_ble_eq_true rfl) rfl mzcR_232_105) (g_iload_n rfl ?_)))))
  obtain ⟨h1, hp⟩ := hp
  refine g_iald hS.1 (mz_at hS (Nat.le_of_ble_eq_true rfl) mzcS_310) h1 (g_i2l ?_)
  have h2 := hp
  refine g_v4n (Nat.le_of_ble_eq_true rfl) (mz_at hS (Nat.le_of_ble_eq_true rfl) mzcS_232) (fun _ hq => cs_410 (Nat.le_trans (Nat.le_of_ble_eq_true rfl) hd) (hS.le (Nat.le_of_ble_eq_true rfl)) (hR.le (Nat.le_of_ble_eq_true rfl))  2 1 ((mz_gI N 310 v2).toInt64) N h2 hq) (g_goto (tg := 527) rfl ms_477_527 ?_)
  exact g_vret rfl (hr _ hC)
theorem cg_477_475 (hd : 1 ≤ d) (hS : mz_extR S 342) (hR : mz_rok R 342)  (s1 : Int32) (s2 : Int32) (s3 : Int64) (v2 : Int32) (N : mz_N) {C0 : (mz_N) → Prop} (hr : ∀ (N2 : mz_N), C0 N2 → Q (.inl none) (mz_k S R N2 b t)) (hp : cp_477_475 s1 s2 s3 v2 N) (hC : C0 (cf_477_475 s1 s2 s3 v2 N)) : mz_G (d, mz_X0 L xs, none, [], mk_477, 4, Q) 475 mt_477_475 [(0, .ref 232), (2, .int v2)] [.long s3, .int s2, .int s1, .ref 232] false (mz_k S R N b t) := by
  unfold cf_477_475 at hC
  unfold cp_477_475 at hp
  obtain ⟨h1, hp⟩ := hp
  refine g_v4n (Nat.le_of_ble_eq_true rfl) (mz_at hS (Nat.le_of_ble_eq_true rfl) mzcS_232) (fun _ hq => cs_410 (Nat.le_trans (Nat.le_of_ble_eq_true rfl) hd) (hS.le (Nat.le_of_ble_eq_true rfl)) (hR.le (Nat.le_of_ble_eq_true rfl))  s1 s2 s3 N h1 hq) (g_aload_n rfl (g_iconst mzi_4 (g_iconst mzi_4 (g_aload_n rfl (g_getR (mz_at hS (Nat.le_of_ble_eq_true rfl) mzcS_232) mzcf_12_107 (mz_rb hR (Nat.le_of_ble_eq_true rfl) rfl mzcR_232_107) (g_iload_n rfl ?_))))))
  obtain ⟨h2, hp⟩ := hp
  refine g_iald hS.1 (mz_at hS (Nat.le_of_ble_eq_true rfl) mzcS_312) h2 (g_i2l ?_)
  obtain ⟨h3, hp⟩ := hp
  refine g_v4n (Nat.le_of_ble_eq_true rfl) (mz_at hS (Nat.le_of_ble_eq_true rfl) mzcS_232) (fun _ hq => cs_410 (Nat.le_trans (Nat.le_of_ble_eq_true rfl) hd) (hS.le (Nat.le_of_ble_eq_true rfl)) (hR.le (Nat.le_of_ble_eq_true rfl))  4 4 ((mz_gI (cf_410_0 s1 s2 s3 N) 312 v2).toInt64) (cf_410_0 s1 s2 s3 N) h3 hq) (g_goto (tg := 527) rfl ms_477_527 ?_)
  refine g_weak ?_ (g_cl (cg_477_527 hd hS hR (cf_410_0 4 4 ((mz_gI (cf_410_0 s1 s2 s3 N) 312 v2).toInt64) (cf_410_0 s1 s2 s3 N)) hr hp hC))
  exact trivial
theorem cg_477_445 (hd : 1 ≤ d) (hS : mz_extR S 342) (hR : mz_rok R 342)  (v2 : Int32) (N : mz_N) {C0 : (mz_N) → Prop} (hr : ∀ (N2 : mz_N), C0 N2 → Q (.inl none) (mz_k S R N2 b t)) (hp : cp_477_445 v2 N) (hC : C0 (cf_477_445 v2 N)) : mz_G (d, mz_X0 L xs, none, [], mk_477, 4, Q) 445 mt_477_445 [(0, .ref 232), (2, .int v2)] [] false (mz_k S R N b t) := by
  unfold cf_477_445 at hC
  unfold cp_477_445 at hp
  refine g_aload_n rfl (g_iconst mzi_2 (g_iconst mzi_1 (g_aload_n rfl (g_getR (mz_at hS (Nat.le_of_ble_eq_true rfl) mzcS_232) mzcf_12_109 (mz_rb hR (Nat.le_of_ble_eq_true rfl) rfl mzcR_232_109) (g_iload_n rfl ?_)))))
  obtain ⟨h1, hp⟩ := hp
  refine g_iald hS.1 (mz_at hS (Nat.le_of_ble_eq_true rfl) mzcS_314) h1 (g_i2l ?_)
  obtain ⟨h2, hp⟩ := hp
  refine g_v4n (Nat.le_of_ble_eq_true rfl) (mz_at hS (Nat.le_of_ble_eq_true rfl) mzcS_232) (fun _ hq => cs_410 (Nat.le_trans (Nat.le_of_ble_eq_true rfl) hd) (hS.le (Nat.le_of_ble_eq_true rfl)) (hR.le (Nat.le_of_ble_eq_true rfl))  2 1 ((mz_gI N 314 v2).toInt64) N h2 hq) (g_aload_n rfl (g_iconst mzi_3 (g_iconst mzi_1 (g_aload_n rfl (g_getR (mz_at hS (Nat.le_of_ble_eq_true rfl) mzcS_232) mzcf_12_110 (mz_rb hR (Nat.le_of_ble_eq_true rfl) rfl mzcR_232_110) (g_iload_n rfl ?_))))))
  obtain ⟨h3, hp⟩ := hp
  obtain ⟨h4, hp⟩ := hp
  refine g_zald (mz_at hS (Nat.le_of_ble_eq_true rfl) mzcS_315) h3 h4 ?_
  refine g_zeq (tg := 474) rfl ms_477_474 hC (fun h5 hC => ?_) (fun h5 hC => ?_)
  · have hp := hp.1 h5
    refine g_lconst mzl_1 (g_goto (tg := 475) rfl ms_477_475 ?_)
    refine g_weak ?_ (g_cl (cg_477_475 hd hS hR 3 1 1 v2 (cf_410_0 2 1 ((mz_gI N 314 v2).toInt64) N) hr hp hC))
    exact ⟨rfl, rfl, trivial⟩
  · have hp := hp.2 h5
    refine g_lconst mzl_0 ?_
    refine g_weak ?_ (g_cl (cg_477_475 hd hS hR 3 1 0 v2 (cf_410_0 2 1 ((mz_gI N 314 v2).toInt64) N) hr hp hC))
    exact ⟨rfl, rfl, trivial⟩
theorem cg_477_0 (hd : 1 ≤ d) (hS : mz_extR S 342) (hR : mz_rok R 342)  (v1 : Int32) (v2 : Int32) (N : mz_N) {C0 : (mz_N) → Prop} (hr : ∀ (N2 : mz_N), C0 N2 → Q (.inl none) (mz_k S R N2 b t)) (hp : cp_477_0 v1 v2 N) (hC : C0 (cf_477_0 v1 v2 N)) : mz_G (d, mz_X0 L xs, none, [], mk_477, 4, Q) 0 mk_477 [(0, .ref 232), (1, .int v1), (2, .int v2)] [] true (mz_k S R N b t) := by
  unfold cf_477_0 at hC
  unfold cp_477_0 at hp
  refine g_iload_n rfl ?_
  refine mz_cs hC (fun h1 hC => ?_) (fun h1 hC => ?_)
  · have hp := hp.1 h1
    refine g_brn (tg := 44) (by rw [h1]; rfl) (by decide) rfl ?_
    refine g_aload_n rfl (g_iconst mzi_0 (g_bipush mzb_8 (g_aload_n rfl (g_getR (mz_at hS (Nat.le_of_ble_eq_true rfl) mzcS_232) mzcf_12_120 (mz_rb hR (Nat.le_of_ble_eq_true rfl) rfl mzcR_232_120) (g_iload_n rfl ?_)))))
    obtain ⟨h31, hp⟩ := hp
    refine g_lald (mz_at hS (Nat.le_of_ble_eq_true rfl) mzcS_324) h31 ?_
    obtain ⟨h32, hp⟩ := hp
    refine g_v4n (Nat.le_of_ble_eq_true rfl) (mz_at hS (Nat.le_of_ble_eq_true rfl) mzcS_232) (fun _ hq => cs_410 (Nat.le_trans (Nat.le_of_ble_eq_true rfl) hd) (hS.le (Nat.le_of_ble_eq_true rfl)) (hR.le (Nat.le_of_ble_eq_true rfl))  0 8 (mz_gL N 324 v2) N h32 hq) (g_aload_n rfl (g_bipush mzb_8 (g_bipush mzb_8 (g_aload_n rfl (g_getR (mz_at hS (Nat.le_of_ble_eq_true rfl) mzcS_232) mzcf_12_121 (mz_rb hR (Nat.le_of_ble_eq_true rfl) rfl mzcR_232_121) (g_iload_n rfl ?_))))))
    obtain ⟨h33, hp⟩ := hp
    refine g_lald (mz_at hS (Nat.le_of_ble_eq_true rfl) mzcS_325) h33 ?_
    obtain ⟨h34, hp⟩ := hp
    refine g_v4n (Nat.le_of_ble_eq_true rfl) (mz_at hS (Nat.le_of_ble_eq_true rfl) mzcS_232) (fun _ hq => cs_410 (Nat.le_trans (Nat.le_of_ble_eq_true rfl) hd) (hS.le (Nat.le_of_ble_eq_true rfl)) (hR.le (Nat.le_of_ble_eq_true rfl))  8 8 (mz_gL (cf_410_0 0 8 (mz_gL N 324 v2) N) 325 v2) (cf_410_0 0 8 (mz_gL N 324 v2) N) h34 hq) ?_
    refine g_weak ?_ (g_cl (cg_477_71 hd hS hR v2 (cf_410_0 8 8 (mz_gL (cf_410_0 0 8 (mz_gL N 324 v2) N) 325 v2) (cf_410_0 0 8 (mz_gL N 324 v2) N)) hr hp hC))
    exact ⟨rfl, rfl, trivial⟩
  · have hp := hp.2 h1
    refine mz_cs hC (fun h2 hC => ?_) (fun h2 hC => ?_)
    · have hp := hp.1 h2
      refine g_br (tg := 113) (by rw [h2]; rfl) ms_477_113 ?_
      refine g_aload_n rfl (g_iconst mzi_0 (g_iconst mzi_4 (g_aload_n rfl (g_getL (mz_at hS (Nat.le_of_ble_eq_true rfl) mzcS_232) mzcf_12_2 ?_))))
      obtain ⟨h29, hp⟩ := hp
      refine g_v4n (Nat.le_of_ble_eq_true rfl) (mz_at hS (Nat.le_of_ble_eq_true rfl) mzcS_232) (fun _ hq => cs_410 (Nat.le_trans (Nat.le_of_ble_eq_true rfl) hd) (hS.le (Nat.le_of_ble_eq_true rfl)) (hR.le (Nat.le_of_ble_eq_true rfl))  0 4 (N.2 232 2) N h29 hq) (g_aload_n rfl (g_iconst mzi_4 (g_bipush mzb_8 (g_aload_n rfl (g_getL (mz_at hS (Nat.le_of_ble_eq_true rfl) mzcS_232) mzcf_12_122 ?_)))))
      obtain ⟨h30, hp⟩ := hp
      refine g_v4n (Nat.le_of_ble_eq_true rfl) (mz_at hS (Nat.le_of_ble_eq_true rfl) mzcS_232) (fun _ hq => cs_410 (Nat.le_trans (Nat.le_of_ble_eq_true rfl) hd) (hS.le (Nat.le_of_ble_eq_true rfl)) (hR.le (Nat.le_of_ble_eq_true rfl))  4 8 ((cf_410_0 0 4 (N.2 232 2) N).2 232 122) (cf_410_0 0 4 (N.2 232 2) N) h30 hq) ?_
      refine g_weak ?_ (g_cl (cg_477_134 hd hS hR (cf_410_0 4 8 ((cf_410_0 0 4 (N.2 232 2) N).2 232 122) (cf_410_0 0 4 (N.2 232 2) N)) hr hp hC))
      exact ⟨rfl, trivial⟩
    · have hp := hp.2 h2
      refine mz_cs hC (fun h3 hC => ?_) (fun h3 hC => ?_)
      · have hp := hp.1 h3
        refine g_br (tg := 171) (by rw [h3]; rfl) ms_477_171 ?_
        refine g_aload_n rfl (g_iconst mzi_0 (g_iconst mzi_4 (g_aload_n rfl (g_getR (mz_at hS (Nat.le_of_ble_eq_true rfl) mzcS_232) mzcf_12_118 (mz_rb hR (Nat.le_of_ble_eq_true rfl) rfl mzcR_232_118) (g_bipush mzb_10 (g_lald (mz_at hS (Nat.le_of_ble_eq_true rfl) mzcS_322) (mz_ibd (by decide)) ?_))))))
        obtain ⟨h27, hp⟩ := hp
        refine g_v4n (Nat.le_of_ble_eq_true rfl) (mz_at hS (Nat.le_of_ble_eq_true rfl) mzcS_232) (fun _ hq => cs_410 (Nat.le_trans (Nat.le_of_ble_eq_true rfl) hd) (hS.le (Nat.le_of_ble_eq_true rfl)) (hR.le (Nat.le_of_ble_eq_true rfl))  0 4 (mz_gL N 322 10) N h27 hq) (g_aload_n rfl (g_iconst mzi_4 (g_iconst mzi_4 (g_aload_n rfl (g_getR (mz_at hS (Nat.le_of_ble_eq_true rfl) mzcS_232) mzcf_12_117 (mz_rb hR (Nat.le_of_ble_eq_true rfl) rfl mzcR_232_117) (g_bipush mzb_10 (g_lald (mz_at hS (Nat.le_of_ble_eq_true rfl) mzcS_321) (mz_ibd (by decide)) ?_)))))))
        obtain ⟨h28, hp⟩ := hp
        refine g_v4n (Nat.le_of_ble_eq_true rfl) (mz_at hS (Nat.le_of_ble_eq_true rfl) mzcS_232) (fun _ hq => cs_410 (Nat.le_trans (Nat.le_of_ble_eq_true rfl) hd) (hS.le (Nat.le_of_ble_eq_true rfl)) (hR.le (Nat.le_of_ble_eq_true rfl))  4 4 (mz_gL (cf_410_0 0 4 (mz_gL N 322 10) N) 321 10) (cf_410_0 0 4 (mz_gL N 322 10) N) h28 hq) ?_
        refine g_weak ?_ (g_cl (cg_477_197 hd hS hR (cf_410_0 4 4 (mz_gL (cf_410_0 0 4 (mz_gL N 322 10) N) 321 10) (cf_410_0 0 4 (mz_gL N 322 10) N)) hr hp hC))
        exact ⟨rfl, trivial⟩
      · have hp := hp.2 h3
        refine mz_cs hC (fun h4 hC => ?_) (fun h4 hC => ?_)
        · have hp := hp.1 h4
          refine g_br (tg := 243) (by rw [h4]; rfl) ms_477_243 ?_
          refine g_aload_n rfl (g_iconst mzi_0 (g_iconst mzi_4 (g_aload_n rfl (g_getR (mz_at hS (Nat.le_of_ble_eq_true rfl) mzcS_232) mzcf_12_23 (mz_rb hR (Nat.le_of_ble_eq_true rfl) rfl mzcR_232_23) (g_iload_n rfl ?_)))))
          obtain ⟨h23, hp⟩ := hp
          refine g_iald hS.1 (mz_at hS (Nat.le_of_ble_eq_true rfl) mzcS_250) h23 (g_i2l ?_)
          obtain ⟨h24, hp⟩ := hp
          refine g_v4n (Nat.le_of_ble_eq_true rfl) (mz_at hS (Nat.le_of_ble_eq_true rfl) mzcS_232) (fun _ hq => cs_410 (Nat.le_trans (Nat.le_of_ble_eq_true rfl) hd) (hS.le (Nat.le_of_ble_eq_true rfl)) (hR.le (Nat.le_of_ble_eq_true rfl))  0 4 ((mz_gI N 250 v2).toInt64) N h24 hq) (g_aload_n rfl (g_iconst mzi_4 (g_iconst mzi_4 (g_aload_n rfl (g_getR (mz_at hS (Nat.le_of_ble_eq_true rfl) mzcS_232) mzcf_12_100 (mz_rb hR (Nat.le_of_ble_eq_true rfl) rfl mzcR_232_100) (g_iload_n rfl ?_))))))
          obtain ⟨h25, hp⟩ := hp
          refine g_lald (mz_at hS (Nat.le_of_ble_eq_true rfl) mzcS_305) h25 ?_
          obtain ⟨h26, hp⟩ := hp
          refine g_v4n (Nat.le_of_ble_eq_true rfl) (mz_at hS (Nat.le_of_ble_eq_true rfl) mzcS_232) (fun _ hq => cs_410 (Nat.le_trans (Nat.le_of_ble_eq_true rfl) hd) (hS.le (Nat.le_of_ble_eq_true rfl)) (hR.le (Nat.le_of_ble_eq_true rfl))  4 4 (mz_gL (cf_410_0 0 4 ((mz_gI N 250 v2).toInt64) N) 305 v2) (cf_410_0 0 4 ((mz_gI N 250 v2).toInt64) N) h26 hq) ?_
          refine g_weak ?_ (g_cl (cg_477_268 hd hS hR v2 (cf_410_0 4 4 (mz_gL (cf_410_0 0 4 ((mz_gI N 250 v2).toInt64) N) 305 v2) (cf_410_0 0 4 ((mz_gI N 250 v2).toInt64) N)) hr hp hC))
          exact ⟨rfl, rfl, trivial⟩
        · have hp := hp.2 h4
          refine mz_cs hC (fun h5 hC => ?_) (fun h5 hC => ?_)
          · have hp := hp.1 h5
            refine g_br (tg := 306) (by rw [h5]; rfl) ms_477_306 ?_
            refine g_aload_n rfl (g_getR (mz_at hS (Nat.le_of_ble_eq_true rfl) mzcS_232) mzcf_12_80 (mz_rb hR (Nat.le_of_ble_eq_true rfl) rfl mzcR_232_80) (g_iload_n rfl ?_))
            obtain ⟨h17, hp⟩ := hp
            obtain ⟨h18, hp⟩ := hp
            refine g_zald (mz_at hS (Nat.le_of_ble_eq_true rfl) mzcS_287) h17 h18 ?_
            refine g_zeq (tg := 527) rfl ms_477_527 hC (fun h19 hC => ?_) (fun h19 hC => ?_)
            · have hp := hp.1 h19
              refine g_aload_n rfl (g_iconst mzi_0 (g_iconst mzi_1 (g_lconst mzl_1 ?_)))
              obtain ⟨h20, hp⟩ := hp
              refine g_v4n (Nat.le_of_ble_eq_true rfl) (mz_at hS (Nat.le_of_ble_eq_true rfl) mzcS_232) (fun _ hq => cs_410 (Nat.le_trans (Nat.le_of_ble_eq_true rfl) hd) (hS.le (Nat.le_of_ble_eq_true rfl)) (hR.le (Nat.le_of_ble_eq_true rfl))  0 1 1 N h20 hq) (g_aload_n rfl (g_iconst mzi_1 (g_iconst mzi_1 (g_aload_n rfl (g_getR (mz_at hS (Nat.le_of_ble_eq_true rfl) mzcS_232) mzcf_12_81 (mz_rb hR (Nat.le_of_ble_eq_true rfl) rfl mzcR_232_81) (g_iload_n rfl ?_))))))
              obtain ⟨h21, hp⟩ := hp
              refine g_iald hS.1 (mz_at hS (Nat.le_of_ble_eq_true rfl) mzcS_288) h21 (g_i2l ?_)
              obtain ⟨h22, hp⟩ := hp
              refine g_v4n (Nat.le_of_ble_eq_true rfl) (mz_at hS (Nat.le_of_ble_eq_true rfl) mzcS_232) (fun _ hq => cs_410 (Nat.le_trans (Nat.le_of_ble_eq_true rfl) hd) (hS.le (Nat.le_of_ble_eq_true rfl)) (hR.le (Nat.le_of_ble_eq_true rfl))  1 1 ((mz_gI (cf_410_0 0 1 1 N) 288 v2).toInt64) (cf_410_0 0 1 1 N) h22 hq) ?_
              refine g_weak ?_ (g_cl (cg_477_335 hd hS hR v2 (cf_410_0 1 1 ((mz_gI (cf_410_0 0 1 1 N) 288 v2).toInt64) (cf_410_0 0 1 1 N)) hr hp hC))
              exact ⟨rfl, rfl, trivial⟩
            · have hp := hp.2 h19
              exact g_vret rfl (hr _ hC)
          · have hp := hp.2 h5
            refine mz_cs hC (fun h6 hC => ?_) (fun h6 hC => ?_)
            · have hp := hp.1 h6
              refine g_br (tg := 389) (by rw [h6]; rfl) ms_477_389 ?_
              refine g_aload_n rfl (g_iconst mzi_0 (g_iconst mzi_1 (g_lconst mzl_1 ?_)))
              obtain ⟨h14, hp⟩ := hp
              refine g_v4n (Nat.le_of_ble_eq_true rfl) (mz_at hS (Nat.le_of_ble_eq_true rfl) mzcS_232) (fun _ hq => cs_410 (Nat.le_trans (Nat.le_of_ble_eq_true rfl) hd) (hS.le (Nat.le_of_ble_eq_true rfl)) (hR.le (Nat.le_of_ble_eq_true rfl))  0 1 1 N h14 hq) (g_aload_n rfl (g_iconst mzi_1 (g_iconst mzi_1 (g_aload_n rfl (g_getR (mz_at hS (Nat.le_of_ble_eq_true rfl) mzcS_232) mzcf_12_104 (mz_rb hR (Nat.le_of_ble_eq_true rfl) rfl mzcR_232_104) (g_iload_n rfl ?_))))))
              obtain ⟨h15, hp⟩ := hp
              refine g_iald hS.1 (mz_at hS (Nat.le_of_ble_eq_true rfl) mzcS_309) h15 (g_i2l ?_)
              obtain ⟨h16, hp⟩ := hp
              refine g_v4n (Nat.le_of_ble_eq_true rfl) (mz_at hS (Nat.le_of_ble_eq_true rfl) mzcS_232) (fun _ hq => cs_410 (Nat.le_trans (Nat.le_of_ble_eq_true rfl) hd) (hS.le (Nat.le_of_ble_eq_true rfl)) (hR.le (Nat.le_of_ble_eq_true rfl))  1 1 ((mz_gI (cf_410_0 0 1 1 N) 309 v2).toInt64) (cf_410_0 0 1 1 N) h16 hq) ?_
              refine g_weak ?_ (g_cl (cg_477_409 hd hS hR v2 (cf_410_0 1 1 ((mz_gI (cf_410_0 0 1 1 N) 309 v2).toInt64) (cf_410_0 0 1 1 N)) hr hp hC))
              exact ⟨rfl, rfl, trivial⟩
            · have hp := hp.2 h6
              refine mz_cs hC (fun h7 hC => ?_) (fun h7 hC => ?_)
              · have hp := hp.1 h7
                refine g_br (tg := 425) (by rw [h7]; rfl) ms_477_425 ?_
                refine g_aload_n rfl (g_iconst mzi_0 (g_iconst mzi_1 (g_lconst mzl_1 ?_)))
                obtain ⟨h11, hp⟩ := hp
                refine g_v4n (Nat.le_of_ble_eq_true rfl) (mz_at hS (Nat.le_of_ble_eq_true rfl) mzcS_232) (fun _ hq => cs_410 (Nat.le_trans (Nat.le_of_ble_eq_true rfl) hd) (hS.le (Nat.le_of_ble_eq_true rfl)) (hR.le (Nat.le_of_ble_eq_true rfl))  0 1 1 N h11 hq) (g_aload_n rfl (g_iconst mzi_1 (g_iconst mzi_1 (g_aload_n rfl (g_getR (mz_at hS (Nat.le_of_ble_eq_true rfl) mzcS_232) mzcf_12_108 (mz_rb hR (Nat.le_of_ble_eq_true rfl) rfl mzcR_232_108) (g_iload_n rfl ?_))))))
                obtain ⟨h12, hp⟩ := hp
                refine g_iald hS.1 (mz_at hS (Nat.le_of_ble_eq_true rfl) mzcS_313) h12 (g_i2l ?_)
                obtain ⟨h13, hp⟩ := hp
                refine g_v4n (Nat.le_of_ble_eq_true rfl) (mz_at hS (Nat.le_of_ble_eq_true rfl) mzcS_232) (fun _ hq => cs_410 (Nat.le_trans (Nat.le_of_ble_eq_true rfl) hd) (hS.le (Nat.le_of_ble_eq_true rfl)) (hR.le (Nat.le_of_ble_eq_true rfl))  1 1 ((mz_gI (cf_410_0 0 1 1 N) 313 v2).toInt64) (cf_410_0 0 1 1 N) h13 hq) ?_
                refine g_weak ?_ (g_cl (cg_477_445 hd hS hR v2 (cf_410_0 1 1 ((mz_gI (cf_410_0 0 1 1 N) 313 v2).toInt64) (cf_410_0 0 1 1 N)) hr hp hC))
                exact ⟨rfl, rfl, trivial⟩
              · have hp := hp.2 h7
                refine g_br (tg := 494) ((mz_tsw_d (l := [8, 9, 10, 11, 12, 13, 14]) (mz_rng 8 6) ⟨h1, h2, h3, h4, h5, h6, h7, trivial⟩).trans (mz_tg_t rfl)) ms_477_494 ?_
                refine g_aload_n rfl (g_iconst mzi_0 (g_iconst mzi_1 (g_lconst mzl_1 ?_)))
                obtain ⟨h8, hp⟩ := hp
                refine g_v4n (Nat.le_of_ble_eq_true rfl) (mz_at hS (Nat.le_of_ble_eq_true rfl) mzcS_232) (fun _ hq => cs_410 (Nat.le_trans (Nat.le_of_ble_eq_true rfl) hd) (hS.le (Nat.le_of_ble_eq_true rfl)) (hR.le (Nat.le_of_ble_eq_true rfl))  0 1 1 N h8 hq) (g_aload_n rfl (g_iconst mzi_1 (g_iconst mzi_1 (g_aload_n rfl (g_getR (mz_at hS (Nat.le_of_ble_eq_true rfl) mzcS_232) mzcf_12_76 (mz_rb hR (Nat.le_of_ble_eq_true rfl) rfl mzcR_232_76) (g_iload_n rfl ?_))))))
                obtain ⟨h9, hp⟩ := hp
                refine g_iald hS.1 (mz_at hS (Nat.le_of_ble_eq_true rfl) mzcS_283) h9 (g_i2l ?_)
                obtain ⟨h10, hp⟩ := hp
                refine g_v4n (Nat.le_of_ble_eq_true rfl) (mz_at hS (Nat.le_of_ble_eq_true rfl) mzcS_232) (fun _ hq => cs_410 (Nat.le_trans (Nat.le_of_ble_eq_true rfl) hd) (hS.le (Nat.le_of_ble_eq_true rfl)) (hR.le (Nat.le_of_ble_eq_true rfl))  1 1 ((mz_gI (cf_410_0 0 1 1 N) 283 v2).toInt64) (cf_410_0 0 1 1 N) h10 hq) ?_
                refine g_weak ?_ (g_cl (cg_477_514 hd hS hR v2 (cf_410_0 1 1 ((mz_gI (cf_410_0 0 1 1 N) 283 v2).toInt64) (cf_410_0 0 1 1 N)) hr hp hC))
                exact ⟨rfl, rfl, trivial⟩
theorem cs_477 (hd : 2 ≤ d) (hS : mz_extR S 342) (hR : mz_rok R 342)  (v1 : Int32) (v2 : Int32) (N : mz_N) (hp : cp_477_0 v1 v2 N) (hq : Q (.inl none) (mz_k S R (cf_477_0 v1 v2 N) b t)) : mz_Ed (mz_X0 L xs) d 477 [.ref 232, .int v1, .int v2] (mz_k S R N b t) Q :=
  by
  refine g_in mzq_477 (Nat.le_of_ble_eq_true rfl) (Nat.le_of_ble_eq_true rfl) (Nat.le_trans (Nat.le_of_ble_eq_true rfl) hd) ?_
  refine g_weak ?_ (cg_477_0 (d := d - 1) (by omega) hS hR v1 v2 N (C0 := fun z => Q (.inl none) (mz_k S R z b t)) (fun _ h => h) hp hq)
  exact ⟨rfl, rfl, rfl, trivial⟩
end Fn24
