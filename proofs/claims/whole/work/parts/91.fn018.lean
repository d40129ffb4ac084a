/-! THE FUNCTIONS: written by program: each method comes to its function. -/
section Fn18
variable {L : Nat} {xs : Nat → Int32} {d : Nat} {S : mz_S} {R : Nat → Nat → Option Nat} {Q : mz_Q} {N : mz_N} {b : Bool} {t : Nat}
/-! 389 KeptHouse$Plan.areEdges ([II)Z -/
theorem ms_389_0 : mz_sf mk_389 0 = mk_389 := mz_sf_zero _
theorem ms_389_2 : mz_sf mk_389 2 = mt_389_2 := mz_sf_add ms_389_0 (t := 2) rfl rfl
theorem ms_389_30 : mz_sf mk_389 30 = mt_389_30 := mz_sf_add ms_389_2 (t := 28) rfl rfl
theorem ms_389_32 : mz_sf mk_389 32 = mt_389_32 := mz_sf_add ms_389_30 (t := 2) rfl rfl
theorem ms_389_38 : mz_sf mk_389 38 = mt_389_38 := mz_sf_add ms_389_32 (t := 6) rfl rfl
theorem ms_389_53 : mz_sf mk_389 53 = mt_389_53 := mz_sf_add ms_389_38 (t := 15) rfl rfl
theorem ms_389_54 : mz_sf mk_389 54 = mt_389_54 := mz_sf_add ms_389_53 (t := 1) rfl rfl
set_option maxRecDepth 100000 in
theorem mzq_389 : mz_PG0 389 = some (5, ⟨"KeptHouse$Plan", "areEdges", "([II)Z"⟩, prog_7_method_39_code, 3, some .boolean, [], mk_389, []) := rfl
theorem cb_389_2 (hd : 2 ≤ d) (hS : mz_ext S 232) (hR : mz_rok R 232)  (v1 : Int32) (N : mz_N) (s : Int32) {C0 : (Bool) → Prop} (hr : ∀ (w : Bool), C0 w → Q (.inl (some (.int (mz_b01 w)))) (mz_k S R N b t)) {C1 : ((Int32) ⊕ (Bool)) → Prop} (hc1 : ∀ s2, C1 (.inl s2) → mz_G (d, mz_X0 L xs, some .boolean, [], mk_389, 3, Q) 2 mt_389_2 [(0, .ref 230), (1, .int v1), (2, .int s2)] [] false (mz_k S R N b t)) (hx1 : ∀ z, C1 (.inr z) → C0 z) (hp : cd_389_2 v1 N s) (hC : C1 (cq_389_2 v1 N s)) : mz_G (d, mz_X0 L xs, some .boolean, [], mk_389, 3, Q) 2 mt_389_2 [(0, .ref 230), (1, .int v1), (2, .int s)] [] false (mz_k S R N b t) := by
  unfold cq_389_2 at hC
  unfold cd_389_2 at hp
  refine g_iload_n rfl (g_bipush mzb_110 ?_)
  refine g_icge (tg := 38) rfl ms_389_38 hC (fun h1 hC => ?_) (fun h1 hC => ?_)
  · have hp := hp.1 h1
    refine g_iload_n rfl (g_aload_n rfl (g_iload_n rfl (g_iload_n rfl (g_iconst mzi_4 (g_idiv (by decide) (g_iadd ?_))))))
    have h2 := hp
    refine g_iald hS.1 (mz_at hS (Nat.le_of_ble_eq_true rfl) mzcS_230) h2 (g_iconst mzi_2 (g_iload_n rfl (g_iconst mzi_4 (g_irem (by decide) (g_imul (g_ishr (g_iconst mzi_3 ?_)))))))
    refine g_iand ?_
    refine g_s2v (Nat.le_of_ble_eq_true rfl) (fun _ hq => cs_109 (Nat.le_trans (Nat.le_of_ble_eq_true rfl) hd) (hS.le (Nat.le_of_ble_eq_true rfl)) (hR.le (Nat.le_of_ble_eq_true rfl))  s ((mz_ishr (mz_gI N 230 (v1 + (s / 4))) (2 * (mz_irem s 4))) &&& 3) trivial hq) ?_
    refine g_zne (tg := 32) rfl ms_389_32 hC (fun h4 hC => ?_) (fun h4 hC => ?_)
    · refine g_iinc rfl mzi_1 (Nat.le_of_ble_eq_true rfl) rfl (g_goto (tg := 2) rfl ms_389_2 ?_)
      refine g_weak ?_ (g_cl (hc1 ((s + 1)) hC))
      exact ⟨rfl, rfl, rfl, trivial⟩
    · refine g_iconst mzi_0 ?_
      exact g_zret (z := false) rfl (hr _ (hx1 _ hC))
  · have hp := hp.2 h1
    refine g_aload_n rfl (g_iload_n rfl (g_bipush mzb_27 (g_iadd ?_)))
    have h5 := hp
    refine g_iald hS.1 (mz_at hS (Nat.le_of_ble_eq_true rfl) mzcS_230) h5 (g_bipush mzb_16 ?_)
    refine g_icge (tg := 53) rfl ms_389_53 hC (fun h6 hC => ?_) (fun h6 hC => ?_)
    · refine g_iconst mzi_1 (g_goto (tg := 54) rfl ms_389_54 ?_)
      exact g_zret (z := true) rfl (hr _ (hx1 _ hC))
    · refine g_iconst mzi_0 ?_
      exact g_zret (z := false) rfl (hr _ (hx1 _ hC))
theorem cg_389_2 (hd : 2 ≤ d) (hS : mz_ext S 232) (hR : mz_rok R 232)  (v1 : Int32) (v2 : Int32) (N : mz_N) {C0 : (Bool) → Prop} (hr : ∀ (w : Bool), C0 w → Q (.inl (some (.int (mz_b01 w)))) (mz_k S R N b t)) (hp : cp_389_2 v1 v2 N) (hC : C0 (cf_389_2 v1 v2 N)) : mz_G (d, mz_X0 L xs, some .boolean, [], mk_389, 3, Q) 2 mt_389_2 [(0, .ref 230), (1, .int v1), (2, .int v2)] [] false (mz_k S R N b t) := by
  obtain ⟨n, hn⟩ := hp
  exact g_loop (G := fun s => mz_G (d, mz_X0 L xs, some .boolean, [], mk_389, 3, Q) 2 mt_389_2 [(0, .ref 230), (1, .int v1), (2, .int s)] [] false (mz_k S R N b t)) (C := C0) (fun C2 hc hx s hP hC => cb_389_2 hd hS hR v1 N s hr hc hx hP hC) n (v2) hn hC
theorem cg_389_0 (hd : 2 ≤ d) (hS : mz_ext S 232) (hR : mz_rok R 232)  (v1 : Int32) (N : mz_N) {C0 : (Bool) → Prop} (hr : ∀ (w : Bool), C0 w → Q (.inl (some (.int (mz_b01 w)))) (mz_k S R N b t)) (hp : cp_389_0 v1 N) (hC : C0 (cf_389_0 v1 N)) : mz_G (d, mz_X0 L xs, some .boolean, [], mk_389, 3, Q) 0 mk_389 [(0, .ref 230), (1, .int v1)] [] true (mz_k S R N b t) := by
  unfold cf_389_0 at hC
  unfold cp_389_0 at hp
  refine g_iconst mzi_0 (g_istore_n (Nat.le_of_ble_eq_true rfl) rfl ?_)
  refine g_weak ?_ (g_cl (cg_389_2 hd hS hR v1 0 N hr hp hC))
  exact ⟨rfl, rfl, rfl, trivial⟩
theorem cs_389 (hd : 3 ≤ d) (hS : mz_ext S 232) (hR : mz_rok R 232)  (v1 : Int32) (N : mz_N) (hp : cp_389_0 v1 N) (hq : Q (.inl (some (.int (mz_b01 (cf_389_0 v1 N))))) (mz_k S R N b t)) : mz_Ed (mz_X0 L xs) d 389 [.ref 230, .int v1] (mz_k S R N b t) Q :=
  by
  refine g_in mzq_389 (Nat.le_of_ble_eq_true rfl) (Nat.le_of_ble_eq_true rfl) (Nat.le_trans (Nat.le_of_ble_eq_true rfl) hd) ?_
  refine g_weak ?_ (cg_389_0 (d := d - 1) (by omega) hS hR v1 N (C0 := fun z => Q (.inl (some (.int (mz_b01 z)))) (mz_k S R N b t)) (fun _ h => h) hp hq)
  exact ⟨rfl, rfl, trivial⟩
/-! 390 KeptHouse$Plan.areFlats ([II)Z -/
theorem ms_390_0 : mz_sf mk_390 0 = mk_390 := mz_sf_zero _
theorem ms_390_2 : mz_sf mk_390 2 = mt_390_2 := mz_sf_add ms_390_0 (t := 2) rfl rfl
theorem ms_390_30 : mz_sf mk_390 30 = mt_390_30 := mz_sf_add ms_390_2 (t := 28) rfl rfl
theorem ms_390_32 : mz_sf mk_390 32 = mt_390_32 := mz_sf_add ms_390_30 (t := 2) rfl rfl
theorem ms_390_38 : mz_sf mk_390 38 = mt_390_38 := mz_sf_add ms_390_32 (t := 6) rfl rfl
set_option maxRecDepth 100000 in
theorem mzq_390 : mz_PG0 390 = some (5, ⟨"KeptHouse$Plan", "areFlats", "([II)Z"⟩, prog_7_method_42_code, 3, some .boolean, [], mk_390, []) := rfl
theorem cb_390_2 (hd : 1 ≤ d) (hS : mz_ext S 232) (hR : mz_rok R 232)  (v1 : Int32) (N : mz_N) (s : Int32) {C0 : (Bool) → Prop} (hr : ∀ (w : Bool), C0 w → Q (.inl (some (.int (mz_b01 w)))) (mz_k S R N b t)) {C1 : ((Int32) ⊕ (Bool)) → Prop} (hc1 : ∀ s2, C1 (.inl s2) → mz_G (d, mz_X0 L xs, some .boolean, [], mk_390, 3, Q) 2 mt_390_2 [(0, .ref 230), (1, .int v1), (2, .int s2)] [] false (mz_k S R N b t)) (hx1 : ∀ z, C1 (.inr z) → C0 z) (hp : cd_390_2 v1 N s) (hC : C1 (cq_390_2 v1 N s)) : mz_G (d, mz_X0 L xs, some .boolean, [], mk_390, 3, Q) 2 mt_390_2 [(0, .ref 230), (1, .int v1), (2, .int s)] [] false (mz_k S R N b t) := by
  unfold cq_390_2 at hC
  unfold cd_390_2 at hp
  refine g_iload_n rfl (g_bipush mzb_48 ?_)
  refine g_icge (tg := 38) rfl ms_390_38 hC (fun h1 hC => ?_) (fun h1 hC => ?_)
  · have hp := hp.1 h1
    refine g_aload_n rfl (g_iload_n rfl (g_iload_n rfl (g_iconst mzi_2 (g_idiv (by decide) (g_iadd ?_)))))
    obtain ⟨h2, hp⟩ := hp
    refine g_iald hS.1 (mz_at hS (Nat.le_of_ble_eq_true rfl) mzcS_230) h2 (g_iconst mzi_4 (g_iload_n rfl (g_iconst mzi_2 (g_irem (by decide) (g_imul (g_ishr (g_bipush mzb_15 ?_)))))))
    refine g_iand ?_
    have h3 := hp
    refine g_s1v (Nat.le_of_ble_eq_true rfl) (fun _ hq => cs_170 (Nat.le_trans (Nat.le_of_ble_eq_true rfl) hd) (hS.le (Nat.le_of_ble_eq_true rfl)) (hR.le (Nat.le_of_ble_eq_true rfl))  ((mz_ishr (mz_gI N 230 (v1 + (s / 2))) (4 * (mz_irem s 2))) &&& 15) h3 hq) ?_
    refine g_zne (tg := 32) rfl ms_390_32 hC (fun h4 hC => ?_) (fun h4 hC => ?_)
    · refine g_iinc rfl mzi_1 (Nat.le_of_ble_eq_true rfl) rfl (g_goto (tg := 2) rfl ms_390_2 ?_)
      refine g_weak ?_ (g_cl (hc1 ((s + 1)) hC))
      exact ⟨rfl, rfl, rfl, trivial⟩
    · refine g_iconst mzi_0 ?_
      exact g_zret (z := false) rfl (hr _ (hx1 _ hC))
  · have hp := hp.2 h1
    refine g_aload_n rfl (g_iload_n rfl (g_bipush mzb_24 ?_))
    have h5 := hp
    refine g_s3v (Nat.le_of_ble_eq_true rfl) (fun _ hq => cs_75 (Nat.le_trans (Nat.le_of_ble_eq_true rfl) hd) (hS.le (Nat.le_of_ble_eq_true rfl)) (hR.le (Nat.le_of_ble_eq_true rfl)) 230 (mz_at hS (Nat.le_of_ble_eq_true rfl) mzcS_230) v1 24 N h5 hq) ?_
    exact g_zret (z := (cf_75_0 230 v1 24 N)) rfl (hr _ (hx1 _ hC))
theorem cg_390_2 (hd : 1 ≤ d) (hS : mz_ext S 232) (hR : mz_rok R 232)  (v1 : Int32) (v2 : Int32) (N : mz_N) {C0 : (Bool) → Prop} (hr : ∀ (w : Bool), C0 w → Q (.inl (some (.int (mz_b01 w)))) (mz_k S R N b t)) (hp : cp_390_2 v1 v2 N) (hC : C0 (cf_390_2 v1 v2 N)) : mz_G (d, mz_X0 L xs, some .boolean, [], mk_390, 3, Q) 2 mt_390_2 [(0, .ref 230), (1, .int v1), (2, .int v2)] [] false (mz_k S R N b t) := by
  obtain ⟨n, hn⟩ := hp
  exact g_loop (G := fun s => mz_G (d, mz_X0 L xs, some .boolean, [], mk_390, 3, Q) 2 mt_390_2 [(0, .ref 230), (1, .int v1), (2, .int s)] [] false (mz_k S R N b t)) (C := C0) (fun C2 hc hx s hP hC => cb_390_2 hd hS hR v1 N s hr hc hx hP hC) n (v2) hn hC
theorem cg_390_0 (hd : 1 ≤ d) (hS : mz_ext S 232) (hR : mz_rok R 232)  (v1 : Int32) (N : mz_N) {C0 : (Bool) → Prop} (hr : ∀ (w : Bool), C0 w → Q (.inl (some (.int (mz_b01 w)))) (mz_k S R N b t)) (hp : cp_390_0 v1 N) (hC : C0 (cf_390_0 v1 N)) : mz_G (d, mz_X0 L xs, some .boolean, [], mk_390, 3, Q) 0 mk_390 [(0, .ref 230), (1, .int v1)] [] true (mz_k S R N b t) := by
  unfold cf_390_0 at hC
  unfold cp_390_0 at hp
  refine g_iconst mzi_0 (g_istore_n (Nat.le_of_ble_eq_true rfl) rfl ?_)
  refine g_weak ?_ (g_cl (cg_390_2 hd hS hR v1 0 N hr hp hC))
  exact ⟨rfl, rfl, rfl, trivial⟩
theorem cs_390 (hd : 2 ≤ d) (hS : mz_ext S 232) (hR : mz_rok R 232)  (v1 : Int32) (N : mz_N) (hp : cp_390_0 v1 N) (hq : Q (.inl (some (.int (mz_b01 (cf_390_0 v1 N))))) (mz_k S R N b t)) : mz_Ed (mz_X0 L xs) d 390 [.ref 230, .int v1] (mz_k S R N b t) Q :=
  by
  refine g_in mzq_390 (Nat.le_of_ble_eq_true rfl) (Nat.le_of_ble_eq_true rfl) (Nat.le_trans (Nat.le_of_ble_eq_true rfl) hd) ?_
  refine g_weak ?_ (cg_390_0 (d := d - 1) (by omega) hS hR v1 N (C0 := fun z => Q (.inl (some (.int (mz_b01 z)))) (mz_k S R N b t)) (fun _ h => h) hp hq)
  exact ⟨rfl, rfl, trivial⟩
/-! 391 KeptHouse$Keeper.areBelow ([III)Z -/
theorem ms_391_0 : mz_sf mk_391 0 = mk_391 := mz_sf_zero _
theorem ms_391_2 : mz_sf mk_391 2 = mt_391_2 := mz_sf_add ms_391_0 (t := 2) rfl rfl
theorem ms_391_19 : mz_sf mk_391 19 = mt_391_19 := mz_sf_add ms_391_2 (t := 17) rfl rfl
theorem ms_391_25 : mz_sf mk_391 25 = mt_391_25 := mz_sf_add ms_391_19 (t := 6) rfl rfl
set_option maxRecDepth 100000 in
theorem mzq_391 : mz_PG0 391 = some (4, ⟨"KeptHouse$Keeper", "areBelow", "([III)Z"⟩, prog_6_method_9_code, 4, some .boolean, [], mk_391, []) := rfl
theorem cb_391_2 (hd : 1 ≤ d) (hS : mz_ext S 232) (hR : mz_rok R 232)  (v1 : Int32) (v2 : Int32) (N : mz_N) (s : Int32) {C0 : (Bool) → Prop} (hr : ∀ (w : Bool), C0 w → Q (.inl (some (.int (mz_b01 w)))) (mz_k S R N b t)) {C1 : ((Int32) ⊕ (Bool)) → Prop} (hc1 : ∀ s2, C1 (.inl s2) → mz_G (d, mz_X0 L xs, some .boolean, [], mk_391, 4, Q) 2 mt_391_2 [(0, .ref 230), (1, .int v1), (2, .int v2), (3, .int s2)] [] false (mz_k S R N b t)) (hx1 : ∀ z, C1 (.inr z) → C0 z) (hp : cd_391_2 v1 v2 N s) (hC : C1 (cq_391_2 v1 v2 N s)) : mz_G (d, mz_X0 L xs, some .boolean, [], mk_391, 4, Q) 2 mt_391_2 [(0, .ref 230), (1, .int v1), (2, .int v2), (3, .int s)] [] false (mz_k S R N b t) := by
  unfold cq_391_2 at hC
  unfold cd_391_2 at hp
  refine g_iload_n rfl (g_bipush mzb_24 ?_)
  refine g_icge (tg := 25) rfl ms_391_25 hC (fun h1 hC => ?_) (fun h1 hC => ?_)
  · have hp := hp.1 h1
    refine g_aload_n rfl (g_iload_n rfl (g_iload_n rfl (g_iadd ?_)))
    have h2 := hp
    refine g_iald hS.1 (mz_at hS (Nat.le_of_ble_eq_true rfl) mzcS_230) h2 (g_iload_n rfl ?_)
    refine g_icle (tg := 19) rfl ms_391_19 hC (fun h3 hC => ?_) (fun h3 hC => ?_)
    · refine g_iconst mzi_0 ?_
      exact g_zret (z := false) rfl (hr _ (hx1 _ hC))
    · refine g_iinc rfl mzi_1 (Nat.le_of_ble_eq_true rfl) rfl (g_goto (tg := 2) rfl ms_391_2 ?_)
      refine g_weak ?_ (g_cl (hc1 ((s + 1)) hC))
      exact ⟨rfl, rfl, rfl, rfl, trivial⟩
  · have hp := hp.2 h1
    refine g_aload_n rfl (g_iload_n rfl (g_bipush mzb_24 ?_))
    have h4 := hp
    refine g_s3v (Nat.le_of_ble_eq_true rfl) (fun _ hq => cs_75 (Nat.le_trans (Nat.le_of_ble_eq_true rfl) hd) (hS.le (Nat.le_of_ble_eq_true rfl)) (hR.le (Nat.le_of_ble_eq_true rfl)) 230 (mz_at hS (Nat.le_of_ble_eq_true rfl) mzcS_230) v1 24 N h4 hq) ?_
    exact g_zret (z := (cf_75_0 230 v1 24 N)) rfl (hr _ (hx1 _ hC))
theorem cg_391_2 (hd : 1 ≤ d) (hS : mz_ext S 232) (hR : mz_rok R 232)  (v1 : Int32) (v2 : Int32) (v3 : Int32) (N : mz_N) {C0 : (Bool) → Prop} (hr : ∀ (w : Bool), C0 w → Q (.inl (some (.int (mz_b01 w)))) (mz_k S R N b t)) (hp : cp_391_2 v1 v2 v3 N) (hC : C0 (cf_391_2 v1 v2 v3 N)) : mz_G (d, mz_X0 L xs, some .boolean, [], mk_391, 4, Q) 2 mt_391_2 [(0, .ref 230), (1, .int v1), (2, .int v2), (3, .int v3)] [] false (mz_k S R N b t) := by
  obtain ⟨n, hn⟩ := hp
  exact g_loop (G := fun s => mz_G (d, mz_X0 L xs, some .boolean, [], mk_391, 4, Q) 2 mt_391_2 [(0, .ref 230), (1, .int v1), (2, .int v2), (3, .int s)] [] false (mz_k S R N b t)) (C := C0) (fun C2 hc hx s hP hC => cb_391_2 hd hS hR v1 v2 N s hr hc hx hP hC) n (v3) hn hC
theorem cg_391_0 (hd : 1 ≤ d) (hS : mz_ext S 232) (hR : mz_rok R 232)  (v1 : Int32) (v2 : Int32) (N : mz_N) {C0 : (Bool) → Prop} (hr : ∀ (w : Bool), C0 w → Q (.inl (some (.int (mz_b01 w)))) (mz_k S R N b t)) (hp : cp_391_0 v1 v2 N) (hC : C0 (cf_391_0 v1 v2 N)) : mz_G (d, mz_X0 L xs, some .boolean, [], mk_391, 4, Q) 0 mk_391 [(0, .ref 230), (1, .int v1), (2, .int v2)] [] true (mz_k S R N b t) := by
  unfold cf_391_0 at hC
  unfold cp_391_0 at hp
  refine g_iconst mzi_0 (g_istore_n (Nat.le_of_ble_eq_true rfl) rfl ?_)
  refine g_weak ?_ (g_cl (cg_391_2 hd hS hR v1 v2 0 N hr hp hC))
  exact ⟨rfl, rfl, rfl, rfl, trivial⟩
theorem cs_391 (hd : 2 ≤ d) (hS : mz_ext S 232) (hR : mz_rok R 232)  (v1 : Int32) (v2 : Int32) (N : mz_N) (hp : cp_391_0 v1 v2 N) (hq : Q (.inl (some (.int (mz_b01 (cf_391_0 v1 v2 N))))) (mz_k S R N b t)) : mz_Ed (mz_X0 L xs) d 391 [.ref 230, .int v1, .int v2] (mz_k S R N b t) Q :=
  by
  refine g_in mzq_391 (Nat.le_of_ble_eq_true rfl) (Nat.le_of_ble_eq_true rfl) (Nat.le_trans (Nat.le_of_ble_eq_true rfl) hd) ?_
  refine g_weak ?_ (cg_391_0 (d := d - 1) (by omega) hS hR v1 v2 N (C0 := fun z => Q (.inl (some (.int (mz_b01 z)))) (mz_k S R N b t)) (fun _ h => h) hp hq)
  exact ⟨rfl, rfl, rfl, trivial⟩
/-! 393 KeptHouse$Store.isIn (JJJ)Z -/
theorem ms_393_0 : mz_sf mk_393 0 = mk_393 := mz_sf_zero _
theorem ms_393_17 : mz_sf mk_393 17 = mt_393_17 := mz_sf_add ms_393_0 (t := 17) rfl rfl
theorem ms_393_18 : mz_sf mk_393 18 = mt_393_18 := mz_sf_add ms_393_17 (t := 1) rfl rfl
set_option maxRecDepth 100000 in
theorem mzq_393 : mz_PG0 393 = some (8, ⟨"KeptHouse$Store", "isIn", "(JJJ)Z"⟩, prog_10_method_4_code, 6, some .boolean, [], mk_393, []) := rfl
theorem cg_393_0 (hd : 0 ≤ d) (hS : mz_ext S 232) (hR : mz_rok R 232)  (v0 : Int64) (v2 : Int64) (v4 : Int64) {C0 : (Bool) → Prop} (hr : ∀ (w : Bool), C0 w → Q (.inl (some (.int (mz_b01 w)))) (mz_k S R N b t)) (hp : cp_393_0 v0 v2 v4) (hC : C0 (cf_393_0 v0 v2 v4)) : mz_G (d, mz_X0 L xs, some .boolean, [], mk_393, 6, Q) 0 mk_393 [(0, .long v0), (2, .long v2), (4, .long v4)] [] true (mz_k S R N b t) := by
  unfold cf_393_0 at hC
  unfold cp_393_0 at hp
  refine g_lload_n rfl (g_lload_n rfl (g_lcmp ?_))
  refine g_llt (tg := 17) rfl ms_393_17 hC (fun h1 hC => ?_) (fun h1 hC => ?_)
  · refine g_iconst mzi_0 ?_
    exact g_zret (z := false) rfl (hr _ hC)
  · refine g_lload_n rfl (g_lload rfl (g_lcmp ?_))
    refine g_lgt (tg := 17) rfl ms_393_17 hC (fun h2 hC => ?_) (fun h2 hC => ?_)
    · refine g_iconst mzi_0 ?_
      exact g_zret (z := false) rfl (hr _ hC)
    · refine g_iconst mzi_1 (g_goto (tg := 18) rfl ms_393_18 ?_)
      exact g_zret (z := true) rfl (hr _ hC)
theorem cs_393 (hd : 1 ≤ d) (hS : mz_ext S 232) (hR : mz_rok R 232)  (v0 : Int64) (v2 : Int64) (v4 : Int64) (hp : cp_393_0 v0 v2 v4) (hq : Q (.inl (some (.int (mz_b01 (cf_393_0 v0 v2 v4))))) (mz_k S R N b t)) : mz_Ed (mz_X0 L xs) d 393 [.long v0, .long v2, .long v4] (mz_k S R N b t) Q :=
  by
  refine g_in mzq_393 (Nat.le_of_ble_eq_true rfl) (Nat.le_of_ble_eq_true rfl) (Nat.le_trans (Nat.le_of_ble_eq_true rfl) hd) ?_
  refine g_weak ?_ (cg_393_0 (d := d - 1) (by omega) hS hR v0 v2 v4 (C0 := fun z => Q (.inl (some (.int (mz_b01 z)))) (mz_k S R N b t)) (fun _ h => h) hp hq)
  exact ⟨rfl, rfl, rfl, trivial⟩
/-! 392 KeptHouse$Climate.isWeather ([II)Z -/
theorem ms_392_0 : mz_sf mk_392 0 = mk_392 := mz_sf_zero _
theorem ms_392_2 : mz_sf mk_392 2 = mt_392_2 := mz_sf_add ms_392_0 (t := 2) rfl rfl
theorem ms_392_30 : mz_sf mk_392 30 = mt_392_30 := mz_sf_add ms_392_2 (t := 28) rfl rfl
theorem ms_392_32 : mz_sf mk_392 32 = mt_392_32 := mz_sf_add ms_392_30 (t := 2) rfl rfl
theorem ms_392_38 : mz_sf mk_392 38 = mt_392_38 := mz_sf_add ms_392_32 (t := 6) rfl rfl
set_option maxRecDepth 100000 in
theorem mzq_392 : mz_PG0 392 = some (3, ⟨"KeptHouse$Climate", "isWeather", "([II)Z"⟩, prog_5_method_31_code, 3, some .boolean, [], mk_392, []) := rfl
theorem cb_392_2 (hd : 1 ≤ d) (hS : mz_ext S 232) (hR : mz_rok R 232)  (v1 : Int32) (N : mz_N) (s : Int32) {C0 : (Bool) → Prop} (hr : ∀ (w : Bool), C0 w → Q (.inl (some (.int (mz_b01 w)))) (mz_k S R N b t)) {C1 : ((Int32) ⊕ (Bool)) → Prop} (hc1 : ∀ s2, C1 (.inl s2) → mz_G (d, mz_X0 L xs, some .boolean, [], mk_392, 3, Q) 2 mt_392_2 [(0, .ref 230), (1, .int v1), (2, .int s2)] [] false (mz_k S R N b t)) (hx1 : ∀ z, C1 (.inr z) → C0 z) (hp : cd_392_2 v1 N s) (hC : C1 (cq_392_2 v1 N s)) : mz_G (d, mz_X0 L xs, some .boolean, [], mk_392, 3, Q) 2 mt_392_2 [(0, .ref 230), (1, .int v1), (2, .int s)] [] false (mz_k S R N b t) := by
  unfold cq_392_2 at hC
  unfold cd_392_2 at hp
  refine g_iload_n rfl (g_bipush mzb_12 ?_)
  refine g_icge (tg := 38) rfl ms_392_38 hC (fun h1 hC => ?_) (fun h1 hC => ?_)
  · have hp := hp.1 h1
    refine g_aload_n rfl (g_iload_n rfl (g_iconst mzi_2 (g_iload_n rfl (g_imul (g_iadd (g_iconst mzi_2 ?_))))))
    have h2 := hp
    refine g_s3v (Nat.le_of_ble_eq_true rfl) (fun _ hq => cs_61 (Nat.le_trans (Nat.le_of_ble_eq_true rfl) hd) (hS.le (Nat.le_of_ble_eq_true rfl)) (hR.le (Nat.le_of_ble_eq_true rfl)) 230 3780 (mz_at hS (Nat.le_of_ble_eq_true rfl) mzcS_230) (v1 + (2 * s)) 2 N h2 hq) (g_con3 (g_con3 ?_))
    refine g_s3v (Nat.le_of_ble_eq_true rfl) (fun _ hq => cs_393 (Nat.le_trans (Nat.le_of_ble_eq_true rfl) hd) (hS.le (Nat.le_of_ble_eq_true rfl)) (hR.le (Nat.le_of_ble_eq_true rfl))  (cf_61_0 230 3780 (v1 + (2 * s)) 2 N) (-400) 500 trivial hq) ?_
    refine g_zne (tg := 32) rfl ms_392_32 hC (fun h4 hC => ?_) (fun h4 hC => ?_)
    · refine g_iinc rfl mzi_1 (Nat.le_of_ble_eq_true rfl) rfl (g_goto (tg := 2) rfl ms_392_2 ?_)
      refine g_weak ?_ (g_cl (hc1 ((s + 1)) hC))
      exact ⟨rfl, rfl, rfl, trivial⟩
    · refine g_iconst mzi_0 ?_
      exact g_zret (z := false) rfl (hr _ (hx1 _ hC))
  · have hp := hp.2 h1
    refine g_aload_n rfl (g_iload_n rfl (g_bipush mzb_24 ?_))
    have h5 := hp
    refine g_s3v (Nat.le_of_ble_eq_true rfl) (fun _ hq => cs_75 (Nat.le_trans (Nat.le_of_ble_eq_true rfl) hd) (hS.le (Nat.le_of_ble_eq_true rfl)) (hR.le (Nat.le_of_ble_eq_true rfl)) 230 (mz_at hS (Nat.le_of_ble_eq_true rfl) mzcS_230) v1 24 N h5 hq) ?_
    exact g_zret (z := (cf_75_0 230 v1 24 N)) rfl (hr _ (hx1 _ hC))
theorem cg_392_2 (hd : 1 ≤ d) (hS : mz_ext S 232) (hR : mz_rok R 232)  (v1 : Int32) (v2 : Int32) (N : mz_N) {C0 : (Bool) → Prop} (hr : ∀ (w : Bool), C0 w → Q (.inl (some (.int (mz_b01 w)))) (mz_k S R N b t)) (hp : cp_392_2 v1 v2 N) (hC : C0 (cf_392_2 v1 v2 N)) : mz_G (d, mz_X0 L xs, some .boolean, [], mk_392, 3, Q) 2 mt_392_2 [(0, .ref 230), (1, .int v1), (2, .int v2)] [] false (mz_k S R N b t) := by
  obtain ⟨n, hn⟩ := hp
  exact g_loop (G := fun s => mz_G (d, mz_X0 L xs, some .boolean, [], mk_392, 3, Q) 2 mt_392_2 [(0, .ref 230), (1, .int v1), (2, .int s)] [] false (mz_k S R N b t)) (C := C0) (fun C2 hc hx s hP hC => cb_392_2 hd hS hR v1 N s hr hc hx hP hC) n (v2) hn hC
theorem cg_392_0 (hd : 1 ≤ d) (hS : mz_ext S 232) (hR : mz_rok R 232)  (v1 : Int32) (N : mz_N) {C0 : (Bool) → Prop} (hr : ∀ (w : Bool), C0 w → Q (.inl (some (.int (mz_b01 w)))) (mz_k S R N b t)) (hp : cp_392_0 v1 N) (hC : C0 (cf_392_0 v1 N)) : mz_G (d, mz_X0 L xs, some .boolean, [], mk_392, 3, Q) 0 mk_392 [(0, .ref 230), (1, .int v1)] [] true (mz_k S R N b t) := by
  unfold cf_392_0 at hC
  unfold cp_392_0 at hp
  refine g_iconst mzi_0 (g_istore_n (Nat.le_of_ble_eq_true rfl) rfl ?_)
  refine g_weak ?_ (g_cl (cg_392_2 hd hS hR v1 0 N hr hp hC))
  exact ⟨rfl, rfl, rfl, trivial⟩
theorem cs_392 (hd : 2 ≤ d) (hS : mz_ext S 232) (hR : mz_rok R 232)  (v1 : Int32) (N : mz_N) (hp : cp_392_0 v1 N) (hq : Q (.inl (some (.int (mz_b01 (cf_392_0 v1 N))))) (mz_k S R N b t)) : mz_Ed (mz_X0 L xs) d 392 [.ref 230, .int v1] (mz_k S R N b t) Q :=
  by
  refine g_in mzq_392 (Nat.le_of_ble_eq_true rfl) (Nat.le_of_ble_eq_true rfl) (Nat.le_trans (Nat.le_of_ble_eq_true rfl) hd) ?_
  refine g_weak ?_ (cg_392_0 (d := d - 1) (by omega) hS hR v1 N (C0 := fun z => Q (.inl (some (.int (mz_b01 z)))) (mz_k S R N b t)) (fun _ h => h) hp hq)
  exact ⟨rfl, rfl, trivial⟩
/-! 394 KeptHouse$Supply.areRatings (I[II)Z -/
theorem ms_394_0 : mz_sf mk_394 0 = mk_394 := mz_sf_zero _
theorem ms_394_2 : mz_sf mk_394 2 = mt_394_2 := mz_sf_add ms_394_0 (t := 2) rfl rfl
theorem ms_394_32 : mz_sf mk_394 32 = mt_394_32 := mz_sf_add ms_394_2 (t := 30) rfl rfl
theorem ms_394_46 : mz_sf mk_394 46 = mt_394_46 := mz_sf_add ms_394_32 (t := 14) rfl rfl
theorem ms_394_47 : mz_sf mk_394 47 = mt_394_47 := mz_sf_add ms_394_46 (t := 1) rfl rfl
theorem ms_394_56 : mz_sf mk_394 56 = mt_394_56 := mz_sf_add ms_394_47 (t := 9) rfl rfl
theorem ms_394_62 : mz_sf mk_394 62 = mt_394_62 := mz_sf_add ms_394_56 (t := 6) rfl rfl
theorem ms_394_73 : mz_sf mk_394 73 = mt_394_73 := mz_sf_add ms_394_62 (t := 11) rfl rfl
theorem ms_394_75 : mz_sf mk_394 75 = mt_394_75 := mz_sf_add ms_394_73 (t := 2) rfl rfl
set_option maxRecDepth 100000 in
theorem mzq_394 : mz_PG0 394 = some (9, ⟨"KeptHouse$Supply", "areRatings", "(I[II)Z"⟩, prog_11_method_17_code, 5, some .boolean, [], mk_394, []) := rfl
theorem cg_394_75 (hd : 1 ≤ d) (hS : mz_ext S 232) (hR : mz_rok R 232)  (s1 : Int32) (s2 : Int32) (N : mz_N) {C0 : (Bool) → Prop} (hr : ∀ (w : Bool), C0 w → Q (.inl (some (.int (mz_b01 w)))) (mz_k S R N b t)) (hp : cp_394_75 s1 s2 N) (hC : C0 (cf_394_75 s1 s2 N)) : mz_G (d, mz_X0 L xs, some .boolean, [], mk_394, 5, Q) 75 mt_394_75 [] [.int s2, .int s1, .ref 230] false (mz_k S R N b t) := by
  unfold cf_394_75 at hC
  unfold cp_394_75 at hp
  have h1 := hp
  refine g_s3v (Nat.le_of_ble_eq_true rfl) (fun _ hq => cs_75 (Nat.le_trans (Nat.le_of_ble_eq_true rfl) hd) (hS.le (Nat.le_of_ble_eq_true rfl)) (hR.le (Nat.le_of_ble_eq_true rfl)) 230 (mz_at hS (Nat.le_of_ble_eq_true rfl) mzcS_230) s1 s2 N h1 hq) ?_
  exact g_zret (z := (cf_75_0 230 s1 s2 N)) rfl (hr _ hC)
theorem cg_394_47 (hd : 1 ≤ d) (hS : mz_ext S 232) (hR : mz_rok R 232)  (s0 : Bool) (v0 : Int32) (v2 : Int32) (v3 : Int32) (N : mz_N) {C0 : (Bool) → Prop} (hr : ∀ (w : Bool), C0 w → Q (.inl (some (.int (mz_b01 w)))) (mz_k S R N b t)) {C1 : ((Int32) ⊕ (Bool)) → Prop} (hc1 : ∀ s2, C1 (.inl s2) → mz_G (d, mz_X0 L xs, some .boolean, [], mk_394, 5, Q) 2 mt_394_2 [(0, .int v0), (1, .ref 230), (2, .int v2), (3, .int s2)] [] false (mz_k S R N b t)) (hx1 : ∀ z, C1 (.inr z) → C0 z) (hp : cp_394_47 s0 v0 v2 v3 N) (hC : C1 (cf_394_47 s0 v0 v2 v3 N)) : mz_G (d, mz_X0 L xs, some .boolean, [], mk_394, 5, Q) 47 mt_394_47 [(0, .int v0), (1, .ref 230), (2, .int v2), (3, .int v3)] [.int (mz_b01 s0)] false (mz_k S R N b t) := by
  unfold cf_394_47 at hC
  unfold cp_394_47 at hp
  refine g_istore (Nat.le_of_ble_eq_true rfl) rfl (g_iload rfl ?_)
  refine g_zne (tg := 56) rfl ms_394_56 hC (fun h1 hC => ?_) (fun h1 hC => ?_)
  · refine g_iinc rfl mzi_1 (Nat.le_of_ble_eq_true rfl) rfl (g_goto (tg := 2) rfl ms_394_2 ?_)
    refine g_weak ?_ (g_cl (hc1 ((v3 + 1)) hC))
    exact ⟨rfl, rfl, rfl, rfl, trivial⟩
  · refine g_iconst mzi_0 ?_
    exact g_zret (z := false) rfl (hr _ (hx1 _ hC))
theorem cb_394_2 (hd : 1 ≤ d) (hS : mz_ext S 232) (hR : mz_rok R 232)  (v0 : Int32) (v2 : Int32) (N : mz_N) (s : Int32) {C0 : (Bool) → Prop} (hr : ∀ (w : Bool), C0 w → Q (.inl (some (.int (mz_b01 w)))) (mz_k S R N b t)) {C1 : ((Int32) ⊕ (Bool)) → Prop} (hc1 : ∀ s2, C1 (.inl s2) → mz_G (d, mz_X0 L xs, some .boolean, [], mk_394, 5, Q) 2 mt_394_2 [(0, .int v0), (1, .ref 230), (2, .int v2), (3, .int s2)] [] false (mz_k S R N b t)) (hx1 : ∀ z, C1 (.inr z) → C0 z) (hp : cd_394_2 v0 v2 N s) (hC : C1 (cq_394_2 v0 v2 N s)) : mz_G (d, mz_X0 L xs, some .boolean, [], mk_394, 5, Q) 2 mt_394_2 [(0, .int v0), (1, .ref 230), (2, .int v2), (3, .int s)] [] false (mz_k S R N b t) := by
  unfold cq_394_2 at hC
  unfold cd_394_2 at hp
  refine g_iload_n rfl (g_bipush mzb_11 ?_)
  refine g_icge (tg := 62) rfl ms_394_62 hC (fun h1 hC => ?_) (fun h1 hC => ?_)
  · have hp := hp.1 h1
    refine g_iload_n rfl ?_
    refine g_ifne (tg := 32) rfl ms_394_32 hC (fun h2 hC => ?_) (fun h2 hC => ?_)
    · have hp := hp.1 h2
      refine g_aload_n rfl (g_iload_n rfl (g_iconst mzi_2 (g_iload_n rfl (g_imul (g_iadd (g_iconst mzi_2 ?_))))))
      obtain ⟨h3, hp⟩ := hp
      refine g_s3v (Nat.le_of_ble_eq_true rfl) (fun _ hq => cs_61 (Nat.le_trans (Nat.le_of_ble_eq_true rfl) hd) (hS.le (Nat.le_of_ble_eq_true rfl)) (hR.le (Nat.le_of_ble_eq_true rfl)) 230 3780 (mz_at hS (Nat.le_of_ble_eq_true rfl) mzcS_230) (v2 + (2 * s)) 2 N h3 hq) (g_lconst mzl_1 (g_con3 ?_))
      refine g_s3v (Nat.le_of_ble_eq_true rfl) (fun _ hq => cs_393 (Nat.le_trans (Nat.le_of_ble_eq_true rfl) hd) (hS.le (Nat.le_of_ble_eq_true rfl)) (hR.le (Nat.le_of_ble_eq_true rfl))  (cf_61_0 230 3780 (v2 + (2 * s)) 2 N) 1 500 trivial hq) (g_goto (tg := 47) rfl ms_394_47 ?_)
      refine g_weak ?_ (g_cl (cg_394_47 hd hS hR (cf_393_0 (cf_61_0 230 3780 (v2 + (2 * s)) 2 N) 1 500) v0 v2 s N hr hc1 hx1 hp hC))
      exact ⟨rfl, rfl, rfl, rfl, trivial⟩
    · have hp := hp.2 h2
      refine g_aload_n rfl (g_iload_n rfl (g_iload_n rfl (g_iadd ?_)))
      obtain ⟨h5, hp⟩ := hp
      refine g_iald hS.1 (mz_at hS (Nat.le_of_ble_eq_true rfl) mzcS_230) h5 (g_bipush mzb_9 ?_)
      refine g_icgt (tg := 46) rfl ms_394_46 hC (fun h6 hC => ?_) (fun h6 hC => ?_)
      · have hp := hp.1 h6
        refine g_iconst mzi_0 ?_
        refine g_weak ?_ (g_cl (cg_394_47 hd hS hR false v0 v2 s N hr hc1 hx1 hp hC))
        exact ⟨rfl, rfl, rfl, rfl, trivial⟩
      · have hp := hp.2 h6
        refine g_iconst mzi_1 (g_goto (tg := 47) rfl ms_394_47 ?_)
        refine g_weak ?_ (g_cl (cg_394_47 hd hS hR true v0 v2 s N hr hc1 hx1 hp hC))
        exact ⟨rfl, rfl, rfl, rfl, trivial⟩
  · have hp := hp.2 h1
    refine g_aload_n rfl (g_iload_n rfl (g_iload_n rfl ?_))
    refine g_ifne (tg := 73) rfl ms_394_73 hC (fun h7 hC => ?_) (fun h7 hC => ?_)
    · have hp := hp.1 h7
      refine g_bipush mzb_22 (g_goto (tg := 75) rfl ms_394_75 ?_)
      refine g_weak ?_ (g_cl (cg_394_75 hd hS hR v2 22 N hr hp (hx1 _ hC)))
      exact trivial
    · have hp := hp.2 h7
      refine g_bipush mzb_11 ?_
      refine g_weak ?_ (g_cl (cg_394_75 hd hS hR v2 11 N hr hp (hx1 _ hC)))
      exact trivial
theorem cg_394_2 (hd : 1 ≤ d) (hS : mz_ext S 232) (hR : mz_rok R 232)  (v0 : Int32) (v2 : Int32) (v3 : Int32) (N : mz_N) {C0 : (Bool) → Prop} (hr : ∀ (w : Bool), C0 w → Q (.inl (some (.int (mz_b01 w)))) (mz_k S R N b t)) (hp : cp_394_2 v0 v2 v3 N) (hC : C0 (cf_394_2 v0 v2 v3 N)) : mz_G (d, mz_X0 L xs, some .boolean, [], mk_394, 5, Q) 2 mt_394_2 [(0, .int v0), (1, .ref 230), (2, .int v2), (3, .int v3)] [] false (mz_k S R N b t) := by
  obtain ⟨n, hn⟩ := hp
  exact g_loop (G := fun s => mz_G (d, mz_X0 L xs, some .boolean, [], mk_394, 5, Q) 2 mt_394_2 [(0, .int v0), (1, .ref 230), (2, .int v2), (3, .int s)] [] false (mz_k S R N b t)) (C := C0) (fun C2 hc hx s hP hC => cb_394_2 hd hS hR v0 v2 N s hr hc hx hP hC) n (v3) hn hC
theorem cg_394_0 (hd : 1 ≤ d) (hS : mz_ext S 232) (hR : mz_rok R 232)  (v0 : Int32) (v2 : Int32) (N : mz_N) {C0 : (Bool) → Prop} (hr : ∀ (w : Bool), C0 w → Q (.inl (some (.int (mz_b01 w)))) (mz_k S R N b t)) (hp : cp_394_0 v0 v2 N) (hC : C0 (cf_394_0 v0 v2 N)) : mz_G (d, mz_X0 L xs, some .boolean, [], mk_394, 5, Q) 0 mk_394 [(0, .int v0), (1, .ref 230), (2, .int v2)] [] true (mz_k S R N b t) := by
  unfold cf_394_0 at hC
  unfold cp_394_0 at hp
  refine g_iconst mzi_0 (g_istore_n (Nat.le_of_ble_eq_true rfl) rfl ?_)
  refine g_weak ?_ (g_cl (cg_394_2 hd hS hR v0 v2 0 N hr hp hC))
  exact ⟨rfl, rfl, rfl, rfl, trivial⟩
theorem cs_394 (hd : 2 ≤ d) (hS : mz_ext S 232) (hR : mz_rok R 232)  (v0 : Int32) (v2 : Int32) (N : mz_N) (hp : cp_394_0 v0 v2 N) (hq : Q (.inl (some (.int (mz_b01 (cf_394_0 v0 v2 N))))) (mz_k S R N b t)) : mz_Ed (mz_X0 L xs) d 394 [.int v0, .ref 230, .int v2] (mz_k S R N b t) Q :=
  by
  refine g_in mzq_394 (Nat.le_of_ble_eq_true rfl) (Nat.le_of_ble_eq_true rfl) (Nat.le_trans (Nat.le_of_ble_eq_true rfl) hd) ?_
  refine g_weak ?_ (cg_394_0 (d := d - 1) (by omega) hS hR v0 v2 N (C0 := fun z => Q (.inl (some (.int (mz_b01 z)))) (mz_k S R N b t)) (fun _ h => h) hp hq)
  exact ⟨rfl, rfl, rfl, trivial⟩
/-! 396 KeptHouse$Books.isSum ([II)Z -/
theorem ms_396_0 : mz_sf mk_396 0 = mk_396 := mz_sf_zero _
set_option maxRecDepth 100000 in
theorem mzq_396 : mz_PG0 396 = some (1, ⟨"KeptHouse$Books", "isSum", "([II)Z"⟩, prog_3_method_16_code, 2, some .boolean, [], mk_396, []) := rfl
theorem cg_396_0 (hd : 1 ≤ d) (hS : mz_ext S 232) (hR : mz_rok R 232)  (v1 : Int32) (N : mz_N) {C0 : (Bool) → Prop} (hr : ∀ (w : Bool), C0 w → Q (.inl (some (.int (mz_b01 w)))) (mz_k S R N b t)) (hp : cp_396_0 v1 N) (hC : C0 (cf_396_0 v1 N)) : mz_G (d, mz_X0 L xs, some .boolean, [], mk_396, 2, Q) 0 mk_396 [(0, .ref 230), (1, .int v1)] [] true (mz_k S R N b t) := by
  unfold cf_396_0 at hC
  unfold cp_396_0 at hp
  refine g_aload_n rfl (g_iload_n rfl (g_bipush mzb_8 ?_))
  have h1 := hp
  refine g_s3v (Nat.le_of_ble_eq_true rfl) (fun _ hq => cs_61 (Nat.le_trans (Nat.le_of_ble_eq_true rfl) hd) (hS.le (Nat.le_of_ble_eq_true rfl)) (hR.le (Nat.le_of_ble_eq_true rfl)) 230 3780 (mz_at hS (Nat.le_of_ble_eq_true rfl) mzcS_230) v1 8 N h1 hq) (g_con3 (g_con3 ?_))
  refine g_s3v (Nat.le_of_ble_eq_true rfl) (fun _ hq => cs_393 (Nat.le_trans (Nat.le_of_ble_eq_true rfl) hd) (hS.le (Nat.le_of_ble_eq_true rfl)) (hR.le (Nat.le_of_ble_eq_true rfl))  (cf_61_0 230 3780 v1 8 N) (-1000000000000000) 1000000000000000 trivial hq) ?_
  exact g_zret (z := (cf_393_0 (cf_61_0 230 3780 v1 8 N) (-1000000000000000) 1000000000000000)) rfl (hr _ hC)
theorem cs_396 (hd : 2 ≤ d) (hS : mz_ext S 232) (hR : mz_rok R 232)  (v1 : Int32) (N : mz_N) (hp : cp_396_0 v1 N) (hq : Q (.inl (some (.int (mz_b01 (cf_396_0 v1 N))))) (mz_k S R N b t)) : mz_Ed (mz_X0 L xs) d 396 [.ref 230, .int v1] (mz_k S R N b t) Q :=
  by
  refine g_in mzq_396 (Nat.le_of_ble_eq_true rfl) (Nat.le_of_ble_eq_true rfl) (Nat.le_trans (Nat.le_of_ble_eq_true rfl) hd) ?_
  refine g_weak ?_ (cg_396_0 (d := d - 1) (by omega) hS hR v1 N (C0 := fun z => Q (.inl (some (.int (mz_b01 z)))) (mz_k S R N b t)) (fun _ h => h) hp hq)
  exact ⟨rfl, rfl, trivial⟩
/-! 397 KeptHouse$Books.isAmount ([II)Z -/
theorem ms_397_0 : mz_sf mk_397 0 = mk_397 := mz_sf_zero _
set_option maxRecDepth 100000 in
theorem mzq_397 : mz_PG0 397 = some (1, ⟨"KeptHouse$Books", "isAmount", "([II)Z"⟩, prog_3_method_17_code, 2, some .boolean, [], mk_397, []) := rfl
theorem cg_397_0 (hd : 1 ≤ d) (hS : mz_ext S 232) (hR : mz_rok R 232)  (v1 : Int32) (N : mz_N) {C0 : (Bool) → Prop} (hr : ∀ (w : Bool), C0 w → Q (.inl (some (.int (mz_b01 w)))) (mz_k S R N b t)) (hp : cp_397_0 v1 N) (hC : C0 (cf_397_0 v1 N)) : mz_G (d, mz_X0 L xs, some .boolean, [], mk_397, 2, Q) 0 mk_397 [(0, .ref 230), (1, .int v1)] [] true (mz_k S R N b t) := by
  unfold cf_397_0 at hC
  unfold cp_397_0 at hp
  refine g_aload_n rfl (g_iload_n rfl (g_iconst mzi_4 ?_))
  have h1 := hp
  refine g_s3v (Nat.le_of_ble_eq_true rfl) (fun _ hq => cs_61 (Nat.le_trans (Nat.le_of_ble_eq_true rfl) hd) (hS.le (Nat.le_of_ble_eq_true rfl)) (hR.le (Nat.le_of_ble_eq_true rfl)) 230 3780 (mz_at hS (Nat.le_of_ble_eq_true rfl) mzcS_230) v1 4 N h1 hq) (g_lconst mzl_0 (g_con3 ?_))
  refine g_s3v (Nat.le_of_ble_eq_true rfl) (fun _ hq => cs_393 (Nat.le_trans (Nat.le_of_ble_eq_true rfl) hd) (hS.le (Nat.le_of_ble_eq_true rfl)) (hR.le (Nat.le_of_ble_eq_true rfl))  (cf_61_0 230 3780 v1 4 N) 0 100000000 trivial hq) ?_
  exact g_zret (z := (cf_393_0 (cf_61_0 230 3780 v1 4 N) 0 100000000)) rfl (hr _ hC)
theorem cs_397 (hd : 2 ≤ d) (hS : mz_ext S 232) (hR : mz_rok R 232)  (v1 : Int32) (N : mz_N) (hp : cp_397_0 v1 N) (hq : Q (.inl (some (.int (mz_b01 (cf_397_0 v1 N))))) (mz_k S R N b t)) : mz_Ed (mz_X0 L xs) d 397 [.ref 230, .int v1] (mz_k S R N b t) Q :=
  by
  refine g_in mzq_397 (Nat.le_of_ble_eq_true rfl) (Nat.le_of_ble_eq_true rfl) (Nat.le_trans (Nat.le_of_ble_eq_true rfl) hd) ?_
  refine g_weak ?_ (cg_397_0 (d := d - 1) (by omega) hS hR v1 N (C0 := fun z => Q (.inl (some (.int (mz_b01 z)))) (mz_k S R N b t)) (fun _ h => h) hp hq)
  exact ⟨rfl, rfl, trivial⟩
/-! 395 KeptHouse$Books.isFlatRow ([II)Z -/
theorem ms_395_0 : mz_sf mk_395 0 = mk_395 := mz_sf_zero _
theorem ms_395_30 : mz_sf mk_395 30 = mt_395_30 := mz_sf_add ms_395_0 (t := 30) rfl rfl
theorem ms_395_52 : mz_sf mk_395 52 = mt_395_52 := mz_sf_add ms_395_30 (t := 22) rfl rfl
theorem ms_395_56 : mz_sf mk_395 56 = mt_395_56 := mz_sf_add ms_395_52 (t := 4) rfl rfl
theorem ms_395_57 : mz_sf mk_395 57 = mt_395_57 := mz_sf_add ms_395_56 (t := 1) rfl rfl
set_option maxRecDepth 100000 in
theorem mzq_395 : mz_PG0 395 = some (1, ⟨"KeptHouse$Books", "isFlatRow", "([II)Z"⟩, prog_3_method_15_code, 2, some .boolean, [], mk_395, []) := rfl
theorem cg_395_0 (hd : 2 ≤ d) (hS : mz_ext S 232) (hR : mz_rok R 232)  (v1 : Int32) (N : mz_N) {C0 : (Bool) → Prop} (hr : ∀ (w : Bool), C0 w → Q (.inl (some (.int (mz_b01 w)))) (mz_k S R N b t)) (hp : cp_395_0 v1 N) (hC : C0 (cf_395_0 v1 N)) : mz_G (d, mz_X0 L xs, some .boolean, [], mk_395, 2, Q) 0 mk_395 [(0, .ref 230), (1, .int v1)] [] true (mz_k S R N b t) := by
  unfold cf_395_0 at hC
  unfold cp_395_0 at hp
  refine g_aload_n rfl (g_iload_n rfl ?_)
  obtain ⟨h1, hp⟩ := hp
  refine g_s2v (Nat.le_of_ble_eq_true rfl) (fun _ hq => cs_396 (Nat.le_trans (Nat.le_of_ble_eq_true rfl) hd) (hS.le (Nat.le_of_ble_eq_true rfl)) (hR.le (Nat.le_of_ble_eq_true rfl))  v1 N h1 hq) ?_
  refine g_zeq (tg := 56) rfl ms_395_56 hC (fun h2 hC => ?_) (fun h2 hC => ?_)
  · have hp := hp.1 h2
    refine g_aload_n rfl (g_iload_n rfl (g_bipush mzb_8 (g_iadd ?_)))
    obtain ⟨h3, hp⟩ := hp
    refine g_s2v (Nat.le_of_ble_eq_true rfl) (fun _ hq => cs_396 (Nat.le_trans (Nat.le_of_ble_eq_true rfl) hd) (hS.le (Nat.le_of_ble_eq_true rfl)) (hR.le (Nat.le_of_ble_eq_true rfl))  (v1 + 8) N h3 hq) ?_
    refine g_zeq (tg := 56) rfl ms_395_56 hC (fun h4 hC => ?_) (fun h4 hC => ?_)
    · have hp := hp.1 h4
      refine g_aload_n rfl (g_iload_n rfl (g_bipush mzb_16 (g_iadd ?_)))
      obtain ⟨h5, hp⟩ := hp
      refine g_s2v (Nat.le_of_ble_eq_true rfl) (fun _ hq => cs_397 (Nat.le_trans (Nat.le_of_ble_eq_true rfl) hd) (hS.le (Nat.le_of_ble_eq_true rfl)) (hR.le (Nat.le_of_ble_eq_true rfl))  (v1 + 16) N h5 hq) ?_
      refine g_zeq (tg := 56) rfl ms_395_56 hC (fun h6 hC => ?_) (fun h6 hC => ?_)
      · have hp := hp.1 h6
        refine g_aload_n rfl (g_iload_n rfl (g_bipush mzb_20 (g_iadd ?_)))
        obtain ⟨h7, hp⟩ := hp
        refine g_s2v (Nat.le_of_ble_eq_true rfl) (fun _ hq => cs_397 (Nat.le_trans (Nat.le_of_ble_eq_true rfl) hd) (hS.le (Nat.le_of_ble_eq_true rfl)) (hR.le (Nat.le_of_ble_eq_true rfl))  (v1 + 20) N h7 hq) ?_
        refine g_zeq (tg := 56) rfl ms_395_56 hC (fun h8 hC => ?_) (fun h8 hC => ?_)
        · have hp := hp.1 h8
          refine g_aload_n rfl (g_iload_n rfl (g_bipush mzb_24 (g_iadd ?_)))
          have h9 := hp
          refine g_s2v (Nat.le_of_ble_eq_true rfl) (fun _ hq => cs_397 (Nat.le_trans (Nat.le_of_ble_eq_true rfl) hd) (hS.le (Nat.le_of_ble_eq_true rfl)) (hR.le (Nat.le_of_ble_eq_true rfl))  (v1 + 24) N h9 hq) ?_
          refine g_zeq (tg := 56) rfl ms_395_56 hC (fun h10 hC => ?_) (fun h10 hC => ?_)
          · refine g_iconst mzi_1 (g_goto (tg := 57) rfl ms_395_57 ?_)
            exact g_zret (z := true) rfl (hr _ hC)
          · refine g_iconst mzi_0 ?_
            exact g_zret (z := false) rfl (hr _ hC)
        · have hp := hp.2 h8
          refine g_iconst mzi_0 ?_
          exact g_zret (z := false) rfl (hr _ hC)
      · have hp := hp.2 h6
        refine g_iconst mzi_0 ?_
        exact g_zret (z := false) rfl (hr _ hC)
    · have hp := hp.2 h4
      refine g_iconst mzi_0 ?_
      exact g_zret (z := false) rfl (hr _ hC)
  · have hp := hp.2 h2
    refine g_iconst mzi_0 ?_
    exact g_zret (z := false) rfl (hr _ hC)
theorem cs_395 (hd : 3 ≤ d) (hS : mz_ext S 232) (hR : mz_rok R 232)  (v1 : Int32) (N : mz_N) (hp : cp_395_0 v1 N) (hq : Q (.inl (some (.int (mz_b01 (cf_395_0 v1 N))))) (mz_k S R N b t)) : mz_Ed (mz_X0 L xs) d 395 [.ref 230, .int v1] (mz_k S R N b t) Q :=
  by
  refine g_in mzq_395 (Nat.le_of_ble_eq_true rfl) (Nat.le_of_ble_eq_true rfl) (Nat.le_trans (Nat.le_of_ble_eq_true rfl) hd) ?_
  refine g_weak ?_ (cg_395_0 (d := d - 1) (by omega) hS hR v1 N (C0 := fun z => Q (.inl (some (.int (mz_b01 z)))) (mz_k S R N b t)) (fun _ h => h) hp hq)
  exact ⟨rfl, rfl, trivial⟩
/-! 398 KeptHouse$Books.isCashRow ([II)Z -/
theorem ms_398_0 : mz_sf mk_398 0 = mk_398 := mz_sf_zero _
theorem ms_398_26 : mz_sf mk_398 26 = mt_398_26 := mz_sf_add ms_398_0 (t := 26) rfl rfl
theorem ms_398_48 : mz_sf mk_398 48 = mt_398_48 := mz_sf_add ms_398_26 (t := 22) rfl rfl
theorem ms_398_63 : mz_sf mk_398 63 = mt_398_63 := mz_sf_add ms_398_48 (t := 15) rfl rfl
theorem ms_398_64 : mz_sf mk_398 64 = mt_398_64 := mz_sf_add ms_398_63 (t := 1) rfl rfl
set_option maxRecDepth 100000 in
theorem mzq_398 : mz_PG0 398 = some (1, ⟨"KeptHouse$Books", "isCashRow", "([II)Z"⟩, prog_3_method_20_code, 2, some .boolean, [], mk_398, []) := rfl
theorem cg_398_0 (hd : 2 ≤ d) (hS : mz_ext S 232) (hR : mz_rok R 232)  (v1 : Int32) (N : mz_N) {C0 : (Bool) → Prop} (hr : ∀ (w : Bool), C0 w → Q (.inl (some (.int (mz_b01 w)))) (mz_k S R N b t)) (hp : cp_398_0 v1 N) (hC : C0 (cf_398_0 v1 N)) : mz_G (d, mz_X0 L xs, some .boolean, [], mk_398, 2, Q) 0 mk_398 [(0, .ref 230), (1, .int v1)] [] true (mz_k S R N b t) := by
  unfold cf_398_0 at hC
  unfold cp_398_0 at hp
  refine g_aload_n rfl (g_iload_n rfl (g_iconst mzi_4 ?_))
  obtain ⟨h1, hp⟩ := hp
  refine g_s3v (Nat.le_of_ble_eq_true rfl) (fun _ hq => cs_61 (Nat.le_trans (Nat.le_of_ble_eq_true rfl) hd) (hS.le (Nat.le_of_ble_eq_true rfl)) (hR.le (Nat.le_of_ble_eq_true rfl)) 230 3780 (mz_at hS (Nat.le_of_ble_eq_true rfl) mzcS_230) v1 4 N h1 hq) (g_lconst mzl_0 (g_con3 ?_))
  refine g_s3v (Nat.le_of_ble_eq_true rfl) (fun _ hq => cs_393 (Nat.le_trans (Nat.le_of_ble_eq_true rfl) hd) (hS.le (Nat.le_of_ble_eq_true rfl)) (hR.le (Nat.le_of_ble_eq_true rfl))  (cf_61_0 230 3780 v1 4 N) 0 1000000 trivial hq) ?_
  refine g_zeq (tg := 63) rfl ms_398_63 hC (fun h3 hC => ?_) (fun h3 hC => ?_)
  · have hp := hp.1 h3
    refine g_aload_n rfl (g_iload_n rfl (g_iconst mzi_4 (g_iadd ?_)))
    obtain ⟨h4, hp⟩ := hp
    refine g_s2v (Nat.le_of_ble_eq_true rfl) (fun _ hq => cs_396 (Nat.le_trans (Nat.le_of_ble_eq_true rfl) hd) (hS.le (Nat.le_of_ble_eq_true rfl)) (hR.le (Nat.le_of_ble_eq_true rfl))  (v1 + 4) N h4 hq) ?_
    refine g_zeq (tg := 63) rfl ms_398_63 hC (fun h5 hC => ?_) (fun h5 hC => ?_)
    · have hp := hp.1 h5
      refine g_aload_n rfl (g_iload_n rfl (g_bipush mzb_12 (g_iadd ?_)))
      obtain ⟨h6, hp⟩ := hp
      refine g_s2v (Nat.le_of_ble_eq_true rfl) (fun _ hq => cs_396 (Nat.le_trans (Nat.le_of_ble_eq_true rfl) hd) (hS.le (Nat.le_of_ble_eq_true rfl)) (hR.le (Nat.le_of_ble_eq_true rfl))  (v1 + 12) N h6 hq) ?_
      refine g_zeq (tg := 63) rfl ms_398_63 hC (fun h7 hC => ?_) (fun h7 hC => ?_)
      · have hp := hp.1 h7
        refine g_aload_n rfl (g_iload_n rfl (g_bipush mzb_20 (g_iadd ?_)))
        obtain ⟨h8, hp⟩ := hp
        refine g_s2v (Nat.le_of_ble_eq_true rfl) (fun _ hq => cs_397 (Nat.le_trans (Nat.le_of_ble_eq_true rfl) hd) (hS.le (Nat.le_of_ble_eq_true rfl)) (hR.le (Nat.le_of_ble_eq_true rfl))  (v1 + 20) N h8 hq) ?_
        refine g_zeq (tg := 63) rfl ms_398_63 hC (fun h9 hC => ?_) (fun h9 hC => ?_)
        · have hp := hp.1 h9
          refine g_aload_n rfl (g_iload_n rfl (g_bipush mzb_24 (g_iadd ?_)))
          have h10 := hp
          refine g_s2v (Nat.le_of_ble_eq_true rfl) (fun _ hq => cs_397 (Nat.le_trans (Nat.le_of_ble_eq_true rfl) hd) (hS.le (Nat.le_of_ble_eq_true rfl)) (hR.le (Nat.le_of_ble_eq_true rfl))  (v1 + 24) N h10 hq) ?_
          refine g_zeq (tg := 63) rfl ms_398_63 hC (fun h11 hC => ?_) (fun h11 hC => ?_)
          · refine g_iconst mzi_1 (g_goto (tg := 64) rfl ms_398_64 ?_)
            exact g_zret (z := true) rfl (hr _ hC)
          · refine g_iconst mzi_0 ?_
            exact g_zret (z := false) rfl (hr _ hC)
        · have hp := hp.2 h9
          refine g_iconst mzi_0 ?_
          exact g_zret (z := false) rfl (hr _ hC)
      · have hp := hp.2 h7
        refine g_iconst mzi_0 ?_
        exact g_zret (z := false) rfl (hr _ hC)
    · have hp := hp.2 h5
      refine g_iconst mzi_0 ?_
      exact g_zret (z := false) rfl (hr _ hC)
  · have hp := hp.2 h3
    refine g_iconst mzi_0 ?_
    exact g_zret (z := false) rfl (hr _ hC)
theorem cs_398 (hd : 3 ≤ d) (hS : mz_ext S 232) (hR : mz_rok R 232)  (v1 : Int32) (N : mz_N) (hp : cp_398_0 v1 N) (hq : Q (.inl (some (.int (mz_b01 (cf_398_0 v1 N))))) (mz_k S R N b t)) : mz_Ed (mz_X0 L xs) d 398 [.ref 230, .int v1] (mz_k S R N b t) Q :=
  by
  refine g_in mzq_398 (Nat.le_of_ble_eq_true rfl) (Nat.le_of_ble_eq_true rfl) (Nat.le_trans (Nat.le_of_ble_eq_true rfl) hd) ?_
  refine g_weak ?_ (cg_398_0 (d := d - 1) (by omega) hS hR v1 N (C0 := fun z => Q (.inl (some (.int (mz_b01 z)))) (mz_k S R N b t)) (fun _ h => h) hp hq)
  exact ⟨rfl, rfl, trivial⟩
/-! 399 KeptHouse$Books.isPriceRow ([II)Z -/
theorem ms_399_0 : mz_sf mk_399 0 = mk_399 := mz_sf_zero _
theorem ms_399_2 : mz_sf mk_399 2 = mt_399_2 := mz_sf_add ms_399_0 (t := 2) rfl rfl
theorem ms_399_32 : mz_sf mk_399 32 = mt_399_32 := mz_sf_add ms_399_2 (t := 30) rfl rfl
theorem ms_399_34 : mz_sf mk_399 34 = mt_399_34 := mz_sf_add ms_399_32 (t := 2) rfl rfl
theorem ms_399_40 : mz_sf mk_399 40 = mt_399_40 := mz_sf_add ms_399_34 (t := 6) rfl rfl
theorem ms_399_68 : mz_sf mk_399 68 = mt_399_68 := mz_sf_add ms_399_40 (t := 28) rfl rfl
theorem ms_399_72 : mz_sf mk_399 72 = mt_399_72 := mz_sf_add ms_399_68 (t := 4) rfl rfl
theorem ms_399_73 : mz_sf mk_399 73 = mt_399_73 := mz_sf_add ms_399_72 (t := 1) rfl rfl
set_option maxRecDepth 100000 in
theorem mzq_399 : mz_PG0 399 = some (1, ⟨"KeptHouse$Books", "isPriceRow", "([II)Z"⟩, prog_3_method_23_code, 3, some .boolean, [], mk_399, []) := rfl
theorem cb_399_2 (hd : 2 ≤ d) (hS : mz_ext S 232) (hR : mz_rok R 232)  (v1 : Int32) (N : mz_N) (s : Int32) {C0 : (Bool) → Prop} (hr : ∀ (w : Bool), C0 w → Q (.inl (some (.int (mz_b01 w)))) (mz_k S R N b t)) {C1 : ((Int32) ⊕ (Bool)) → Prop} (hc1 : ∀ s2, C1 (.inl s2) → mz_G (d, mz_X0 L xs, some .boolean, [], mk_399, 3, Q) 2 mt_399_2 [(0, .ref 230), (1, .int v1), (2, .int s2)] [] false (mz_k S R N b t)) (hx1 : ∀ z, C1 (.inr z) → C0 z) (hp : cd_399_2 v1 N s) (hC : C1 (cq_399_2 v1 N s)) : mz_G (d, mz_X0 L xs, some .boolean, [], mk_399, 3, Q) 2 mt_399_2 [(0, .ref 230), (1, .int v1), (2, .int s)] [] false (mz_k S R N b t) := by
  unfold cq_399_2 at hC
  unfold cd_399_2 at hp
  refine g_iload_n rfl (g_iconst mzi_4 ?_)
  refine g_icge (tg := 40) rfl ms_399_40 hC (fun h1 hC => ?_) (fun h1 hC => ?_)
  · have hp := hp.1 h1
    refine g_aload_n rfl (g_iload_n rfl (g_bipush mzb_8 (g_iadd (g_iconst mzi_4 (g_iload_n rfl (g_imul (g_iadd ?_)))))))
    refine g_iconst mzi_4 ?_
    have h2 := hp
    refine g_s3v (Nat.le_of_ble_eq_true rfl) (fun _ hq => cs_61 (Nat.le_trans (Nat.le_of_ble_eq_true rfl) hd) (hS.le (Nat.le_of_ble_eq_true rfl)) (hR.le (Nat.le_of_ble_eq_true rfl)) 230 3780 (mz_at hS (Nat.le_of_ble_eq_true rfl) mzcS_230) ((v1 + 8) + (4 * s)) 4 N h2 hq) (g_lconst mzl_0 (g_iload_n rfl ?_))
    refine g_s1v (Nat.le_of_ble_eq_true rfl) (fun _ hq => cs_182 (Nat.le_trans (Nat.le_of_ble_eq_true rfl) hd) (hS.le (Nat.le_of_ble_eq_true rfl)) (hR.le (Nat.le_of_ble_eq_true rfl))  s trivial hq) (g_i2l ?_)
    refine g_s3v (Nat.le_of_ble_eq_true rfl) (fun _ hq => cs_393 (Nat.le_trans (Nat.le_of_ble_eq_true rfl) hd) (hS.le (Nat.le_of_ble_eq_true rfl)) (hR.le (Nat.le_of_ble_eq_true rfl))  (cf_61_0 230 3780 ((v1 + 8) + (4 * s)) 4 N) 0 ((cf_182_0 s).toInt64) trivial hq) ?_
    refine g_zne (tg := 34) rfl ms_399_34 hC (fun h5 hC => ?_) (fun h5 hC => ?_)
    · refine g_iinc rfl mzi_1 (Nat.le_of_ble_eq_true rfl) rfl (g_goto (tg := 2) rfl ms_399_2 ?_)
      refine g_weak ?_ (g_cl (hc1 ((s + 1)) hC))
      exact ⟨rfl, rfl, rfl, trivial⟩
    · refine g_iconst mzi_0 ?_
      exact g_zret (z := false) rfl (hr _ (hx1 _ hC))
  · have hp := hp.2 h1
    refine g_aload_n rfl (g_iload_n rfl ?_)
    obtain ⟨h6, hp⟩ := hp
    refine g_s2v (Nat.le_of_ble_eq_true rfl) (fun _ hq => cs_397 (Nat.le_trans (Nat.le_of_ble_eq_true rfl) hd) (hS.le (Nat.le_of_ble_eq_true rfl)) (hR.le (Nat.le_of_ble_eq_true rfl))  v1 N h6 hq) ?_
    refine g_zeq (tg := 72) rfl ms_399_72 hC (fun h7 hC => ?_) (fun h7 hC => ?_)
    · have hp := hp.1 h7
      refine g_aload_n rfl (g_iload_n rfl (g_iconst mzi_4 (g_iadd ?_)))
      obtain ⟨h8, hp⟩ := hp
      refine g_s2v (Nat.le_of_ble_eq_true rfl) (fun _ hq => cs_397 (Nat.le_trans (Nat.le_of_ble_eq_true rfl) hd) (hS.le (Nat.le_of_ble_eq_true rfl)) (hR.le (Nat.le_of_ble_eq_true rfl))  (v1 + 4) N h8 hq) ?_
      refine g_zeq (tg := 72) rfl ms_399_72 hC (fun h9 hC => ?_) (fun h9 hC => ?_)
      · have hp := hp.1 h9
        refine g_aload_n rfl (g_iload_n rfl (g_bipush mzb_24 ?_))
        have h10 := hp
        refine g_s3v (Nat.le_of_ble_eq_true rfl) (fun _ hq => cs_75 (Nat.le_trans (Nat.le_of_ble_eq_true rfl) hd) (hS.le (Nat.le_of_ble_eq_true rfl)) (hR.le (Nat.le_of_ble_eq_true rfl)) 230 (mz_at hS (Nat.le_of_ble_eq_true rfl) mzcS_230) v1 24 N h10 hq) ?_
        refine g_zeq (tg := 72) rfl ms_399_72 hC (fun h11 hC => ?_) (fun h11 hC => ?_)
        · refine g_iconst mzi_1 (g_goto (tg := 73) rfl ms_399_73 ?_)
          exact g_zret (z := true) rfl (hr _ (hx1 _ hC))
        · refine g_iconst mzi_0 ?_
          exact g_zret (z := false) rfl (hr _ (hx1 _ hC))
      · have hp := hp.2 h9
        refine g_iconst mzi_0 ?_
        exact g_zret (z := false) rfl (hr _ (hx1 _ hC))
    · have hp := hp.2 h7
      refine g_iconst mzi_0 ?_
      exact g_zret (z := false) rfl (hr _ (hx1 _ hC))
theorem cg_399_2 (hd : 2 ≤ d) (hS : mz_ext S 232) (hR : mz_rok R 232)  (v1 : Int32) (v2 : Int32) (N : mz_N) {C0 : (Bool) → Prop} (hr : ∀ (w : Bool), C0 w → Q (.inl (some (.int (mz_b01 w)))) (mz_k S R N b t)) (hp : cp_399_2 v1 v2 N) (hC : C0 (cf_399_2 v1 v2 N)) : mz_G (d, mz_X0 L xs, some .boolean, [], mk_399, 3, Q) 2 mt_399_2 [(0, .ref 230), (1, .int v1), (2, .int v2)] [] false (mz_k S R N b t) := by
  obtain ⟨n, hn⟩ := hp
  exact g_loop (G := fun s => mz_G (d, mz_X0 L xs, some .boolean, [], mk_399, 3, Q) 2 mt_399_2 [(0, .ref 230), (1, .int v1), (2, .int s)] [] false (mz_k S R N b t)) (C := C0) (fun C2 hc hx s hP hC => cb_399_2 hd hS hR v1 N s hr hc hx hP hC) n (v2) hn hC
theorem cg_399_0 (hd : 2 ≤ d) (hS : mz_ext S 232) (hR : mz_rok R 232)  (v1 : Int32) (N : mz_N) {C0 : (Bool) → Prop} (hr : ∀ (w : Bool), C0 w → Q (.inl (some (.int (mz_b01 w)))) (mz_k S R N b t)) (hp : cp_399_0 v1 N) (hC : C0 (cf_399_0 v1 N)) : mz_G (d, mz_X0 L xs, some .boolean, [], mk_399, 3, Q) 0 mk_399 [(0, .ref 230), (1, .int v1)] [] true (mz_k S R N b t) := by
  unfold cf_399_0 at hC
  unfold cp_399_0 at hp
  refine g_iconst mzi_0 (g_istore_n (Nat.le_of_ble_eq_true rfl) rfl ?_)
  refine g_weak ?_ (g_cl (cg_399_2 hd hS hR v1 0 N hr hp hC))
  exact ⟨rfl, rfl, rfl, trivial⟩
theorem cs_399 (hd : 3 ≤ d) (hS : mz_ext S 232) (hR : mz_rok R 232)  (v1 : Int32) (N : mz_N) (hp : cp_399_0 v1 N) (hq : Q (.inl (some (.int (mz_b01 (cf_399_0 v1 N))))) (mz_k S R N b t)) : mz_Ed (mz_X0 L xs) d 399 [.ref 230, .int v1] (mz_k S R N b t) Q :=
  by
  refine g_in mzq_399 (Nat.le_of_ble_eq_true rfl) (Nat.le_of_ble_eq_true rfl) (Nat.le_trans (Nat.le_of_ble_eq_true rfl) hd) ?_
  refine g_weak ?_ (cg_399_0 (d := d - 1) (by omega) hS hR v1 N (C0 := fun z => Q (.inl (some (.int (mz_b01 z)))) (mz_k S R N b t)) (fun _ h => h) hp hq)
  exact ⟨rfl, rfl, trivial⟩
/-! 400 KeptHouse$Care.isPartRow ([II)Z -/
theorem ms_400_0 : mz_sf mk_400 0 = mk_400 := mz_sf_zero _
theorem ms_400_34 : mz_sf mk_400 34 = mt_400_34 := mz_sf_add ms_400_0 (t := 34) rfl rfl
theorem ms_400_63 : mz_sf mk_400 63 = mt_400_63 := mz_sf_add ms_400_34 (t := 29) rfl rfl
theorem ms_400_77 : mz_sf mk_400 77 = mt_400_77 := mz_sf_add ms_400_63 (t := 14) rfl rfl
theorem ms_400_78 : mz_sf mk_400 78 = mt_400_78 := mz_sf_add ms_400_77 (t := 1) rfl rfl
set_option maxRecDepth 100000 in
theorem mzq_400 : mz_PG0 400 = some (2, ⟨"KeptHouse$Care", "isPartRow", "([II)Z"⟩, prog_4_method_31_code, 2, some .boolean, [], mk_400, []) := rfl
theorem cg_400_0 (hd : 1 ≤ d) (hS : mz_ext S 232) (hR : mz_rok R 232)  (v1 : Int32) (N : mz_N) {C0 : (Bool) → Prop} (hr : ∀ (w : Bool), C0 w → Q (.inl (some (.int (mz_b01 w)))) (mz_k S R N b t)) (hp : cp_400_0 v1 N) (hC : C0 (cf_400_0 v1 N)) : mz_G (d, mz_X0 L xs, some .boolean, [], mk_400, 2, Q) 0 mk_400 [(0, .ref 230), (1, .int v1)] [] true (mz_k S R N b t) := by
  unfold cf_400_0 at hC
  unfold cp_400_0 at hp
  refine g_aload_n rfl (g_iload_n rfl (g_iconst mzi_4 ?_))
  obtain ⟨h1, hp⟩ := hp
  refine g_s3v (Nat.le_of_ble_eq_true rfl) (fun _ hq => cs_61 (Nat.le_trans (Nat.le_of_ble_eq_true rfl) hd) (hS.le (Nat.le_of_ble_eq_true rfl)) (hR.le (Nat.le_of_ble_eq_true rfl)) 230 3780 (mz_at hS (Nat.le_of_ble_eq_true rfl) mzcS_230) v1 4 N h1 hq) (g_lconst mzl_1 (g_con3 ?_))
  refine g_s3v (Nat.le_of_ble_eq_true rfl) (fun _ hq => cs_393 (Nat.le_trans (Nat.le_of_ble_eq_true rfl) hd) (hS.le (Nat.le_of_ble_eq_true rfl)) (hR.le (Nat.le_of_ble_eq_true rfl))  (cf_61_0 230 3780 v1 4 N) 1 100000 trivial hq) ?_
  refine g_zeq (tg := 77) rfl ms_400_77 hC (fun h3 hC => ?_) (fun h3 hC => ?_)
  · have hp := hp.1 h3
    refine g_aload_n rfl (g_iload_n rfl (g_iconst mzi_4 (g_iadd (g_iconst mzi_4 ?_))))
    obtain ⟨h4, hp⟩ := hp
    refine g_s3v (Nat.le_of_ble_eq_true rfl) (fun _ hq => cs_61 (Nat.le_trans (Nat.le_of_ble_eq_true rfl) hd) (hS.le (Nat.le_of_ble_eq_true rfl)) (hR.le (Nat.le_of_ble_eq_true rfl)) 230 3780 (mz_at hS (Nat.le_of_ble_eq_true rfl) mzcS_230) (v1 + 4) 4 N h4 hq) (g_lconst mzl_0 (g_con3 ?_))
    refine g_s3v (Nat.le_of_ble_eq_true rfl) (fun _ hq => cs_393 (Nat.le_trans (Nat.le_of_ble_eq_true rfl) hd) (hS.le (Nat.le_of_ble_eq_true rfl)) (hR.le (Nat.le_of_ble_eq_true rfl))  (cf_61_0 230 3780 (v1 + 4) 4 N) 0 100000000 trivial hq) ?_
    refine g_zeq (tg := 77) rfl ms_400_77 hC (fun h6 hC => ?_) (fun h6 hC => ?_)
    · have hp := hp.1 h6
      refine g_aload_n rfl (g_iload_n rfl (g_bipush mzb_8 (g_iadd (g_iconst mzi_4 ?_))))
      obtain ⟨h7, hp⟩ := hp
      refine g_s3v (Nat.le_of_ble_eq_true rfl) (fun _ hq => cs_61 (Nat.le_trans (Nat.le_of_ble_eq_true rfl) hd) (hS.le (Nat.le_of_ble_eq_true rfl)) (hR.le (Nat.le_of_ble_eq_true rfl)) 230 3780 (mz_at hS (Nat.le_of_ble_eq_true rfl) mzcS_230) (v1 + 8) 4 N h7 hq) (g_lconst mzl_0 (g_con3 ?_))
      refine g_s3v (Nat.le_of_ble_eq_true rfl) (fun _ hq => cs_393 (Nat.le_trans (Nat.le_of_ble_eq_true rfl) hd) (hS.le (Nat.le_of_ble_eq_true rfl)) (hR.le (Nat.le_of_ble_eq_true rfl))  (cf_61_0 230 3780 (v1 + 8) 4 N) 0 99 trivial hq) ?_
      refine g_zeq (tg := 77) rfl ms_400_77 hC (fun h9 hC => ?_) (fun h9 hC => ?_)
      · have hp := hp.1 h9
        refine g_aload_n rfl (g_iload_n rfl (g_bipush mzb_12 (g_iadd ?_)))
        obtain ⟨h10, hp⟩ := hp
        refine g_iald hS.1 (mz_at hS (Nat.le_of_ble_eq_true rfl) mzcS_230) h10 (g_iconst mzi_2 ?_)
        refine g_icge (tg := 77) rfl ms_400_77 hC (fun h11 hC => ?_) (fun h11 hC => ?_)
        · have hp := hp.1 h11
          refine g_aload_n rfl (g_iload_n rfl (g_bipush mzb_13 ?_))
          have h12 := hp
          refine g_s3v (Nat.le_of_ble_eq_true rfl) (fun _ hq => cs_75 (Nat.le_trans (Nat.le_of_ble_eq_true rfl) hd) (hS.le (Nat.le_of_ble_eq_true rfl)) (hR.le (Nat.le_of_ble_eq_true rfl)) 230 (mz_at hS (Nat.le_of_ble_eq_true rfl) mzcS_230) v1 13 N h12 hq) ?_
          refine g_zeq (tg := 77) rfl ms_400_77 hC (fun h13 hC => ?_) (fun h13 hC => ?_)
          · refine g_iconst mzi_1 (g_goto (tg := 78) rfl ms_400_78 ?_)
            exact g_zret (z := true) rfl (hr _ hC)
          · refine g_iconst mzi_0 ?_
            exact g_zret (z := false) rfl (hr _ hC)
        · have hp := hp.2 h11
          refine g_iconst mzi_0 ?_
          exact g_zret (z := false) rfl (hr _ hC)
      · have hp := hp.2 h9
        refine g_iconst mzi_0 ?_
        exact g_zret (z := false) rfl (hr _ hC)
    · have hp := hp.2 h6
      refine g_iconst mzi_0 ?_
      exact g_zret (z := false) rfl (hr _ hC)
  · have hp := hp.2 h3
    refine g_iconst mzi_0 ?_
    exact g_zret (z := false) rfl (hr _ hC)
theorem cs_400 (hd : 2 ≤ d) (hS : mz_ext S 232) (hR : mz_rok R 232)  (v1 : Int32) (N : mz_N) (hp : cp_400_0 v1 N) (hq : Q (.inl (some (.int (mz_b01 (cf_400_0 v1 N))))) (mz_k S R N b t)) : mz_Ed (mz_X0 L xs) d 400 [.ref 230, .int v1] (mz_k S R N b t) Q :=
  by
  refine g_in mzq_400 (Nat.le_of_ble_eq_true rfl) (Nat.le_of_ble_eq_true rfl) (Nat.le_trans (Nat.le_of_ble_eq_true rfl) hd) ?_
  refine g_weak ?_ (cg_400_0 (d := d - 1) (by omega) hS hR v1 N (C0 := fun z => Q (.inl (some (.int (mz_b01 z)))) (mz_k S R N b t)) (fun _ h => h) hp hq)
  exact ⟨rfl, rfl, trivial⟩
/-! 401 KeptHouse$Care.isTicketRow ([II)Z -/
theorem ms_401_0 : mz_sf mk_401 0 = mk_401 := mz_sf_zero _
theorem ms_401_13 : mz_sf mk_401 13 = mt_401_13 := mz_sf_add ms_401_0 (t := 13) rfl rfl
theorem ms_401_29 : mz_sf mk_401 29 = mt_401_29 := mz_sf_add ms_401_13 (t := 16) rfl rfl
theorem ms_401_48 : mz_sf mk_401 48 = mt_401_48 := mz_sf_add ms_401_29 (t := 19) rfl rfl
theorem ms_401_85 : mz_sf mk_401 85 = mt_401_85 := mz_sf_add ms_401_48 (t := 37) rfl rfl
theorem ms_401_99 : mz_sf mk_401 99 = mt_401_99 := mz_sf_add ms_401_85 (t := 14) rfl rfl
theorem ms_401_100 : mz_sf mk_401 100 = mt_401_100 := mz_sf_add ms_401_99 (t := 1) rfl rfl
set_option maxRecDepth 100000 in
theorem mzq_401 : mz_PG0 401 = some (2, ⟨"KeptHouse$Care", "isTicketRow", "([II)Z"⟩, prog_4_method_34_code, 2, some .boolean, [], mk_401, []) := rfl
theorem cg_401_0 (hd : 1 ≤ d) (hS : mz_ext S 232) (hR : mz_rok R 232)  (v1 : Int32) (N : mz_N) {C0 : (Bool) → Prop} (hr : ∀ (w : Bool), C0 w → Q (.inl (some (.int (mz_b01 w)))) (mz_k S R N b t)) (hp : cp_401_0 v1 N) (hC : C0 (cf_401_0 v1 N)) : mz_G (d, mz_X0 L xs, some .boolean, [], mk_401, 2, Q) 0 mk_401 [(0, .ref 230), (1, .int v1)] [] true (mz_k S R N b t) := by
  unfold cf_401_0 at hC
  unfold cp_401_0 at hp
  refine g_aload_n rfl (g_iload_n rfl ?_)
  obtain ⟨h1, hp⟩ := hp
  refine g_iald hS.1 (mz_at hS (Nat.le_of_ble_eq_true rfl) mzcS_230) h1 ?_
  refine g_ifne (tg := 13) rfl ms_401_13 hC (fun h2 hC => ?_) (fun h2 hC => ?_)
  · have hp := hp.1 h2
    refine g_aload_n rfl (g_iload_n rfl (g_iconst mzi_0 ?_))
    have h3 := hp
    refine g_s3v (Nat.le_of_ble_eq_true rfl) (fun _ hq => cs_75 (Nat.le_trans (Nat.le_of_ble_eq_true rfl) hd) (hS.le (Nat.le_of_ble_eq_true rfl)) (hR.le (Nat.le_of_ble_eq_true rfl)) 230 (mz_at hS (Nat.le_of_ble_eq_true rfl) mzcS_230) v1 0 N h3 hq) ?_
    exact g_zret (z := (cf_75_0 230 v1 0 N)) rfl (hr _ hC)
  · have hp := hp.2 h2
    refine g_aload_n rfl (g_iload_n rfl ?_)
    obtain ⟨h4, hp⟩ := hp
    refine g_iald hS.1 (mz_at hS (Nat.le_of_ble_eq_true rfl) mzcS_230) h4 (g_iconst mzi_1 ?_)
    refine g_icne (tg := 99) rfl ms_401_99 hC (fun h5 hC => ?_) (fun h5 hC => ?_)
    · have hp := hp.1 h5
      refine g_aload_n rfl (g_iload_n rfl (g_iconst mzi_1 (g_iadd ?_)))
      obtain ⟨h6, hp⟩ := hp
      refine g_iald hS.1 (mz_at hS (Nat.le_of_ble_eq_true rfl) mzcS_230) h6 (g_iconst mzi_5 ?_)
      refine g_icge (tg := 99) rfl ms_401_99 hC (fun h7 hC => ?_) (fun h7 hC => ?_)
      · have hp := hp.1 h7
        refine g_aload_n rfl (g_iload_n rfl (g_iconst mzi_2 (g_iadd ?_)))
        obtain ⟨h8, hp⟩ := hp
        refine g_iald hS.1 (mz_at hS (Nat.le_of_ble_eq_true rfl) mzcS_230) h8 (g_bipush mzb_48 ?_)
        refine g_icge (tg := 99) rfl ms_401_99 hC (fun h9 hC => ?_) (fun h9 hC => ?_)
        · have hp := hp.1 h9
          refine g_aload_n rfl (g_iload_n rfl (g_iconst mzi_3 (g_iadd ?_)))
          obtain ⟨h10, hp⟩ := hp
          refine g_iald hS.1 (mz_at hS (Nat.le_of_ble_eq_true rfl) mzcS_230) h10 (g_iconst mzi_3 ?_)
          refine g_icgt (tg := 99) rfl ms_401_99 hC (fun h11 hC => ?_) (fun h11 hC => ?_)
          · have hp := hp.1 h11
            refine g_iconst mzi_0 ?_
            exact g_zret (z := false) rfl (hr _ hC)
          · have hp := hp.2 h11
            refine g_aload_n rfl (g_iload_n rfl (g_iconst mzi_4 (g_iadd (g_iconst mzi_4 ?_))))
            obtain ⟨h12, hp⟩ := hp
            refine g_s3v (Nat.le_of_ble_eq_true rfl) (fun _ hq => cs_61 (Nat.le_trans (Nat.le_of_ble_eq_true rfl) hd) (hS.le (Nat.le_of_ble_eq_true rfl)) (hR.le (Nat.le_of_ble_eq_true rfl)) 230 3780 (mz_at hS (Nat.le_of_ble_eq_true rfl) mzcS_230) (v1 + 4) 4 N h12 hq) (g_lconst mzl_0 (g_con3 ?_))
            refine g_s3v (Nat.le_of_ble_eq_true rfl) (fun _ hq => cs_393 (Nat.le_trans (Nat.le_of_ble_eq_true rfl) hd) (hS.le (Nat.le_of_ble_eq_true rfl)) (hR.le (Nat.le_of_ble_eq_true rfl))  (cf_61_0 230 3780 (v1 + 4) 4 N) 0 2000000 trivial hq) ?_
            refine g_zeq (tg := 99) rfl ms_401_99 hC (fun h14 hC => ?_) (fun h14 hC => ?_)
            · have hp := hp.1 h14
              refine g_aload_n rfl (g_iload_n rfl (g_bipush mzb_8 (g_iadd (g_iconst mzi_4 ?_))))
              obtain ⟨h15, hp⟩ := hp
              refine g_s3v (Nat.le_of_ble_eq_true rfl) (fun _ hq => cs_61 (Nat.le_trans (Nat.le_of_ble_eq_true rfl) hd) (hS.le (Nat.le_of_ble_eq_true rfl)) (hR.le (Nat.le_of_ble_eq_true rfl)) 230 3780 (mz_at hS (Nat.le_of_ble_eq_true rfl) mzcS_230) (v1 + 8) 4 N h15 hq) (g_lconst mzl_0 (g_con3 ?_))
              refine g_s3v (Nat.le_of_ble_eq_true rfl) (fun _ hq => cs_393 (Nat.le_trans (Nat.le_of_ble_eq_true rfl) hd) (hS.le (Nat.le_of_ble_eq_true rfl)) (hR.le (Nat.le_of_ble_eq_true rfl))  (cf_61_0 230 3780 (v1 + 8) 4 N) 0 1000000000 trivial hq) ?_
              refine g_zeq (tg := 99) rfl ms_401_99 hC (fun h17 hC => ?_) (fun h17 hC => ?_)
              · have hp := hp.1 h17
                refine g_aload_n rfl (g_iload_n rfl (g_bipush mzb_12 ?_))
                have h18 := hp
                refine g_s3v (Nat.le_of_ble_eq_true rfl) (fun _ hq => cs_75 (Nat.le_trans (Nat.le_of_ble_eq_true rfl) hd) (hS.le (Nat.le_of_ble_eq_true rfl)) (hR.le (Nat.le_of_ble_eq_true rfl)) 230 (mz_at hS (Nat.le_of_ble_eq_true rfl) mzcS_230) v1 12 N h18 hq) ?_
                refine g_zeq (tg := 99) rfl ms_401_99 hC (fun h19 hC => ?_) (fun h19 hC => ?_)
                · refine g_iconst mzi_1 (g_goto (tg := 100) rfl ms_401_100 ?_)
                  exact g_zret (z := true) rfl (hr _ hC)
                · refine g_iconst mzi_0 ?_
                  exact g_zret (z := false) rfl (hr _ hC)
              · have hp := hp.2 h17
                refine g_iconst mzi_0 ?_
                exact g_zret (z := false) rfl (hr _ hC)
            · have hp := hp.2 h14
              refine g_iconst mzi_0 ?_
              exact g_zret (z := false) rfl (hr _ hC)
        · have hp := hp.2 h9
          refine g_iconst mzi_0 ?_
          exact g_zret (z := false) rfl (hr _ hC)
      · have hp := hp.2 h7
        refine g_iconst mzi_0 ?_
        exact g_zret (z := false) rfl (hr _ hC)
    · have hp := hp.2 h5
      refine g_iconst mzi_0 ?_
      exact g_zret (z := false) rfl (hr _ hC)
theorem cs_401 (hd : 2 ≤ d) (hS : mz_ext S 232) (hR : mz_rok R 232)  (v1 : Int32) (N : mz_N) (hp : cp_401_0 v1 N) (hq : Q (.inl (some (.int (mz_b01 (cf_401_0 v1 N))))) (mz_k S R N b t)) : mz_Ed (mz_X0 L xs) d 401 [.ref 230, .int v1] (mz_k S R N b t) Q :=
  by
  refine g_in mzq_401 (Nat.le_of_ble_eq_true rfl) (Nat.le_of_ble_eq_true rfl) (Nat.le_trans (Nat.le_of_ble_eq_true rfl) hd) ?_
  refine g_weak ?_ (cg_401_0 (d := d - 1) (by omega) hS hR v1 N (C0 := fun z => Q (.inl (some (.int (mz_b01 z)))) (mz_k S R N b t)) (fun _ h => h) hp hq)
  exact ⟨rfl, rfl, trivial⟩
/-! 402 KeptHouse$Access.isDoorRow ([II)Z -/
theorem ms_402_0 : mz_sf mk_402 0 = mk_402 := mz_sf_zero _
theorem ms_402_16 : mz_sf mk_402 16 = mt_402_16 := mz_sf_add ms_402_0 (t := 16) rfl rfl
theorem ms_402_42 : mz_sf mk_402 42 = mt_402_42 := mz_sf_add ms_402_16 (t := 26) rfl rfl
theorem ms_402_55 : mz_sf mk_402 55 = mt_402_55 := mz_sf_add ms_402_42 (t := 13) rfl rfl
theorem ms_402_56 : mz_sf mk_402 56 = mt_402_56 := mz_sf_add ms_402_55 (t := 1) rfl rfl
set_option maxRecDepth 100000 in
theorem mzq_402 : mz_PG0 402 = some (0, ⟨"KeptHouse$Access", "isDoorRow", "([II)Z"⟩, prog_2_method_18_code, 2, some .boolean, [], mk_402, []) := rfl
theorem cg_402_0 (hd : 2 ≤ d) (hS : mz_ext S 232) (hR : mz_rok R 232)  (v1 : Int32) (N : mz_N) {C0 : (Bool) → Prop} (hr : ∀ (w : Bool), C0 w → Q (.inl (some (.int (mz_b01 w)))) (mz_k S R N b t)) (hp : cp_402_0 v1 N) (hC : C0 (cf_402_0 v1 N)) : mz_G (d, mz_X0 L xs, some .boolean, [], mk_402, 2, Q) 0 mk_402 [(0, .ref 230), (1, .int v1)] [] true (mz_k S R N b t) := by
  unfold cf_402_0 at hC
  unfold cp_402_0 at hp
  refine g_aload_n rfl (g_iload_n rfl ?_)
  obtain ⟨h1, hp⟩ := hp
  refine g_iald hS.1 (mz_at hS (Nat.le_of_ble_eq_true rfl) mzcS_230) h1 (g_iconst mzi_1 ?_)
  refine g_icne (tg := 55) rfl ms_402_55 hC (fun h2 hC => ?_) (fun h2 hC => ?_)
  · have hp := hp.1 h2
    refine g_aload_n rfl (g_iload_n rfl (g_iconst mzi_1 (g_iadd ?_)))
    obtain ⟨h3, hp⟩ := hp
    refine g_iald hS.1 (mz_at hS (Nat.le_of_ble_eq_true rfl) mzcS_230) h3 (g_iconst mzi_5 ?_)
    refine g_icge (tg := 55) rfl ms_402_55 hC (fun h4 hC => ?_) (fun h4 hC => ?_)
    · have hp := hp.1 h4
      refine g_aload_n rfl (g_iload_n rfl (g_iconst mzi_2 (g_iadd ?_)))
      obtain ⟨h5, hp⟩ := hp
      refine g_iald hS.1 (mz_at hS (Nat.le_of_ble_eq_true rfl) mzcS_230) h5 (g_bipush mzb_110 ?_)
      refine g_icge (tg := 55) rfl ms_402_55 hC (fun h6 hC => ?_) (fun h6 hC => ?_)
      · have hp := hp.1 h6
        refine g_aload_n rfl (g_iload_n rfl (g_iconst mzi_1 (g_iadd ?_)))
        obtain ⟨h7, hp⟩ := hp
        refine g_iald hS.1 (mz_at hS (Nat.le_of_ble_eq_true rfl) mzcS_230) h7 (g_aload_n rfl (g_iload_n rfl (g_iconst mzi_2 (g_iadd ?_))))
        obtain ⟨h8, hp⟩ := hp
        refine g_iald hS.1 (mz_at hS (Nat.le_of_ble_eq_true rfl) mzcS_230) h8 ?_
        refine g_s2v (Nat.le_of_ble_eq_true rfl) (fun _ hq => cs_300 (Nat.le_trans (Nat.le_of_ble_eq_true rfl) hd) (hS.le (Nat.le_of_ble_eq_true rfl)) (hR.le (Nat.le_of_ble_eq_true rfl))  (mz_gI N 230 (v1 + 1)) (mz_gI N 230 (v1 + 2)) trivial hq) ?_
        refine g_zeq (tg := 55) rfl ms_402_55 hC (fun h10 hC => ?_) (fun h10 hC => ?_)
        · have hp := hp.1 h10
          refine g_aload_n rfl (g_iload_n rfl (g_iconst mzi_3 ?_))
          have h11 := hp
          refine g_s3v (Nat.le_of_ble_eq_true rfl) (fun _ hq => cs_75 (Nat.le_trans (Nat.le_of_ble_eq_true rfl) hd) (hS.le (Nat.le_of_ble_eq_true rfl)) (hR.le (Nat.le_of_ble_eq_true rfl)) 230 (mz_at hS (Nat.le_of_ble_eq_true rfl) mzcS_230) v1 3 N h11 hq) ?_
          refine g_zeq (tg := 55) rfl ms_402_55 hC (fun h12 hC => ?_) (fun h12 hC => ?_)
          · refine g_iconst mzi_1 (g_goto (tg := 56) rfl ms_402_56 ?_)
            exact g_zret (z := true) rfl (hr _ hC)
          · refine g_iconst mzi_0 ?_
            exact g_zret (z := false) rfl (hr _ hC)
        · have hp := hp.2 h10
          refine g_iconst mzi_0 ?_
          exact g_zret (z := false) rfl (hr _ hC)
      · have hp := hp.2 h6
        refine g_iconst mzi_0 ?_
        exact g_zret (z := false) rfl (hr _ hC)
    · have hp := hp.2 h4
      refine g_iconst mzi_0 ?_
      exact g_zret (z := false) rfl (hr _ hC)
  · have hp := hp.2 h2
    refine g_iconst mzi_0 ?_
    exact g_zret (z := false) rfl (hr _ hC)
theorem cs_402 (hd : 3 ≤ d) (hS : mz_ext S 232) (hR : mz_rok R 232)  (v1 : Int32) (N : mz_N) (hp : cp_402_0 v1 N) (hq : Q (.inl (some (.int (mz_b01 (cf_402_0 v1 N))))) (mz_k S R N b t)) : mz_Ed (mz_X0 L xs) d 402 [.ref 230, .int v1] (mz_k S R N b t) Q :=
  by
  refine g_in mzq_402 (Nat.le_of_ble_eq_true rfl) (Nat.le_of_ble_eq_true rfl) (Nat.le_trans (Nat.le_of_ble_eq_true rfl) hd) ?_
  refine g_weak ?_ (cg_402_0 (d := d - 1) (by omega) hS hR v1 N (C0 := fun z => Q (.inl (some (.int (mz_b01 z)))) (mz_k S R N b t)) (fun _ h => h) hp hq)
  exact ⟨rfl, rfl, trivial⟩
/-! 403 KeptHouse$Access.isCardRow ([II)Z -/
theorem ms_403_0 : mz_sf mk_403 0 = mk_403 := mz_sf_zero _
theorem ms_403_17 : mz_sf mk_403 17 = mt_403_17 := mz_sf_add ms_403_0 (t := 17) rfl rfl
theorem ms_403_36 : mz_sf mk_403 36 = mt_403_36 := mz_sf_add ms_403_17 (t := 19) rfl rfl
theorem ms_403_64 : mz_sf mk_403 64 = mt_403_64 := mz_sf_add ms_403_36 (t := 28) rfl rfl
theorem ms_403_68 : mz_sf mk_403 68 = mt_403_68 := mz_sf_add ms_403_64 (t := 4) rfl rfl
theorem ms_403_69 : mz_sf mk_403 69 = mt_403_69 := mz_sf_add ms_403_68 (t := 1) rfl rfl
set_option maxRecDepth 100000 in
theorem mzq_403 : mz_PG0 403 = some (0, ⟨"KeptHouse$Access", "isCardRow", "([II)Z"⟩, prog_2_method_21_code, 2, some .boolean, [], mk_403, []) := rfl
theorem cg_403_0 (hd : 1 ≤ d) (hS : mz_ext S 232) (hR : mz_rok R 232)  (v1 : Int32) (N : mz_N) {C0 : (Bool) → Prop} (hr : ∀ (w : Bool), C0 w → Q (.inl (some (.int (mz_b01 w)))) (mz_k S R N b t)) (hp : cp_403_0 v1 N) (hC : C0 (cf_403_0 v1 N)) : mz_G (d, mz_X0 L xs, some .boolean, [], mk_403, 2, Q) 0 mk_403 [(0, .ref 230), (1, .int v1)] [] true (mz_k S R N b t) := by
  unfold cf_403_0 at hC
  unfold cp_403_0 at hp
  refine g_aload_n rfl (g_iload_n rfl ?_)
  obtain ⟨h1, hp⟩ := hp
  refine g_iald hS.1 (mz_at hS (Nat.le_of_ble_eq_true rfl) mzcS_230) h1 (g_iconst mzi_1 ?_)
  refine g_icne (tg := 68) rfl ms_403_68 hC (fun h2 hC => ?_) (fun h2 hC => ?_)
  · have hp := hp.1 h2
    refine g_aload_n rfl (g_iload_n rfl (g_iconst mzi_1 (g_iadd ?_)))
    obtain ⟨h3, hp⟩ := hp
    refine g_iald hS.1 (mz_at hS (Nat.le_of_ble_eq_true rfl) mzcS_230) h3 (g_bipush mzb_24 ?_)
    refine g_icge (tg := 68) rfl ms_403_68 hC (fun h4 hC => ?_) (fun h4 hC => ?_)
    · have hp := hp.1 h4
      refine g_aload_n rfl (g_iload_n rfl (g_iconst mzi_2 (g_iadd ?_)))
      obtain ⟨h5, hp⟩ := hp
      refine g_iald hS.1 (mz_at hS (Nat.le_of_ble_eq_true rfl) mzcS_230) h5 (g_bipush mzb_24 ?_)
      refine g_icge (tg := 68) rfl ms_403_68 hC (fun h6 hC => ?_) (fun h6 hC => ?_)
      · have hp := hp.1 h6
        refine g_aload_n rfl (g_iload_n rfl (g_iconst mzi_3 (g_iadd ?_)))
        obtain ⟨h7, hp⟩ := hp
        refine g_iald hS.1 (mz_at hS (Nat.le_of_ble_eq_true rfl) mzcS_230) h7 (g_iconst mzi_2 ?_)
        refine g_icge (tg := 68) rfl ms_403_68 hC (fun h8 hC => ?_) (fun h8 hC => ?_)
        · have hp := hp.1 h8
          refine g_aload_n rfl (g_iload_n rfl (g_iconst mzi_4 (g_iadd (g_iconst mzi_4 ?_))))
          obtain ⟨h9, hp⟩ := hp
          refine g_s3v (Nat.le_of_ble_eq_true rfl) (fun _ hq => cs_61 (Nat.le_trans (Nat.le_of_ble_eq_true rfl) hd) (hS.le (Nat.le_of_ble_eq_true rfl)) (hR.le (Nat.le_of_ble_eq_true rfl)) 230 3780 (mz_at hS (Nat.le_of_ble_eq_true rfl) mzcS_230) (v1 + 4) 4 N h9 hq) (g_lconst mzl_0 (g_con3 ?_))
          refine g_s3v (Nat.le_of_ble_eq_true rfl) (fun _ hq => cs_393 (Nat.le_trans (Nat.le_of_ble_eq_true rfl) hd) (hS.le (Nat.le_of_ble_eq_true rfl)) (hR.le (Nat.le_of_ble_eq_true rfl))  (cf_61_0 230 3780 (v1 + 4) 4 N) 0 1048575 trivial hq) ?_
          refine g_zeq (tg := 68) rfl ms_403_68 hC (fun h11 hC => ?_) (fun h11 hC => ?_)
          · have hp := hp.1 h11
            refine g_aload_n rfl (g_iload_n rfl (g_bipush mzb_8 ?_))
            have h12 := hp
            refine g_s3v (Nat.le_of_ble_eq_true rfl) (fun _ hq => cs_75 (Nat.le_trans (Nat.le_of_ble_eq_true rfl) hd) (hS.le (Nat.le_of_ble_eq_true rfl)) (hR.le (Nat.le_of_ble_eq_true rfl)) 230 (mz_at hS (Nat.le_of_ble_eq_true rfl) mzcS_230) v1 8 N h12 hq) ?_
            refine g_zeq (tg := 68) rfl ms_403_68 hC (fun h13 hC => ?_) (fun h13 hC => ?_)
            · refine g_iconst mzi_1 (g_goto (tg := 69) rfl ms_403_69 ?_)
              exact g_zret (z := true) rfl (hr _ hC)
            · refine g_iconst mzi_0 ?_
              exact g_zret (z := false) rfl (hr _ hC)
          · have hp := hp.2 h11
            refine g_iconst mzi_0 ?_
            exact g_zret (z := false) rfl (hr _ hC)
        · have hp := hp.2 h8
          refine g_iconst mzi_0 ?_
          exact g_zret (z := false) rfl (hr _ hC)
      · have hp := hp.2 h6
        refine g_iconst mzi_0 ?_
        exact g_zret (z := false) rfl (hr _ hC)
    · have hp := hp.2 h4
      refine g_iconst mzi_0 ?_
      exact g_zret (z := false) rfl (hr _ hC)
  · have hp := hp.2 h2
    refine g_iconst mzi_0 ?_
    exact g_zret (z := false) rfl (hr _ hC)
theorem cs_403 (hd : 2 ≤ d) (hS : mz_ext S 232) (hR : mz_rok R 232)  (v1 : Int32) (N : mz_N) (hp : cp_403_0 v1 N) (hq : Q (.inl (some (.int (mz_b01 (cf_403_0 v1 N))))) (mz_k S R N b t)) : mz_Ed (mz_X0 L xs) d 403 [.ref 230, .int v1] (mz_k S R N b t) Q :=
  by
  refine g_in mzq_403 (Nat.le_of_ble_eq_true rfl) (Nat.le_of_ble_eq_true rfl) (Nat.le_trans (Nat.le_of_ble_eq_true rfl) hd) ?_
  refine g_weak ?_ (cg_403_0 (d := d - 1) (by omega) hS hR v1 N (C0 := fun z => Q (.inl (some (.int (mz_b01 z)))) (mz_k S R N b t)) (fun _ h => h) hp hq)
  exact ⟨rfl, rfl, trivial⟩
/-! 388 KeptHouse$Keeper.isLegal (II[II)Z -/
theorem ms_388_0 : mz_sf mk_388 0 = mk_388 := mz_sf_zero _
theorem ms_388_78 : mz_sf mk_388 78 = mt_388_78 := mz_sf_add ms_388_0 (t := 78) rfl rfl
theorem ms_388_84 : mz_sf mk_388 84 = mt_388_84 := mz_sf_add ms_388_78 (t := 6) rfl rfl
theorem ms_388_92 : mz_sf mk_388 92 = mt_388_92 := mz_sf_add ms_388_84 (t := 8) rfl rfl
theorem ms_388_98 : mz_sf mk_388 98 = mt_388_98 := mz_sf_add ms_388_92 (t := 6) rfl rfl
theorem ms_388_107 : mz_sf mk_388 107 = mt_388_107 := mz_sf_add ms_388_98 (t := 9) rfl rfl
theorem ms_388_109 : mz_sf mk_388 109 = mt_388_109 := mz_sf_add ms_388_107 (t := 2) rfl rfl
theorem ms_388_116 : mz_sf mk_388 116 = mt_388_116 := mz_sf_add ms_388_109 (t := 7) rfl rfl
theorem ms_388_122 : mz_sf mk_388 122 = mt_388_122 := mz_sf_add ms_388_116 (t := 6) rfl rfl
theorem ms_388_128 : mz_sf mk_388 128 = mt_388_128 := mz_sf_add ms_388_122 (t := 6) rfl rfl
theorem ms_388_134 : mz_sf mk_388 134 = mt_388_134 := mz_sf_add ms_388_128 (t := 6) rfl rfl
theorem ms_388_140 : mz_sf mk_388 140 = mt_388_140 := mz_sf_add ms_388_134 (t := 6) rfl rfl
theorem ms_388_146 : mz_sf mk_388 146 = mt_388_146 := mz_sf_add ms_388_140 (t := 6) rfl rfl
theorem ms_388_152 : mz_sf mk_388 152 = mt_388_152 := mz_sf_add ms_388_146 (t := 6) rfl rfl
theorem ms_388_158 : mz_sf mk_388 158 = mt_388_158 := mz_sf_add ms_388_152 (t := 6) rfl rfl
theorem ms_388_181 : mz_sf mk_388 181 = mt_388_181 := mz_sf_add ms_388_158 (t := 23) rfl rfl
theorem ms_388_194 : mz_sf mk_388 194 = mt_388_194 := mz_sf_add ms_388_181 (t := 13) rfl rfl
theorem ms_388_195 : mz_sf mk_388 195 = mt_388_195 := mz_sf_add ms_388_194 (t := 1) rfl rfl
set_option maxRecDepth 100000 in
theorem mzq_388 : mz_PG0 388 = some (4, ⟨"KeptHouse$Keeper", "isLegal", "(II[II)Z"⟩, prog_6_method_8_code, 4, some .boolean, [], mk_388, []) := rfl
theorem cg_388_0 (hd : 3 ≤ d) (hS : mz_ext S 232) (hR : mz_rok R 232)  (v0 : Int32) (v1 : Int32) (v3 : Int32) (N : mz_N) {C0 : (Bool) → Prop} (hr : ∀ (w : Bool), C0 w → Q (.inl (some (.int (mz_b01 w)))) (mz_k S R N b t)) (hp : cp_388_0 v0 v1 v3 N) (hC : C0 (cf_388_0 v0 v1 v3 N)) : mz_G (d, mz_X0 L xs, some .boolean, [], mk_388, 4, Q) 0 mk_388 [(0, .int v0), (1, .int v1), (2, .ref 230), (3, .int v3)] [] true (mz_k S R N b t) := by
  unfold cf_388_0 at hC
  unfold cp_388_0 at hp
  refine g_iload_n rfl ?_
  refine mz_cs hC (fun h1 hC => ?_) (fun h1 hC => ?_)
  · have hp := hp.1 h1
    refine g_brn (tg := 72) (by rw [h1]; rfl) (by decide) rfl ?_
    refine g_aload_n rfl (g_iload_n rfl ?_)
    have h35 := hp
    refine g_s2v (Nat.le_of_ble_eq_true rfl) (fun _ hq => cs_389 (Nat.le_trans (Nat.le_of_ble_eq_true rfl) hd) (hS.le (Nat.le_of_ble_eq_true rfl)) (hR.le (Nat.le_of_ble_eq_true rfl))  v3 N h35 hq) ?_
    exact g_zret (z := (cf_389_0 v3 N)) rfl (hr _ hC)
  · have hp := hp.2 h1
    refine mz_cs hC (fun h2 hC => ?_) (fun h2 hC => ?_)
    · have hp := hp.1 h2
      refine g_br (tg := 78) (by rw [h2]; rfl) ms_388_78 ?_
      refine g_aload_n rfl (g_iload_n rfl ?_)
      have h34 := hp
      refine g_s2v (Nat.le_of_ble_eq_true rfl) (fun _ hq => cs_390 (Nat.le_trans (Nat.le_of_ble_eq_true rfl) hd) (hS.le (Nat.le_of_ble_eq_true rfl)) (hR.le (Nat.le_of_ble_eq_true rfl))  v3 N h34 hq) ?_
      exact g_zret (z := (cf_390_0 v3 N)) rfl (hr _ hC)
    · have hp := hp.2 h2
      refine mz_cs hC (fun h3 hC => ?_) (fun h3 hC => ?_)
      · have hp := hp.1 h3
        refine g_br (tg := 84) (by rw [h3]; rfl) ms_388_84 ?_
        refine g_aload_n rfl (g_iload_n rfl (g_bipush mzb_20 ?_))
        have h33 := hp
        refine g_s3v (Nat.le_of_ble_eq_true rfl) (fun _ hq => cs_391 (Nat.le_trans (Nat.le_of_ble_eq_true rfl) hd) (hS.le (Nat.le_of_ble_eq_true rfl)) (hR.le (Nat.le_of_ble_eq_true rfl))  v3 20 N h33 hq) ?_
        exact g_zret (z := (cf_391_0 v3 20 N)) rfl (hr _ hC)
      · have hp := hp.2 h3
        refine mz_cs hC (fun h4 hC => ?_) (fun h4 hC => ?_)
        · have hp := hp.1 h4
          refine g_br (tg := 92) (by rw [h4]; rfl) ms_388_92 ?_
          refine g_aload_n rfl (g_iload_n rfl ?_)
          have h32 := hp
          refine g_s2v (Nat.le_of_ble_eq_true rfl) (fun _ hq => cs_392 (Nat.le_trans (Nat.le_of_ble_eq_true rfl) hd) (hS.le (Nat.le_of_ble_eq_true rfl)) (hR.le (Nat.le_of_ble_eq_true rfl))  v3 N h32 hq) ?_
          exact g_zret (z := (cf_392_0 v3 N)) rfl (hr _ hC)
        · have hp := hp.2 h4
          refine mz_cs hC (fun h5 hC => ?_) (fun h5 hC => ?_)
          · have hp := hp.1 h5
            refine g_br (tg := 98) (by rw [h5]; rfl) ms_388_98 ?_
            refine g_aload_n rfl (g_iload_n rfl (g_sipush mzs_200 ?_))
            have h31 := hp
            refine g_s3v (Nat.le_of_ble_eq_true rfl) (fun _ hq => cs_391 (Nat.le_trans (Nat.le_of_ble_eq_true rfl) hd) (hS.le (Nat.le_of_ble_eq_true rfl)) (hR.le (Nat.le_of_ble_eq_true rfl))  v3 200 N h31 hq) ?_
            exact g_zret (z := (cf_391_0 v3 200 N)) rfl (hr _ hC)
          · have hp := hp.2 h5
            refine mz_cs hC (fun h6 hC => ?_) (fun h6 hC => ?_)
            · have hp := hp.1 h6
              refine g_br (tg := 107) (by rw [h6]; rfl) ms_388_107 ?_
              refine g_iconst mzi_1 ?_
              exact g_zret (z := true) rfl (hr _ hC)
            · have hp := hp.2 h6
              refine mz_cs hC (fun h7 hC => ?_) (fun h7 hC => ?_)
              · have hp := hp.1 h7
                refine g_br (tg := 109) (by rw [h7]; rfl) ms_388_109 ?_
                refine g_iload_n rfl (g_aload_n rfl (g_iload_n rfl ?_))
                have h30 := hp
                refine g_s3v (Nat.le_of_ble_eq_true rfl) (fun _ hq => cs_394 (Nat.le_trans (Nat.le_of_ble_eq_true rfl) hd) (hS.le (Nat.le_of_ble_eq_true rfl)) (hR.le (Nat.le_of_ble_eq_true rfl))  v1 v3 N h30 hq) ?_
                exact g_zret (z := (cf_394_0 v1 v3 N)) rfl (hr _ hC)
              · have hp := hp.2 h7
                refine mz_cs hC (fun h8 hC => ?_) (fun h8 hC => ?_)
                · have hp := hp.1 h8
                  refine g_br (tg := 116) (by rw [h8]; rfl) ms_388_116 ?_
                  refine g_aload_n rfl (g_iload_n rfl ?_)
                  have h29 := hp
                  refine g_s2v (Nat.le_of_ble_eq_true rfl) (fun _ hq => cs_395 (Nat.le_trans (Nat.le_of_ble_eq_true rfl) hd) (hS.le (Nat.le_of_ble_eq_true rfl)) (hR.le (Nat.le_of_ble_eq_true rfl))  v3 N h29 hq) ?_
                  exact g_zret (z := (cf_395_0 v3 N)) rfl (hr _ hC)
                · have hp := hp.2 h8
                  refine mz_cs hC (fun h9 hC => ?_) (fun h9 hC => ?_)
                  · have hp := hp.1 h9
                    refine g_br (tg := 122) (by rw [h9]; rfl) ms_388_122 ?_
                    refine g_aload_n rfl (g_iload_n rfl ?_)
                    have h28 := hp
                    refine g_s2v (Nat.le_of_ble_eq_true rfl) (fun _ hq => cs_398 (Nat.le_trans (Nat.le_of_ble_eq_true rfl) hd) (hS.le (Nat.le_of_ble_eq_true rfl)) (hR.le (Nat.le_of_ble_eq_true rfl))  v3 N h28 hq) ?_
                    exact g_zret (z := (cf_398_0 v3 N)) rfl (hr _ hC)
                  · have hp := hp.2 h9
                    refine mz_cs hC (fun h10 hC => ?_) (fun h10 hC => ?_)
                    · have hp := hp.1 h10
                      refine g_br (tg := 128) (by rw [h10]; rfl) ms_388_128 ?_
                      refine g_aload_n rfl (g_iload_n rfl ?_)
                      have h27 := hp
                      refine g_s2v (Nat.le_of_ble_eq_true rfl) (fun _ hq => cs_399 (Nat.le_trans (Nat.le_of_ble_eq_true rfl) hd) (hS.le (Nat.le_of_ble_eq_true rfl)) (hR.le (Nat.le_of_ble_eq_true rfl))  v3 N h27 hq) ?_
                      exact g_zret (z := (cf_399_0 v3 N)) rfl (hr _ hC)
                    · have hp := hp.2 h10
                      refine mz_cs hC (fun h11 hC => ?_) (fun h11 hC => ?_)
                      · have hp := hp.1 h11
                        refine g_br (tg := 134) (by rw [h11]; rfl) ms_388_134 ?_
                        refine g_aload_n rfl (g_iload_n rfl ?_)
                        have h26 := hp
                        refine g_s2v (Nat.le_of_ble_eq_true rfl) (fun _ hq => cs_400 (Nat.le_trans (Nat.le_of_ble_eq_true rfl) hd) (hS.le (Nat.le_of_ble_eq_true rfl)) (hR.le (Nat.le_of_ble_eq_true rfl))  v3 N h26 hq) ?_
                        exact g_zret (z := (cf_400_0 v3 N)) rfl (hr _ hC)
                      · have hp := hp.2 h11
                        refine mz_cs hC (fun h12 hC => ?_) (fun h12 hC => ?_)
                        · have hp := hp.1 h12
                          refine g_br (tg := 140) (by rw [h12]; rfl) ms_388_140 ?_
                          refine g_aload_n rfl (g_iload_n rfl ?_)
                          have h25 := hp
                          refine g_s2v (Nat.le_of_ble_eq_true rfl) (fun _ hq => cs_401 (Nat.le_trans (Nat.le_of_ble_eq_true rfl) hd) (hS.le (Nat.le_of_ble_eq_true rfl)) (hR.le (Nat.le_of_ble_eq_true rfl))  v3 N h25 hq) ?_
                          exact g_zret (z := (cf_401_0 v3 N)) rfl (hr _ hC)
                        · have hp := hp.2 h12
                          refine mz_cs hC (fun h13 hC => ?_) (fun h13 hC => ?_)
                          · have hp := hp.1 h13
                            refine g_br (tg := 146) (by rw [h13]; rfl) ms_388_146 ?_
                            refine g_aload_n rfl (g_iload_n rfl ?_)
                            have h24 := hp
                            refine g_s2v (Nat.le_of_ble_eq_true rfl) (fun _ hq => cs_402 (Nat.le_trans (Nat.le_of_ble_eq_true rfl) hd) (hS.le (Nat.le_of_ble_eq_true rfl)) (hR.le (Nat.le_of_ble_eq_true rfl))  v3 N h24 hq) ?_
                            exact g_zret (z := (cf_402_0 v3 N)) rfl (hr _ hC)
                          · have hp := hp.2 h13
                            refine mz_cs hC (fun h14 hC => ?_) (fun h14 hC => ?_)
                            · have hp := hp.1 h14
                              refine g_br (tg := 152) (by rw [h14]; rfl) ms_388_152 ?_
                              refine g_aload_n rfl (g_iload_n rfl ?_)
                              have h23 := hp
                              refine g_s2v (Nat.le_of_ble_eq_true rfl) (fun _ hq => cs_403 (Nat.le_trans (Nat.le_of_ble_eq_true rfl) hd) (hS.le (Nat.le_of_ble_eq_true rfl)) (hR.le (Nat.le_of_ble_eq_true rfl))  v3 N h23 hq) ?_
                              exact g_zret (z := (cf_403_0 v3 N)) rfl (hr _ hC)
                            · have hp := hp.2 h14
                              refine g_br (tg := 158) ((mz_tsw_d (l := [1, 2, 3, 4, 5, 6, 7, 8, 9, 10, 11, 12, 13, 14]) (mz_rng 1 13) ⟨h1, h2, h3, h4, h5, h6, h7, h8, h9, h10, h11, h12, h13, h14, trivial⟩).trans (mz_tg_t rfl)) ms_388_158 ?_
                              refine g_aload_n rfl (g_iload_n rfl ?_)
                              obtain ⟨h15, hp⟩ := hp
                              refine g_iald hS.1 (mz_at hS (Nat.le_of_ble_eq_true rfl) mzcS_230) h15 (g_iconst mzi_1 ?_)
                              refine g_icne (tg := 194) rfl ms_388_194 hC (fun h16 hC => ?_) (fun h16 hC => ?_)
                              · have hp := hp.1 h16
                                refine g_aload_n rfl (g_iload_n rfl (g_iconst mzi_1 (g_iadd ?_)))
                                obtain ⟨h17, hp⟩ := hp
                                refine g_iald hS.1 (mz_at hS (Nat.le_of_ble_eq_true rfl) mzcS_230) h17 (g_aload_n rfl (g_iload_n rfl (g_iconst mzi_2 (g_iadd ?_))))
                                obtain ⟨h18, hp⟩ := hp
                                refine g_iald hS.1 (mz_at hS (Nat.le_of_ble_eq_true rfl) mzcS_230) h18 ?_
                                refine g_s2v (Nat.le_of_ble_eq_true rfl) (fun _ hq => cs_324 (Nat.le_trans (Nat.le_of_ble_eq_true rfl) hd) (hS.le (Nat.le_of_ble_eq_true rfl)) (hR.le (Nat.le_of_ble_eq_true rfl))  (mz_gI N 230 (v3 + 1)) (mz_gI N 230 (v3 + 2)) trivial hq) ?_
                                refine g_zeq (tg := 194) rfl ms_388_194 hC (fun h20 hC => ?_) (fun h20 hC => ?_)
                                · have hp := hp.1 h20
                                  refine g_aload_n rfl (g_iload_n rfl (g_iconst mzi_3 ?_))
                                  have h21 := hp
                                  refine g_s3v (Nat.le_of_ble_eq_true rfl) (fun _ hq => cs_75 (Nat.le_trans (Nat.le_of_ble_eq_true rfl) hd) (hS.le (Nat.le_of_ble_eq_true rfl)) (hR.le (Nat.le_of_ble_eq_true rfl)) 230 (mz_at hS (Nat.le_of_ble_eq_true rfl) mzcS_230) v3 3 N h21 hq) ?_
                                  refine g_zeq (tg := 194) rfl ms_388_194 hC (fun h22 hC => ?_) (fun h22 hC => ?_)
                                  · refine g_iconst mzi_1 (g_goto (tg := 195) rfl ms_388_195 ?_)
                                    exact g_zret (z := true) rfl (hr _ hC)
                                  · refine g_iconst mzi_0 ?_
                                    exact g_zret (z := false) rfl (hr _ hC)
                                · have hp := hp.2 h20
                                  refine g_iconst mzi_0 ?_
                                  exact g_zret (z := false) rfl (hr _ hC)
                              · have hp := hp.2 h16
                                refine g_iconst mzi_0 ?_
                                exact g_zret (z := false) rfl (hr _ hC)
theorem cs_388 (hd : 4 ≤ d) (hS : mz_ext S 232) (hR : mz_rok R 232)  (v0 : Int32) (v1 : Int32) (v3 : Int32) (N : mz_N) (hp : cp_388_0 v0 v1 v3 N) (hq : Q (.inl (some (.int (mz_b01 (cf_388_0 v0 v1 v3 N))))) (mz_k S R N b t)) : mz_Ed (mz_X0 L xs) d 388 [.int v0, .int v1, .ref 230, .int v3] (mz_k S R N b t) Q :=
  by
  refine g_in mzq_388 (Nat.le_of_ble_eq_true rfl) (Nat.le_of_ble_eq_true rfl) (Nat.le_trans (Nat.le_of_ble_eq_true rfl) hd) ?_
  refine g_weak ?_ (cg_388_0 (d := d - 1) (by omega) hS hR v0 v1 v3 N (C0 := fun z => Q (.inl (some (.int (mz_b01 z)))) (mz_k S R N b t)) (fun _ h => h) hp hq)
  exact ⟨rfl, rfl, rfl, rfl, trivial⟩
/-! 404 KeptHouse$Keeper.hasFewSpaces ()Z -/
theorem ms_404_0 : mz_sf mk_404 0 = mk_404 := mz_sf_zero _
theorem ms_404_12 : mz_sf mk_404 12 = mt_404_12 := mz_sf_add ms_404_0 (t := 12) rfl rfl
theorem ms_404_46 : mz_sf mk_404 46 = mt_404_46 := mz_sf_add ms_404_12 (t := 34) rfl rfl
theorem ms_404_52 : mz_sf mk_404 52 = mt_404_52 := mz_sf_add ms_404_46 (t := 6) rfl rfl
theorem ms_404_68 : mz_sf mk_404 68 = mt_404_68 := mz_sf_add ms_404_52 (t := 16) rfl rfl
theorem ms_404_69 : mz_sf mk_404 69 = mt_404_69 := mz_sf_add ms_404_68 (t := 1) rfl rfl
set_option maxRecDepth 100000 in
theorem mzq_404 : mz_PG0 404 = some (4, ⟨"KeptHouse$Keeper", "hasFewSpaces", "()Z"⟩, prog_6_method_15_code, 2, some .boolean, [], mk_404, []) := rfl
theorem cg_404_46 (hd : 4 ≤ d) (hS : mz_ext S 232) (hR : mz_rok R 232)  (v1 : Int32) (N : mz_N) {C0 : (Bool × mz_N) → Prop} (hr : ∀ (w : Bool) (N2 : mz_N), C0 (w, N2) → Q (.inl (some (.int (mz_b01 w)))) (mz_k S R N2 b t)) {C1 : ((Int32 × mz_N) ⊕ (Bool × mz_N)) → Prop} (hc1 : ∀ s2, C1 (.inl s2) → mz_G (d, mz_X0 L xs, some .boolean, [], mk_404, 2, Q) 12 mt_404_12 [(0, .ref 1), (1, .int s2.1)] [] false (mz_k S R s2.2 b t)) (hx1 : ∀ z, C1 (.inr z) → C0 z) (hp : cp_404_46 v1 N) (hC : C1 (cf_404_46 v1 N)) : mz_G (d, mz_X0 L xs, some .boolean, [], mk_404, 2, Q) 46 mt_404_46 [(0, .ref 1), (1, .int v1)] [] false (mz_k S R N b t) := by
  unfold cf_404_46 at hC
  unfold cp_404_46 at hp
  refine g_iinc rfl mzi_1 (Nat.le_of_ble_eq_true rfl) rfl (g_goto (tg := 12) rfl ms_404_12 ?_)
  refine g_weak ?_ (g_cl (hc1 ((v1 + 1), N) hC))
  exact ⟨rfl, rfl, trivial⟩
theorem cb_404_12 (hd : 4 ≤ d) (hS : mz_ext S 232) (hR : mz_rok R 232)   (s : Int32 × mz_N) {C0 : (Bool × mz_N) → Prop} (hr : ∀ (w : Bool) (N2 : mz_N), C0 (w, N2) → Q (.inl (some (.int (mz_b01 w)))) (mz_k S R N2 b t)) {C1 : ((Int32 × mz_N) ⊕ (Bool × mz_N)) → Prop} (hc1 : ∀ s2, C1 (.inl s2) → mz_G (d, mz_X0 L xs, some .boolean, [], mk_404, 2, Q) 12 mt_404_12 [(0, .ref 1), (1, .int s2.1)] [] false (mz_k S R s2.2 b t)) (hx1 : ∀ z, C1 (.inr z) → C0 z) (hp : cd_404_12  s) (hC : C1 (cq_404_12  s)) : mz_G (d, mz_X0 L xs, some .boolean, [], mk_404, 2, Q) 12 mt_404_12 [(0, .ref 1), (1, .int s.1)] [] false (mz_k S R s.2 b t) := by
  unfold cq_404_12 at hC
  unfold cd_404_12 at hp
  refine g_iload_n rfl (g_iconst mzi_5 ?_)
  refine g_icge (tg := 52) rfl ms_404_52 hC (fun h1 hC => ?_) (fun h1 hC => ?_)
  · have hp := hp.1 h1
    refine g_aload_n rfl (g_getR (mz_at hS (Nat.le_of_ble_eq_true rfl) mzcS_1) mzcf_4_14 (mz_rb hR (Nat.le_of_ble_eq_true rfl) rfl mzcR_1_14) (g_iload_n rfl ?_))
    obtain ⟨h2, hp⟩ := hp
    refine g_iald hS.1 (mz_at hS (Nat.le_of_ble_eq_true rfl) mzcS_231) h2 (g_iconst mzi_1 ?_)
    refine g_icne (tg := 46) rfl ms_404_46 hC (fun h3 hC => ?_) (fun h3 hC => ?_)
    · have hp := hp.1 h3
      refine g_iload_n rfl (g_aload_n rfl (g_getR (mz_at hS (Nat.le_of_ble_eq_true rfl) mzcS_1) mzcf_4_13 (mz_rb hR (Nat.le_of_ble_eq_true rfl) rfl mzcR_1_13) (g_iload_n rfl (g_bipush mzb_28 (g_imul (g_aload_n rfl (g_getR (mz_at hS (Nat.le_of_ble_eq_true rfl) mzcS_1) mzcf_4_0 (mz_rb hR (Nat.le_of_ble_eq_true rfl) rfl mzcR_1_0) ?_)))))))
      refine g_getR (mz_at hS (Nat.le_of_ble_eq_true rfl) mzcS_2) mzcf_5_4 (mz_rb hR (Nat.le_of_ble_eq_true rfl) rfl mzcR_2_4) ?_
      obtain ⟨h4, hp⟩ := hp
      refine g_s4n (Nat.le_of_ble_eq_true rfl) (fun _ hq => cs_58 (Nat.le_trans (Nat.le_of_ble_eq_true rfl) hd) (hS.le (Nat.le_of_ble_eq_true rfl)) (hR.le (Nat.le_of_ble_eq_true rfl)) 230 12 (mz_at hS (Nat.le_of_ble_eq_true rfl) mzcS_230) (mz_at hS (Nat.le_of_ble_eq_true rfl) mzcS_12) s.1 (s.1 * 28) s.2 h4 hq) ?_
      refine g_weak ?_ (g_cl (cg_404_46 hd hS hR s.1 (cf_58_0 230 12 s.1 (s.1 * 28) s.2) hr hc1 hx1 hp hC))
      exact ⟨rfl, rfl, trivial⟩
    · have hp := hp.2 h3
      refine g_weak ?_ (g_cl (cg_404_46 hd hS hR s.1 s.2 hr hc1 hx1 hp hC))
      exact ⟨rfl, rfl, trivial⟩
  · have hp := hp.2 h1
    refine g_aload_n rfl (g_getR (mz_at hS (Nat.le_of_ble_eq_true rfl) mzcS_1) mzcf_4_0 (mz_rb hR (Nat.le_of_ble_eq_true rfl) rfl mzcR_1_0) ?_)
    have h5 := hp
    refine g_v1v (Nat.le_of_ble_eq_true rfl) (mz_at hS (Nat.le_of_ble_eq_true rfl) mzcS_2) (fun _ hq => cs_116 (Nat.le_trans (Nat.le_of_ble_eq_true rfl) hd) (hS.le (Nat.le_of_ble_eq_true rfl)) (hR.le (Nat.le_of_ble_eq_true rfl))  s.2 h5 hq) (g_bipush mzb_40 ?_)
    refine g_icgt (tg := 68) rfl ms_404_68 hC (fun h6 hC => ?_) (fun h6 hC => ?_)
    · refine g_iconst mzi_0 ?_
      exact g_zret (z := false) rfl (hr _ _ (hx1 _ hC))
    · refine g_iconst mzi_1 (g_goto (tg := 69) rfl ms_404_69 ?_)
      exact g_zret (z := true) rfl (hr _ _ (hx1 _ hC))
theorem cg_404_12 (hd : 4 ≤ d) (hS : mz_ext S 232) (hR : mz_rok R 232)  (v1 : Int32) (N : mz_N) {C0 : (Bool × mz_N) → Prop} (hr : ∀ (w : Bool) (N2 : mz_N), C0 (w, N2) → Q (.inl (some (.int (mz_b01 w)))) (mz_k S R N2 b t)) (hp : cp_404_12 v1 N) (hC : C0 (cf_404_12 v1 N)) : mz_G (d, mz_X0 L xs, some .boolean, [], mk_404, 2, Q) 12 mt_404_12 [(0, .ref 1), (1, .int v1)] [] false (mz_k S R N b t) := by
  obtain ⟨n, hn⟩ := hp
  exact g_loop (G := fun s => mz_G (d, mz_X0 L xs, some .boolean, [], mk_404, 2, Q) 12 mt_404_12 [(0, .ref 1), (1, .int s.1)] [] false (mz_k S R s.2 b t)) (C := C0) (fun C2 hc hx s hP hC => cb_404_12 hd hS hR  s hr hc hx hP hC) n (v1, N) hn hC
theorem cg_404_0 (hd : 4 ≤ d) (hS : mz_ext S 232) (hR : mz_rok R 232)  (N : mz_N) {C0 : (Bool × mz_N) → Prop} (hr : ∀ (w : Bool) (N2 : mz_N), C0 (w, N2) → Q (.inl (some (.int (mz_b01 w)))) (mz_k S R N2 b t)) (hp : cp_404_0 N) (hC : C0 (cf_404_0 N)) : mz_G (d, mz_X0 L xs, some .boolean, [], mk_404, 2, Q) 0 mk_404 [(0, .ref 1)] [] true (mz_k S R N b t) := by
  unfold cf_404_0 at hC
  unfold cp_404_0 at hp
  refine g_aload_n rfl (g_getR (mz_at hS (Nat.le_of_ble_eq_true rfl) mzcS_1) mzcf_4_0 (mz_rb hR (Nat.le_of_ble_eq_true rfl) rfl mzcR_1_0) (g_getR (mz_at hS (Nat.le_of_ble_eq_true rfl) mzcS_2) mzcf_5_4 (mz_rb hR (Nat.le_of_ble_eq_true rfl) rfl mzcR_2_4) ?_))
  obtain ⟨h1, hp⟩ := hp
  refine g_s1n (Nat.le_of_ble_eq_true rfl) (fun _ hq => cs_19 (Nat.le_trans (Nat.le_of_ble_eq_true rfl) hd) (hS.le (Nat.le_of_ble_eq_true rfl)) (hR.le (Nat.le_of_ble_eq_true rfl)) 12 (mz_at hS (Nat.le_of_ble_eq_true rfl) mzcS_12) N h1 hq) (g_iconst mzi_0 (g_istore_n (Nat.le_of_ble_eq_true rfl) rfl ?_))
  refine g_weak ?_ (g_cl (cg_404_12 hd hS hR 0 (cf_19_0 12 N) hr hp hC))
  exact ⟨rfl, rfl, trivial⟩
theorem cs_404 (hd : 5 ≤ d) (hS : mz_ext S 232) (hR : mz_rok R 232)  (N : mz_N) (hp : cp_404_0 N) (hq : Q (.inl (some (.int (mz_b01 ((cf_404_0 N).1))))) (mz_k S R ((cf_404_0 N).2) b t)) : mz_Ed (mz_X0 L xs) d 404 [.ref 1] (mz_k S R N b t) Q :=
  by
  refine g_in mzq_404 (Nat.le_of_ble_eq_true rfl) (Nat.le_of_ble_eq_true rfl) (Nat.le_trans (Nat.le_of_ble_eq_true rfl) hd) ?_
  refine g_weak ?_ (cg_404_0 (d := d - 1) (by omega) hS hR N (C0 := fun z => Q (.inl (some (.int (mz_b01 z.1)))) (mz_k S R z.2 b t)) (fun _ _ h => h) hp hq)
  exact ⟨rfl, trivial⟩
/-! 405 KeptHouse$Keeper.areNumbersApart ()Z -/
theorem ms_405_0 : mz_sf mk_405 0 = mk_405 := mz_sf_zero _
theorem ms_405_2 : mz_sf mk_405 2 = mt_405_2 := mz_sf_add ms_405_0 (t := 2) rfl rfl
theorem ms_405_12 : mz_sf mk_405 12 = mt_405_12 := mz_sf_add ms_405_2 (t := 10) rfl rfl
theorem ms_405_35 : mz_sf mk_405 35 = mt_405_35 := mz_sf_add ms_405_12 (t := 23) rfl rfl
theorem ms_405_56 : mz_sf mk_405 56 = mt_405_56 := mz_sf_add ms_405_35 (t := 21) rfl rfl
theorem ms_405_85 : mz_sf mk_405 85 = mt_405_85 := mz_sf_add ms_405_56 (t := 29) rfl rfl
theorem ms_405_87 : mz_sf mk_405 87 = mt_405_87 := mz_sf_add ms_405_85 (t := 2) rfl rfl
theorem ms_405_93 : mz_sf mk_405 93 = mt_405_93 := mz_sf_add ms_405_87 (t := 6) rfl rfl
theorem ms_405_99 : mz_sf mk_405 99 = mt_405_99 := mz_sf_add ms_405_93 (t := 6) rfl rfl
set_option maxRecDepth 100000 in
theorem mzq_405 : mz_PG0 405 = some (4, ⟨"KeptHouse$Keeper", "areNumbersApart", "()Z"⟩, prog_6_method_16_code, 5, some .boolean, [], mk_405, []) := rfl
theorem cg_405_87 (hd : 1 ≤ d) (hS : mz_ext S 232) (hR : mz_rok R 232)  (v1 : Int32) (v2 : Int32) (N : mz_N) {C0 : (Bool) → Prop} (hr : ∀ (w : Bool), C0 w → Q (.inl (some (.int (mz_b01 w)))) (mz_k S R N b t)) {C1 : ((Int32) ⊕ (Bool)) → Prop} (hc1 : ∀ s2, C1 (.inl s2) → mz_G (d, mz_X0 L xs, some .boolean, [], mk_405, 5, Q) 2 mt_405_2 [(0, .ref 1), (1, .int s2)] [] false (mz_k S R N b t)) (hx1 : ∀ z, C1 (.inr z) → C0 z) {C2 : ((Int32) ⊕ ((Int32) ⊕ (Bool))) → Prop} (hc2 : ∀ s2, C2 (.inl s2) → mz_G (d, mz_X0 L xs, some .boolean, [], mk_405, 5, Q) 12 mt_405_12 [(0, .ref 1), (1, .int v1), (2, .int s2)] [] false (mz_k S R N b t)) (hx2 : ∀ z, C2 (.inr z) → C1 z) (hp : cp_405_87 v1 v2 N) (hC : C2 (cf_405_87 v1 v2 N)) : mz_G (d, mz_X0 L xs, some .boolean, [], mk_405, 5, Q) 87 mt_405_87 [(0, .ref 1), (1, .int v1), (2, .int v2)] [] false (mz_k S R N b t) := by
  unfold cf_405_87 at hC
  unfold cp_405_87 at hp
  refine g_iinc rfl mzi_1 (Nat.le_of_ble_eq_true rfl) rfl (g_goto (tg := 12) rfl ms_405_12 ?_)
  refine g_weak ?_ (g_cl (hc2 ((v2 + 1)) hC))
  exact ⟨rfl, rfl, rfl, trivial⟩
theorem cb_405_12 (hd : 1 ≤ d) (hS : mz_ext S 232) (hR : mz_rok R 232)  (v1 : Int32) (N : mz_N) (s : Int32) {C0 : (Bool) → Prop} (hr : ∀ (w : Bool), C0 w → Q (.inl (some (.int (mz_b01 w)))) (mz_k S R N b t)) {C1 : ((Int32) ⊕ (Bool)) → Prop} (hc1 : ∀ s2, C1 (.inl s2) → mz_G (d, mz_X0 L xs, some .boolean, [], mk_405, 5, Q) 2 mt_405_2 [(0, .ref 1), (1, .int s2)] [] false (mz_k S R N b t)) (hx1 : ∀ z, C1 (.inr z) → C0 z) {C2 : ((Int32) ⊕ ((Int32) ⊕ (Bool))) → Prop} (hc2 : ∀ s2, C2 (.inl s2) → mz_G (d, mz_X0 L xs, some .boolean, [], mk_405, 5, Q) 12 mt_405_12 [(0, .ref 1), (1, .int v1), (2, .int s2)] [] false (mz_k S R N b t)) (hx2 : ∀ z, C2 (.inr z) → C1 z) (hp : cd_405_12 v1 N s) (hC : C2 (cq_405_12 v1 N s)) : mz_G (d, mz_X0 L xs, some .boolean, [], mk_405, 5, Q) 12 mt_405_12 [(0, .ref 1), (1, .int v1), (2, .int s)] [] false (mz_k S R N b t) := by
  unfold cq_405_12 at hC
  unfold cd_405_12 at hp
  refine g_iload_n rfl (g_bipush mzb_16 ?_)
  refine g_icge (tg := 93) rfl ms_405_93 hC (fun h1 hC => ?_) (fun h1 hC => ?_)
  · have hp := hp.1 h1
    refine g_bipush mzb_51 (g_iload_n rfl (g_iadd (g_bipush mzb_28 (g_imul (g_istore_n (Nat.le_of_ble_eq_true rfl) rfl (g_bipush mzb_51 (g_iload_n rfl ?_)))))))
    refine g_iadd (g_bipush mzb_28 (g_imul (g_istore (Nat.le_of_ble_eq_true rfl) rfl (g_aload_n rfl (g_getR (mz_at hS (Nat.le_of_ble_eq_true rfl) mzcS_1) mzcf_4_13 (mz_rb hR (Nat.le_of_ble_eq_true rfl) rfl mzcR_1_13) (g_iload_n rfl ?_))))))
    obtain ⟨h2, hp⟩ := hp
    refine g_iald hS.1 (mz_at hS (Nat.le_of_ble_eq_true rfl) mzcS_230) h2 (g_iconst mzi_1 ?_)
    refine g_icne (tg := 87) rfl ms_405_87 hC (fun h3 hC => ?_) (fun h3 hC => ?_)
    · have hp := hp.1 h3
      refine g_aload_n rfl (g_getR (mz_at hS (Nat.le_of_ble_eq_true rfl) mzcS_1) mzcf_4_13 (mz_rb hR (Nat.le_of_ble_eq_true rfl) rfl mzcR_1_13) (g_iload rfl ?_))
      obtain ⟨h4, hp⟩ := hp
      refine g_iald hS.1 (mz_at hS (Nat.le_of_ble_eq_true rfl) mzcS_230) h4 (g_iconst mzi_1 ?_)
      refine g_icne (tg := 87) rfl ms_405_87 hC (fun h5 hC => ?_) (fun h5 hC => ?_)
      · have hp := hp.1 h5
        refine g_aload_n rfl (g_getR (mz_at hS (Nat.le_of_ble_eq_true rfl) mzcS_1) mzcf_4_13 (mz_rb hR (Nat.le_of_ble_eq_true rfl) rfl mzcR_1_13) (g_iload_n rfl (g_bipush mzb_8 (g_iadd (g_iconst mzi_4 ?_)))))
        obtain ⟨h6, hp⟩ := hp
        refine g_s3v (Nat.le_of_ble_eq_true rfl) (fun _ hq => cs_61 (Nat.le_trans (Nat.le_of_ble_eq_true rfl) hd) (hS.le (Nat.le_of_ble_eq_true rfl)) (hR.le (Nat.le_of_ble_eq_true rfl)) 230 3780 (mz_at hS (Nat.le_of_ble_eq_true rfl) mzcS_230) (((51 + v1) * 28) + 8) 4 N h6 hq) (g_aload_n rfl (g_getR (mz_at hS (Nat.le_of_ble_eq_true rfl) mzcS_1) mzcf_4_13 (mz_rb hR (Nat.le_of_ble_eq_true rfl) rfl mzcR_1_13) (g_iload rfl (g_bipush mzb_8 (g_iadd (g_iconst mzi_4 ?_))))))
        obtain ⟨h7, hp⟩ := hp
        refine g_s3v (Nat.le_of_ble_eq_true rfl) (fun _ hq => cs_61 (Nat.le_trans (Nat.le_of_ble_eq_true rfl) hd) (hS.le (Nat.le_of_ble_eq_true rfl)) (hR.le (Nat.le_of_ble_eq_true rfl)) 230 3780 (mz_at hS (Nat.le_of_ble_eq_true rfl) mzcS_230) (((51 + s) * 28) + 8) 4 N h7 hq) (g_lcmp ?_)
        refine g_lne (tg := 87) rfl ms_405_87 hC (fun h8 hC => ?_) (fun h8 hC => ?_)
        · have hp := hp.1 h8
          refine g_iconst mzi_0 ?_
          exact g_zret (z := false) rfl (hr _ (hx1 _ (hx2 _ hC)))
        · have hp := hp.2 h8
          refine g_weak ?_ (g_cl (cg_405_87 hd hS hR v1 s N hr hc1 hx1 hc2 hx2 hp hC))
          exact ⟨rfl, rfl, rfl, trivial⟩
      · have hp := hp.2 h5
        refine g_weak ?_ (g_cl (cg_405_87 hd hS hR v1 s N hr hc1 hx1 hc2 hx2 hp hC))
        exact ⟨rfl, rfl, rfl, trivial⟩
    · have hp := hp.2 h3
      refine g_weak ?_ (g_cl (cg_405_87 hd hS hR v1 s N hr hc1 hx1 hc2 hx2 hp hC))
      exact ⟨rfl, rfl, rfl, trivial⟩
  · have hp := hp.2 h1
    refine g_iinc rfl mzi_1 (Nat.le_of_ble_eq_true rfl) rfl (g_goto (tg := 2) rfl ms_405_2 ?_)
    refine g_weak ?_ (g_cl (hc1 ((v1 + 1)) (hx2 _ hC)))
    exact ⟨rfl, rfl, trivial⟩
theorem cg_405_12 (hd : 1 ≤ d) (hS : mz_ext S 232) (hR : mz_rok R 232)  (v1 : Int32) (v2 : Int32) (N : mz_N) {C0 : (Bool) → Prop} (hr : ∀ (w : Bool), C0 w → Q (.inl (some (.int (mz_b01 w)))) (mz_k S R N b t)) {C1 : ((Int32) ⊕ (Bool)) → Prop} (hc1 : ∀ s2, C1 (.inl s2) → mz_G (d, mz_X0 L xs, some .boolean, [], mk_405, 5, Q) 2 mt_405_2 [(0, .ref 1), (1, .int s2)] [] false (mz_k S R N b t)) (hx1 : ∀ z, C1 (.inr z) → C0 z) (hp : cp_405_12 v1 v2 N) (hC : C1 (cf_405_12 v1 v2 N)) : mz_G (d, mz_X0 L xs, some .boolean, [], mk_405, 5, Q) 12 mt_405_12 [(0, .ref 1), (1, .int v1), (2, .int v2)] [] false (mz_k S R N b t) := by
  obtain ⟨n, hn⟩ := hp
  exact g_loop (G := fun s => mz_G (d, mz_X0 L xs, some .boolean, [], mk_405, 5, Q) 12 mt_405_12 [(0, .ref 1), (1, .int v1), (2, .int s)] [] false (mz_k S R N b t)) (C := C1) (fun C2 hc hx s hP hC => cb_405_12 hd hS hR v1 N s hr hc1 hx1 hc hx hP hC) n (v2) hn hC
theorem cb_405_2 (hd : 1 ≤ d) (hS : mz_ext S 232) (hR : mz_rok R 232)  (N : mz_N) (s : Int32) {C0 : (Bool) → Prop} (hr : ∀ (w : Bool), C0 w → Q (.inl (some (.int (mz_b01 w)))) (mz_k S R N b t)) {C1 : ((Int32) ⊕ (Bool)) → Prop} (hc1 : ∀ s2, C1 (.inl s2) → mz_G (d, mz_X0 L xs, some .boolean, [], mk_405, 5, Q) 2 mt_405_2 [(0, .ref 1), (1, .int s2)] [] false (mz_k S R N b t)) (hx1 : ∀ z, C1 (.inr z) → C0 z) (hp : cd_405_2 N s) (hC : C1 (cq_405_2 N s)) : mz_G (d, mz_X0 L xs, some .boolean, [], mk_405, 5, Q) 2 mt_405_2 [(0, .ref 1), (1, .int s)] [] false (mz_k S R N b t) := by
  unfold cq_405_2 at hC
  unfold cd_405_2 at hp
  refine g_iload_n rfl (g_bipush mzb_16 ?_)
  refine g_icge (tg := 99) rfl ms_405_99 hC (fun h1 hC => ?_) (fun h1 hC => ?_)
  · have hp := hp.1 h1
    refine g_iload_n rfl (g_iconst mzi_1 (g_iadd (g_istore_n (Nat.le_of_ble_eq_true rfl) rfl ?_)))
    refine g_weak ?_ (g_cl (cg_405_12 hd hS hR s (s + 1) N hr hc1 hx1 hp hC))
    exact ⟨rfl, rfl, rfl, trivial⟩
  · have hp := hp.2 h1
    refine g_iconst mzi_1 ?_
    exact g_zret (z := true) rfl (hr _ (hx1 _ hC))
theorem cg_405_2 (hd : 1 ≤ d) (hS : mz_ext S 232) (hR : mz_rok R 232)  (v1 : Int32) (N : mz_N) {C0 : (Bool) → Prop} (hr : ∀ (w : Bool), C0 w → Q (.inl (some (.int (mz_b01 w)))) (mz_k S R N b t)) (hp : cp_405_2 v1 N) (hC : C0 (cf_405_2 v1 N)) : mz_G (d, mz_X0 L xs, some .boolean, [], mk_405, 5, Q) 2 mt_405_2 [(0, .ref 1), (1, .int v1)] [] false (mz_k S R N b t) := by
  obtain ⟨n, hn⟩ := hp
  exact g_loop (G := fun s => mz_G (d, mz_X0 L xs, some .boolean, [], mk_405, 5, Q) 2 mt_405_2 [(0, .ref 1), (1, .int s)] [] false (mz_k S R N b t)) (C := C0) (fun C2 hc hx s hP hC => cb_405_2 hd hS hR N s hr hc hx hP hC) n (v1) hn hC
theorem cg_405_0 (hd : 1 ≤ d) (hS : mz_ext S 232) (hR : mz_rok R 232)  (N : mz_N) {C0 : (Bool) → Prop} (hr : ∀ (w : Bool), C0 w → Q (.inl (some (.int (mz_b01 w)))) (mz_k S R N b t)) (hp : cp_405_0 N) (hC : C0 (cf_405_0 N)) : mz_G (d, mz_X0 L xs, some .boolean, [], mk_405, 5, Q) 0 mk_405 [(0, .ref 1)] [] true (mz_k S R N b t) := by
  unfold cf_405_0 at hC
  unfold cp_405_0 at hp
  refine g_iconst mzi_0 (g_istore_n (Nat.le_of_ble_eq_true rfl) rfl ?_)
  refine g_weak ?_ (g_cl (cg_405_2 hd hS hR 0 N hr hp hC))
  exact ⟨rfl, rfl, trivial⟩
theorem cs_405 (hd : 2 ≤ d) (hS : mz_ext S 232) (hR : mz_rok R 232)  (N : mz_N) (hp : cp_405_0 N) (hq : Q (.inl (some (.int (mz_b01 (cf_405_0 N))))) (mz_k S R N b t)) : mz_Ed (mz_X0 L xs) d 405 [.ref 1] (mz_k S R N b t) Q :=
  by
  refine g_in mzq_405 (Nat.le_of_ble_eq_true rfl) (Nat.le_of_ble_eq_true rfl) (Nat.le_trans (Nat.le_of_ble_eq_true rfl) hd) ?_
  refine g_weak ?_ (cg_405_0 (d := d - 1) (by omega) hS hR N (C0 := fun z => Q (.inl (some (.int (mz_b01 z)))) (mz_k S R N b t)) (fun _ h => h) hp hq)
  exact ⟨rfl, trivial⟩
end Fn18
