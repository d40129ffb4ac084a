/-! THE FUNCTIONS: written by program: each method comes to its function. -/
section Fn37
variable {L : Nat} {xs : Nat → Int32} {d : Nat} {S : mz_S} {R : Nat → Nat → Option Nat} {Q : mz_Q} {N : mz_N} {b : Bool} {t : Nat}
/-! 610 KeptHouseModel.isGoodKey (I)Z -/
theorem ms_610_0 : mz_sf mk_610 0 = mk_610 := mz_sf_zero _
theorem ms_610_18 : mz_sf mk_610 18 = mt_610_18 := mz_sf_add ms_610_0 (t := 18) rfl rfl
theorem ms_610_99 : mz_sf mk_610 99 = mt_610_99 := mz_sf_add ms_610_18 (t := 81) rfl rfl
theorem ms_610_106 : mz_sf mk_610 106 = mt_610_106 := mz_sf_add ms_610_99 (t := 7) rfl rfl
theorem ms_610_132 : mz_sf mk_610 132 = mt_610_132 := mz_sf_add ms_610_106 (t := 26) rfl rfl
theorem ms_610_136 : mz_sf mk_610 136 = mt_610_136 := mz_sf_add ms_610_132 (t := 4) rfl rfl
theorem ms_610_137 : mz_sf mk_610 137 = mt_610_137 := mz_sf_add ms_610_136 (t := 1) rfl rfl
theorem ms_610_138 : mz_sf mk_610 138 = mt_610_138 := mz_sf_add ms_610_137 (t := 1) rfl rfl
theorem ms_610_141 : mz_sf mk_610 141 = mt_610_141 := mz_sf_add ms_610_138 (t := 3) rfl rfl
theorem ms_610_173 : mz_sf mk_610 173 = mt_610_173 := mz_sf_add ms_610_141 (t := 32) rfl rfl
theorem ms_610_177 : mz_sf mk_610 177 = mt_610_177 := mz_sf_add ms_610_173 (t := 4) rfl rfl
theorem ms_610_178 : mz_sf mk_610 178 = mt_610_178 := mz_sf_add ms_610_177 (t := 1) rfl rfl
theorem ms_610_186 : mz_sf mk_610 186 = mt_610_186 := mz_sf_add ms_610_178 (t := 8) rfl rfl
theorem ms_610_206 : mz_sf mk_610 206 = mt_610_206 := mz_sf_add ms_610_186 (t := 20) rfl rfl
theorem ms_610_207 : mz_sf mk_610 207 = mt_610_207 := mz_sf_add ms_610_206 (t := 1) rfl rfl
theorem ms_610_208 : mz_sf mk_610 208 = mt_610_208 := mz_sf_add ms_610_207 (t := 1) rfl rfl
theorem ms_610_235 : mz_sf mk_610 235 = mt_610_235 := mz_sf_add ms_610_208 (t := 27) rfl rfl
theorem ms_610_239 : mz_sf mk_610 239 = mt_610_239 := mz_sf_add ms_610_235 (t := 4) rfl rfl
theorem ms_610_240 : mz_sf mk_610 240 = mt_610_240 := mz_sf_add ms_610_239 (t := 1) rfl rfl
theorem ms_610_241 : mz_sf mk_610 241 = mt_610_241 := mz_sf_add ms_610_240 (t := 1) rfl rfl
theorem ms_610_270 : mz_sf mk_610 270 = mt_610_270 := mz_sf_add ms_610_241 (t := 29) rfl rfl
theorem ms_610_274 : mz_sf mk_610 274 = mt_610_274 := mz_sf_add ms_610_270 (t := 4) rfl rfl
theorem ms_610_275 : mz_sf mk_610 275 = mt_610_275 := mz_sf_add ms_610_274 (t := 1) rfl rfl
theorem ms_610_276 : mz_sf mk_610 276 = mt_610_276 := mz_sf_add ms_610_275 (t := 1) rfl rfl
theorem ms_610_279 : mz_sf mk_610 279 = mt_610_279 := mz_sf_add ms_610_276 (t := 3) rfl rfl
theorem ms_610_313 : mz_sf mk_610 313 = mt_610_313 := mz_sf_add ms_610_279 (t := 34) rfl rfl
theorem ms_610_317 : mz_sf mk_610 317 = mt_610_317 := mz_sf_add ms_610_313 (t := 4) rfl rfl
theorem ms_610_318 : mz_sf mk_610 318 = mt_610_318 := mz_sf_add ms_610_317 (t := 1) rfl rfl
theorem ms_610_326 : mz_sf mk_610 326 = mt_610_326 := mz_sf_add ms_610_318 (t := 8) rfl rfl
theorem ms_610_350 : mz_sf mk_610 350 = mt_610_350 := mz_sf_add ms_610_326 (t := 24) rfl rfl
theorem ms_610_354 : mz_sf mk_610 354 = mt_610_354 := mz_sf_add ms_610_350 (t := 4) rfl rfl
theorem ms_610_380 : mz_sf mk_610 380 = mt_610_380 := mz_sf_add ms_610_354 (t := 26) rfl rfl
theorem ms_610_384 : mz_sf mk_610 384 = mt_610_384 := mz_sf_add ms_610_380 (t := 4) rfl rfl
theorem ms_610_385 : mz_sf mk_610 385 = mt_610_385 := mz_sf_add ms_610_384 (t := 1) rfl rfl
theorem ms_610_386 : mz_sf mk_610 386 = mt_610_386 := mz_sf_add ms_610_385 (t := 1) rfl rfl
theorem ms_610_418 : mz_sf mk_610 418 = mt_610_418 := mz_sf_add ms_610_386 (t := 32) rfl rfl
theorem ms_610_444 : mz_sf mk_610 444 = mt_610_444 := mz_sf_add ms_610_418 (t := 26) rfl rfl
theorem ms_610_445 : mz_sf mk_610 445 = mt_610_445 := mz_sf_add ms_610_444 (t := 1) rfl rfl
theorem ms_610_446 : mz_sf mk_610 446 = mt_610_446 := mz_sf_add ms_610_445 (t := 1) rfl rfl
theorem ms_610_471 : mz_sf mk_610 471 = mt_610_471 := mz_sf_add ms_610_446 (t := 25) rfl rfl
theorem ms_610_504 : mz_sf mk_610 504 = mt_610_504 := mz_sf_add ms_610_471 (t := 33) rfl rfl
theorem ms_610_508 : mz_sf mk_610 508 = mt_610_508 := mz_sf_add ms_610_504 (t := 4) rfl rfl
theorem ms_610_509 : mz_sf mk_610 509 = mt_610_509 := mz_sf_add ms_610_508 (t := 1) rfl rfl
theorem ms_610_510 : mz_sf mk_610 510 = mt_610_510 := mz_sf_add ms_610_509 (t := 1) rfl rfl
theorem ms_610_546 : mz_sf mk_610 546 = mt_610_546 := mz_sf_add ms_610_510 (t := 36) rfl rfl
theorem ms_610_578 : mz_sf mk_610 578 = mt_610_578 := mz_sf_add ms_610_546 (t := 32) rfl rfl
theorem ms_610_605 : mz_sf mk_610 605 = mt_610_605 := mz_sf_add ms_610_578 (t := 27) rfl rfl
theorem ms_610_609 : mz_sf mk_610 609 = mt_610_609 := mz_sf_add ms_610_605 (t := 4) rfl rfl
theorem ms_610_610 : mz_sf mk_610 610 = mt_610_610 := mz_sf_add ms_610_609 (t := 1) rfl rfl
theorem ms_610_611 : mz_sf mk_610 611 = mt_610_611 := mz_sf_add ms_610_610 (t := 1) rfl rfl
theorem ms_610_636 : mz_sf mk_610 636 = mt_610_636 := mz_sf_add ms_610_611 (t := 25) rfl rfl
theorem ms_610_664 : mz_sf mk_610 664 = mt_610_664 := mz_sf_add ms_610_636 (t := 28) rfl rfl
theorem ms_610_679 : mz_sf mk_610 679 = mt_610_679 := mz_sf_add ms_610_664 (t := 15) rfl rfl
theorem ms_610_680 : mz_sf mk_610 680 = mt_610_680 := mz_sf_add ms_610_679 (t := 1) rfl rfl
theorem ms_610_681 : mz_sf mk_610 681 = mt_610_681 := mz_sf_add ms_610_680 (t := 1) rfl rfl
theorem ms_610_689 : mz_sf mk_610 689 = mt_610_689 := mz_sf_add ms_610_681 (t := 8) rfl rfl
theorem ms_610_720 : mz_sf mk_610 720 = mt_610_720 := mz_sf_add ms_610_689 (t := 31) rfl rfl
theorem ms_610_734 : mz_sf mk_610 734 = mt_610_734 := mz_sf_add ms_610_720 (t := 14) rfl rfl
theorem ms_610_735 : mz_sf mk_610 735 = mt_610_735 := mz_sf_add ms_610_734 (t := 1) rfl rfl
theorem ms_610_736 : mz_sf mk_610 736 = mt_610_736 := mz_sf_add ms_610_735 (t := 1) rfl rfl
theorem ms_610_759 : mz_sf mk_610 759 = mt_610_759 := mz_sf_add ms_610_736 (t := 23) rfl rfl
theorem ms_610_782 : mz_sf mk_610 782 = mt_610_782 := mz_sf_add ms_610_759 (t := 23) rfl rfl
theorem ms_610_808 : mz_sf mk_610 808 = mt_610_808 := mz_sf_add ms_610_782 (t := 26) rfl rfl
theorem ms_610_812 : mz_sf mk_610 812 = mt_610_812 := mz_sf_add ms_610_808 (t := 4) rfl rfl
theorem ms_610_813 : mz_sf mk_610 813 = mt_610_813 := mz_sf_add ms_610_812 (t := 1) rfl rfl
theorem ms_610_814 : mz_sf mk_610 814 = mt_610_814 := mz_sf_add ms_610_813 (t := 1) rfl rfl
theorem ms_610_845 : mz_sf mk_610 845 = mt_610_845 := mz_sf_add ms_610_814 (t := 31) rfl rfl
theorem ms_610_859 : mz_sf mk_610 859 = mt_610_859 := mz_sf_add ms_610_845 (t := 14) rfl rfl
theorem ms_610_860 : mz_sf mk_610 860 = mt_610_860 := mz_sf_add ms_610_859 (t := 1) rfl rfl
set_option maxRecDepth 100000 in
theorem mzq_610 : mz_PG0 610 = some (12, ⟨"KeptHouseModel", "isGoodKey", "(I)Z"⟩, prog_14_method_210_code, 7, some .boolean, [], mk_610, []) := rfl
theorem cg_610_178 (hd : 4 ≤ d) (hS : mz_extR S 342) (hR : mz_rok R 342)  (s0 : Bool) (v4 : Int32) (v6 : Int32) (N : mz_N) {C0 : (Bool) → Prop} (hr : ∀ (w : Bool), C0 w → Q (.inl (some (.int (mz_b01 w)))) (mz_k S R N b t)) {C1 : ((Bool × Int32) ⊕ (Bool)) → Prop} (hc1 : ∀ s2, C1 (.inl s2) → mz_G (d, mz_X0 L xs, some .boolean, [], mk_610, 7, Q) 141 mt_610_141 [(0, .ref 232), (4, .int v4), (5, .int (mz_b01 s2.1)), (6, .int s2.2)] [] false (mz_k S R N b t)) (hx1 : ∀ z, C1 (.inr z) → C0 z) (hp : cp_610_178 s0 v4 v6 N) (hC : C1 (cf_610_178 s0 v4 v6 N)) : mz_G (d, mz_X0 L xs, some .boolean, [], mk_610, 7, Q) 178 mt_610_178 [(0, .ref 232), (4, .int v4), (6, .int v6)] [.int (mz_b01 s0)] false (mz_k S R N b t) := by
  unfold cf_610_178 at hC
  unfold cp_610_178 at hp
  refine g_istore (Nat.le_of_ble_eq_true rfl) rfl (g_iinc rfl mzi_1 (Nat.le_of_ble_eq_true rfl) rfl (g_goto (tg := 141) rfl ms_610_141 ?_))
  refine g_weak ?_ (g_cl (hc1 (s0, (v6 + 1)) hC))
  exact ⟨rfl, rfl, rfl, rfl, trivial⟩
theorem cg_610_177 (hd : 4 ≤ d) (hS : mz_extR S 342) (hR : mz_rok R 342)  (v4 : Int32) (v6 : Int32) (N : mz_N) {C0 : (Bool) → Prop} (hr : ∀ (w : Bool), C0 w → Q (.inl (some (.int (mz_b01 w)))) (mz_k S R N b t)) {C1 : ((Bool × Int32) ⊕ (Bool)) → Prop} (hc1 : ∀ s2, C1 (.inl s2) → mz_G (d, mz_X0 L xs, some .boolean, [], mk_610, 7, Q) 141 mt_610_141 [(0, .ref 232), (4, .int v4), (5, .int (mz_b01 s2.1)), (6, .int s2.2)] [] false (mz_k S R N b t)) (hx1 : ∀ z, C1 (.inr z) → C0 z) (hp : cp_610_177 v4 v6 N) (hC : C1 (cf_610_177 v4 v6 N)) : mz_G (d, mz_X0 L xs, some .boolean, [], mk_610, 7, Q) 177 mt_610_177 [(0, .ref 232), (4, .int v4), (6, .int v6)] [] false (mz_k S R N b t) := by
  unfold cf_610_177 at hC
  unfold cp_610_177 at hp
  refine g_iconst mzi_0 ?_
  refine g_weak ?_ (g_cl (cg_610_178 hd hS hR false v4 v6 N hr hc1 hx1 hp hC))
  exact ⟨rfl, rfl, rfl, trivial⟩
theorem cb_610_141 (hd : 4 ≤ d) (hS : mz_extR S 342) (hR : mz_rok R 342)  (v4 : Int32) (N : mz_N) (s : Bool × Int32) {C0 : (Bool) → Prop} (hr : ∀ (w : Bool), C0 w → Q (.inl (some (.int (mz_b01 w)))) (mz_k S R N b t)) {C1 : ((Bool × Int32) ⊕ (Bool)) → Prop} (hc1 : ∀ s2, C1 (.inl s2) → mz_G (d, mz_X0 L xs, some .boolean, [], mk_610, 7, Q) 141 mt_610_141 [(0, .ref 232), (4, .int v4), (5, .int (mz_b01 s2.1)), (6, .int s2.2)] [] false (mz_k S R N b t)) (hx1 : ∀ z, C1 (.inr z) → C0 z) (hp : cd_610_141 v4 N s) (hC : C1 (cq_610_141 v4 N s)) : mz_G (d, mz_X0 L xs, some .boolean, [], mk_610, 7, Q) 141 mt_610_141 [(0, .ref 232), (4, .int v4), (5, .int (mz_b01 s.1)), (6, .int s.2)] [] false (mz_k S R N b t) := by
  unfold cq_610_141 at hC
  unfold cd_610_141 at hp
  refine g_iload rfl (g_bipush mzb_12 ?_)
  refine g_icge (tg := 186) rfl ms_610_186 hC (fun h1 hC => ?_) (fun h1 hC => ?_)
  · have hp := hp.1 h1
    refine g_iload rfl ?_
    refine g_zeq (tg := 177) rfl ms_610_177 hC (fun h2 hC => ?_) (fun h2 hC => ?_)
    · have hp := hp.1 h2
      refine g_aload_n rfl (g_iload rfl (g_iconst mzi_2 (g_iload rfl (g_imul (g_iconst mzi_2 (g_con3 (g_con3 ?_)))))))
      obtain ⟨h3, hp⟩ := hp
      refine g_v6v (Nat.le_of_ble_eq_true rfl) (mz_at hS (Nat.le_of_ble_eq_true rfl) mzcS_232) (fun _ hq => cs_616 (Nat.le_trans (Nat.le_of_ble_eq_true rfl) hd) (hS.le (Nat.le_of_ble_eq_true rfl)) (hR.le (Nat.le_of_ble_eq_true rfl))  v4 (2 * s.2) 2 (-400) 500 N h3 hq) ?_
      refine g_zeq (tg := 177) rfl ms_610_177 hC (fun h4 hC => ?_) (fun h4 hC => ?_)
      · have hp := hp.1 h4
        refine g_iconst mzi_1 (g_goto (tg := 178) rfl ms_610_178 ?_)
        refine g_weak ?_ (g_cl (cg_610_178 hd hS hR true v4 s.2 N hr hc1 hx1 hp hC))
        exact ⟨rfl, rfl, rfl, trivial⟩
      · have hp := hp.2 h4
        refine g_weak ?_ (g_cl (cg_610_177 hd hS hR v4 s.2 N hr hc1 hx1 hp hC))
        exact ⟨rfl, rfl, rfl, trivial⟩
    · have hp := hp.2 h2
      refine g_weak ?_ (g_cl (cg_610_177 hd hS hR v4 s.2 N hr hc1 hx1 hp hC))
      exact ⟨rfl, rfl, rfl, trivial⟩
  · have hp := hp.2 h1
    refine g_iload rfl ?_
    refine g_zeq (tg := 206) rfl ms_610_206 hC (fun h5 hC => ?_) (fun h5 hC => ?_)
    · have hp := hp.1 h5
      refine g_aload_n rfl (g_iload rfl (g_bipush mzb_24 ?_))
      have h6 := hp
      refine g_v3v (Nat.le_of_ble_eq_true rfl) (mz_at hS (Nat.le_of_ble_eq_true rfl) mzcS_232) (fun _ hq => cs_614 (Nat.le_trans (Nat.le_of_ble_eq_true rfl) hd) (hS.le (Nat.le_of_ble_eq_true rfl)) (hR.le (Nat.le_of_ble_eq_true rfl))  v4 24 N h6 hq) ?_
      refine g_zeq (tg := 206) rfl ms_610_206 hC (fun h7 hC => ?_) (fun h7 hC => ?_)
      · refine g_iconst mzi_1 (g_goto (tg := 207) rfl ms_610_207 ?_)
        exact g_zret (z := true) rfl (hr _ (hx1 _ hC))
      · refine g_iconst mzi_0 ?_
        exact g_zret (z := false) rfl (hr _ (hx1 _ hC))
    · have hp := hp.2 h5
      refine g_iconst mzi_0 ?_
      exact g_zret (z := false) rfl (hr _ (hx1 _ hC))
theorem cg_610_141 (hd : 4 ≤ d) (hS : mz_extR S 342) (hR : mz_rok R 342)  (v4 : Int32) (v5 : Bool) (v6 : Int32) (N : mz_N) {C0 : (Bool) → Prop} (hr : ∀ (w : Bool), C0 w → Q (.inl (some (.int (mz_b01 w)))) (mz_k S R N b t)) (hp : cp_610_141 v4 v5 v6 N) (hC : C0 (cf_610_141 v4 v5 v6 N)) : mz_G (d, mz_X0 L xs, some .boolean, [], mk_610, 7, Q) 141 mt_610_141 [(0, .ref 232), (4, .int v4), (5, .int (mz_b01 v5)), (6, .int v6)] [] false (mz_k S R N b t) := by
  obtain ⟨n, hn⟩ := hp
  exact g_loop (G := fun s => mz_G (d, mz_X0 L xs, some .boolean, [], mk_610, 7, Q) 141 mt_610_141 [(0, .ref 232), (4, .int v4), (5, .int (mz_b01 s.1)), (6, .int s.2)] [] false (mz_k S R N b t)) (C := C0) (fun C2 hc hx s hP hC => cb_610_141 hd hS hR v4 N s hr hc hx hP hC) n (v5, v6) hn hC
theorem cg_610_318 (hd : 4 ≤ d) (hS : mz_extR S 342) (hR : mz_rok R 342)  (s0 : Bool) (v3 : Int32) (v4 : Int32) (v6 : Int32) (N : mz_N) {C0 : (Bool) → Prop} (hr : ∀ (w : Bool), C0 w → Q (.inl (some (.int (mz_b01 w)))) (mz_k S R N b t)) {C1 : ((Bool × Int32) ⊕ (Bool)) → Prop} (hc1 : ∀ s2, C1 (.inl s2) → mz_G (d, mz_X0 L xs, some .boolean, [], mk_610, 7, Q) 279 mt_610_279 [(0, .ref 232), (3, .int v3), (4, .int v4), (5, .int (mz_b01 s2.1)), (6, .int s2.2)] [] false (mz_k S R N b t)) (hx1 : ∀ z, C1 (.inr z) → C0 z) (hp : cp_610_318 s0 v3 v4 v6 N) (hC : C1 (cf_610_318 s0 v3 v4 v6 N)) : mz_G (d, mz_X0 L xs, some .boolean, [], mk_610, 7, Q) 318 mt_610_318 [(0, .ref 232), (3, .int v3), (4, .int v4), (6, .int v6)] [.int (mz_b01 s0)] false (mz_k S R N b t) := by
  unfold cf_610_318 at hC
  unfold cp_610_318 at hp
  refine g_istore (Nat.le_of_ble_eq_true rfl) rfl (g_iinc rfl mzi_1 (Nat.le_of_ble_eq_true rfl) rfl (g_goto (tg := 279) rfl ms_610_279 ?_))
  refine g_weak ?_ (g_cl (hc1 (s0, (v6 + 1)) hC))
  exact ⟨rfl, rfl, rfl, rfl, rfl, trivial⟩
theorem cg_610_317 (hd : 4 ≤ d) (hS : mz_extR S 342) (hR : mz_rok R 342)  (v3 : Int32) (v4 : Int32) (v6 : Int32) (N : mz_N) {C0 : (Bool) → Prop} (hr : ∀ (w : Bool), C0 w → Q (.inl (some (.int (mz_b01 w)))) (mz_k S R N b t)) {C1 : ((Bool × Int32) ⊕ (Bool)) → Prop} (hc1 : ∀ s2, C1 (.inl s2) → mz_G (d, mz_X0 L xs, some .boolean, [], mk_610, 7, Q) 279 mt_610_279 [(0, .ref 232), (3, .int v3), (4, .int v4), (5, .int (mz_b01 s2.1)), (6, .int s2.2)] [] false (mz_k S R N b t)) (hx1 : ∀ z, C1 (.inr z) → C0 z) (hp : cp_610_317 v3 v4 v6 N) (hC : C1 (cf_610_317 v3 v4 v6 N)) : mz_G (d, mz_X0 L xs, some .boolean, [], mk_610, 7, Q) 317 mt_610_317 [(0, .ref 232), (3, .int v3), (4, .int v4), (6, .int v6)] [] false (mz_k S R N b t) := by
  unfold cf_610_317 at hC
  unfold cp_610_317 at hp
  refine g_iconst mzi_0 ?_
  refine g_weak ?_ (g_cl (cg_610_318 hd hS hR false v3 v4 v6 N hr hc1 hx1 hp hC))
  exact ⟨rfl, rfl, rfl, rfl, trivial⟩
theorem cg_610_326 (hd : 4 ≤ d) (hS : mz_extR S 342) (hR : mz_rok R 342)  (v3 : Int32) (v4 : Int32) (v5 : Bool) (N : mz_N) {C0 : (Bool) → Prop} (hr : ∀ (w : Bool), C0 w → Q (.inl (some (.int (mz_b01 w)))) (mz_k S R N b t)) (hp : cp_610_326 v3 v4 v5 N) (hC : C0 (cf_610_326 v3 v4 v5 N)) : mz_G (d, mz_X0 L xs, some .boolean, [], mk_610, 7, Q) 326 mt_610_326 [(0, .ref 232), (3, .int v3), (4, .int v4), (5, .int (mz_b01 v5))] [] false (mz_k S R N b t) := by
  unfold cf_610_326 at hC
  unfold cp_610_326 at hp
  refine g_iload_n rfl ?_
  refine g_ifne (tg := 354) rfl ms_610_354 hC (fun h1 hC => ?_) (fun h1 hC => ?_)
  · have hp := hp.1 h1
    refine g_iload rfl ?_
    refine g_zeq (tg := 350) rfl ms_610_350 hC (fun h2 hC => ?_) (fun h2 hC => ?_)
    · have hp := hp.1 h2
      refine g_aload_n rfl (g_iload rfl (g_bipush mzb_22 ?_))
      have h3 := hp
      refine g_v3v (Nat.le_of_ble_eq_true rfl) (mz_at hS (Nat.le_of_ble_eq_true rfl) mzcS_232) (fun _ hq => cs_614 (Nat.le_trans (Nat.le_of_ble_eq_true rfl) hd) (hS.le (Nat.le_of_ble_eq_true rfl)) (hR.le (Nat.le_of_ble_eq_true rfl))  v4 22 N h3 hq) ?_
      refine g_zeq (tg := 350) rfl ms_610_350 hC (fun h4 hC => ?_) (fun h4 hC => ?_)
      · refine g_iconst mzi_1 (g_goto (tg := 385) rfl ms_610_385 ?_)
        exact g_zret (z := true) rfl (hr _ hC)
      · refine g_iconst mzi_0 (g_goto (tg := 385) rfl ms_610_385 ?_)
        exact g_zret (z := false) rfl (hr _ hC)
    · have hp := hp.2 h2
      refine g_iconst mzi_0 (g_goto (tg := 385) rfl ms_610_385 ?_)
      exact g_zret (z := false) rfl (hr _ hC)
  · have hp := hp.2 h1
    refine g_aload_n rfl (g_iload rfl (g_iconst mzi_0 (g_bipush mzb_11 (g_iconst mzi_0 (g_bipush mzb_9 ?_)))))
    obtain ⟨h5, hp⟩ := hp
    refine g_v6v (Nat.le_of_ble_eq_true rfl) (mz_at hS (Nat.le_of_ble_eq_true rfl) mzcS_232) (fun _ hq => cs_615 (Nat.le_trans (Nat.le_of_ble_eq_true rfl) hd) (hS.le (Nat.le_of_ble_eq_true rfl)) (hR.le (Nat.le_of_ble_eq_true rfl))  v4 0 11 0 9 N h5 hq) ?_
    refine g_zeq (tg := 384) rfl ms_610_384 hC (fun h6 hC => ?_) (fun h6 hC => ?_)
    · have hp := hp.1 h6
      refine g_aload_n rfl (g_iload rfl (g_bipush mzb_11 ?_))
      have h7 := hp
      refine g_v3v (Nat.le_of_ble_eq_true rfl) (mz_at hS (Nat.le_of_ble_eq_true rfl) mzcS_232) (fun _ hq => cs_614 (Nat.le_trans (Nat.le_of_ble_eq_true rfl) hd) (hS.le (Nat.le_of_ble_eq_true rfl)) (hR.le (Nat.le_of_ble_eq_true rfl))  v4 11 N h7 hq) ?_
      refine g_zeq (tg := 384) rfl ms_610_384 hC (fun h8 hC => ?_) (fun h8 hC => ?_)
      · refine g_iconst mzi_1 (g_goto (tg := 385) rfl ms_610_385 ?_)
        exact g_zret (z := true) rfl (hr _ hC)
      · refine g_iconst mzi_0 ?_
        exact g_zret (z := false) rfl (hr _ hC)
    · have hp := hp.2 h6
      refine g_iconst mzi_0 ?_
      exact g_zret (z := false) rfl (hr _ hC)
theorem cb_610_279 (hd : 4 ≤ d) (hS : mz_extR S 342) (hR : mz_rok R 342)  (v3 : Int32) (v4 : Int32) (N : mz_N) (s : Bool × Int32) {C0 : (Bool) → Prop} (hr : ∀ (w : Bool), C0 w → Q (.inl (some (.int (mz_b01 w)))) (mz_k S R N b t)) {C1 : ((Bool × Int32) ⊕ (Bool)) → Prop} (hc1 : ∀ s2, C1 (.inl s2) → mz_G (d, mz_X0 L xs, some .boolean, [], mk_610, 7, Q) 279 mt_610_279 [(0, .ref 232), (3, .int v3), (4, .int v4), (5, .int (mz_b01 s2.1)), (6, .int s2.2)] [] false (mz_k S R N b t)) (hx1 : ∀ z, C1 (.inr z) → C0 z) (hp : cd_610_279 v3 v4 N s) (hC : C1 (cq_610_279 v3 v4 N s)) : mz_G (d, mz_X0 L xs, some .boolean, [], mk_610, 7, Q) 279 mt_610_279 [(0, .ref 232), (3, .int v3), (4, .int v4), (5, .int (mz_b01 s.1)), (6, .int s.2)] [] false (mz_k S R N b t) := by
  unfold cq_610_279 at hC
  unfold cd_610_279 at hp
  refine g_iload rfl (g_bipush mzb_11 ?_)
  refine g_icge (tg := 326) rfl ms_610_326 hC (fun h1 hC => ?_) (fun h1 hC => ?_)
  · have hp := hp.1 h1
    refine g_iload_n rfl ?_
    refine g_ifne (tg := 326) rfl ms_610_326 hC (fun h2 hC => ?_) (fun h2 hC => ?_)
    · have hp := hp.1 h2
      refine g_iload rfl ?_
      refine g_zeq (tg := 317) rfl ms_610_317 hC (fun h3 hC => ?_) (fun h3 hC => ?_)
      · have hp := hp.1 h3
        refine g_aload_n rfl (g_iload rfl (g_iconst mzi_2 (g_iload rfl (g_imul (g_iconst mzi_2 (g_lconst mzl_1 (g_con3 ?_)))))))
        obtain ⟨h4, hp⟩ := hp
        refine g_v6v (Nat.le_of_ble_eq_true rfl) (mz_at hS (Nat.le_of_ble_eq_true rfl) mzcS_232) (fun _ hq => cs_616 (Nat.le_trans (Nat.le_of_ble_eq_true rfl) hd) (hS.le (Nat.le_of_ble_eq_true rfl)) (hR.le (Nat.le_of_ble_eq_true rfl))  v4 (2 * s.2) 2 1 500 N h4 hq) ?_
        refine g_zeq (tg := 317) rfl ms_610_317 hC (fun h5 hC => ?_) (fun h5 hC => ?_)
        · have hp := hp.1 h5
          refine g_iconst mzi_1 (g_goto (tg := 318) rfl ms_610_318 ?_)
          refine g_weak ?_ (g_cl (cg_610_318 hd hS hR true v3 v4 s.2 N hr hc1 hx1 hp hC))
          exact ⟨rfl, rfl, rfl, rfl, trivial⟩
        · have hp := hp.2 h5
          refine g_weak ?_ (g_cl (cg_610_317 hd hS hR v3 v4 s.2 N hr hc1 hx1 hp hC))
          exact ⟨rfl, rfl, rfl, rfl, trivial⟩
      · have hp := hp.2 h3
        refine g_weak ?_ (g_cl (cg_610_317 hd hS hR v3 v4 s.2 N hr hc1 hx1 hp hC))
        exact ⟨rfl, rfl, rfl, rfl, trivial⟩
    · have hp := hp.2 h2
      refine g_weak ?_ (g_cl (cg_610_326 hd hS hR v3 v4 s.1 N hr hp (hx1 _ hC)))
      exact ⟨rfl, rfl, rfl, rfl, trivial⟩
  · have hp := hp.2 h1
    refine g_weak ?_ (g_cl (cg_610_326 hd hS hR v3 v4 s.1 N hr hp (hx1 _ hC)))
    exact ⟨rfl, rfl, rfl, rfl, trivial⟩
theorem cg_610_279 (hd : 4 ≤ d) (hS : mz_extR S 342) (hR : mz_rok R 342)  (v3 : Int32) (v4 : Int32) (v5 : Bool) (v6 : Int32) (N : mz_N) {C0 : (Bool) → Prop} (hr : ∀ (w : Bool), C0 w → Q (.inl (some (.int (mz_b01 w)))) (mz_k S R N b t)) (hp : cp_610_279 v3 v4 v5 v6 N) (hC : C0 (cf_610_279 v3 v4 v5 v6 N)) : mz_G (d, mz_X0 L xs, some .boolean, [], mk_610, 7, Q) 279 mt_610_279 [(0, .ref 232), (3, .int v3), (4, .int v4), (5, .int (mz_b01 v5)), (6, .int v6)] [] false (mz_k S R N b t) := by
  obtain ⟨n, hn⟩ := hp
  exact g_loop (G := fun s => mz_G (d, mz_X0 L xs, some .boolean, [], mk_610, 7, Q) 279 mt_610_279 [(0, .ref 232), (3, .int v3), (4, .int v4), (5, .int (mz_b01 s.1)), (6, .int s.2)] [] false (mz_k S R N b t)) (C := C0) (fun C2 hc hx s hP hC => cb_610_279 hd hS hR v3 v4 N s hr hc hx hP hC) n (v5, v6) hn hC
theorem cg_610_0 (hd : 4 ≤ d) (hS : mz_extR S 342) (hR : mz_rok R 342)  (v1 : Int32) (N : mz_N) {C0 : (Bool) → Prop} (hr : ∀ (w : Bool), C0 w → Q (.inl (some (.int (mz_b01 w)))) (mz_k S R N b t)) (hp : cp_610_0 v1 N) (hC : C0 (cf_610_0 v1 N)) : mz_G (d, mz_X0 L xs, some .boolean, [], mk_610, 7, Q) 0 mk_610 [(0, .ref 232), (1, .int v1)] [] true (mz_k S R N b t) := by
  unfold cf_610_0 at hC
  unfold cp_610_0 at hp
  refine g_iload_n rfl ?_
  obtain ⟨h1, hp⟩ := hp
  refine g_s1v (Nat.le_of_ble_eq_true rfl) (fun _ hq => cs_419 (Nat.le_trans (Nat.le_of_ble_eq_true rfl) hd) (hS.le (Nat.le_of_ble_eq_true rfl)) (hR.le (Nat.le_of_ble_eq_true rfl))  v1 h1 hq) (g_istore_n (Nat.le_of_ble_eq_true rfl) rfl (g_iload_n rfl (g_iload_n rfl ?_)))
  refine g_s1v (Nat.le_of_ble_eq_true rfl) (fun _ hq => cs_420 (Nat.le_trans (Nat.le_of_ble_eq_true rfl) hd) (hS.le (Nat.le_of_ble_eq_true rfl)) (hR.le (Nat.le_of_ble_eq_true rfl))  (cf_419_0 v1) trivial hq) (g_isub (g_istore_n (Nat.le_of_ble_eq_true rfl) rfl (g_bipush mzb_28 (g_iload_n rfl (g_imul (g_istore (Nat.le_of_ble_eq_true rfl) rfl (g_iconst mzi_1 ?_)))))))
  refine g_istore (Nat.le_of_ble_eq_true rfl) rfl (g_iload_n rfl ?_)
  refine mz_cs hC (fun h3 hC => ?_) (fun h3 hC => ?_)
  · have hp := hp.1 h3
    refine g_brn (tg := 92) (by rw [h3]; rfl) (by decide) rfl ?_
    refine g_aload_n rfl (g_iload rfl ?_)
    have h104 := hp
    refine g_v2v (Nat.le_of_ble_eq_true rfl) (mz_at hS (Nat.le_of_ble_eq_true rfl) mzcS_232) (fun _ hq => cs_611 (Nat.le_trans (Nat.le_of_ble_eq_true rfl) hd) (hS.le (Nat.le_of_ble_eq_true rfl)) (hR.le (Nat.le_of_ble_eq_true rfl))  (28 * v1) N h104 hq) ?_
    exact g_zret (z := (cf_611_0 (28 * v1) N)) rfl (hr _ hC)
  · have hp := hp.2 h3
    refine mz_cs hC (fun h4 hC => ?_) (fun h4 hC => ?_)
    · have hp := hp.1 h4
      refine g_br (tg := 99) (by rw [h4]; rfl) ms_610_99 ?_
      refine g_aload_n rfl (g_iload rfl ?_)
      have h103 := hp
      refine g_v2v (Nat.le_of_ble_eq_true rfl) (mz_at hS (Nat.le_of_ble_eq_true rfl) mzcS_232) (fun _ hq => cs_613 (Nat.le_trans (Nat.le_of_ble_eq_true rfl) hd) (hS.le (Nat.le_of_ble_eq_true rfl)) (hR.le (Nat.le_of_ble_eq_true rfl))  (28 * v1) N h103 hq) ?_
      exact g_zret (z := (cf_613_0 (28 * v1) N)) rfl (hr _ hC)
    · have hp := hp.2 h4
      refine mz_cs hC (fun h5 hC => ?_) (fun h5 hC => ?_)
      · have hp := hp.1 h5
        refine g_br (tg := 106) (by rw [h5]; rfl) ms_610_106 ?_
        refine g_aload_n rfl (g_iload rfl (g_iconst mzi_0 (g_bipush mzb_24 (g_iconst mzi_0 (g_bipush mzb_20 ?_)))))
        obtain ⟨h99, hp⟩ := hp
        refine g_v6v (Nat.le_of_ble_eq_true rfl) (mz_at hS (Nat.le_of_ble_eq_true rfl) mzcS_232) (fun _ hq => cs_615 (Nat.le_trans (Nat.le_of_ble_eq_true rfl) hd) (hS.le (Nat.le_of_ble_eq_true rfl)) (hR.le (Nat.le_of_ble_eq_true rfl))  (28 * v1) 0 24 0 20 N h99 hq) ?_
        refine g_zeq (tg := 136) rfl ms_610_136 hC (fun h100 hC => ?_) (fun h100 hC => ?_)
        · have hp := hp.1 h100
          refine g_aload_n rfl (g_iload rfl (g_bipush mzb_24 ?_))
          have h101 := hp
          refine g_v3v (Nat.le_of_ble_eq_true rfl) (mz_at hS (Nat.le_of_ble_eq_true rfl) mzcS_232) (fun _ hq => cs_614 (Nat.le_trans (Nat.le_of_ble_eq_true rfl) hd) (hS.le (Nat.le_of_ble_eq_true rfl)) (hR.le (Nat.le_of_ble_eq_true rfl))  (28 * v1) 24 N h101 hq) ?_
          refine g_zeq (tg := 136) rfl ms_610_136 hC (fun h102 hC => ?_) (fun h102 hC => ?_)
          · refine g_iconst mzi_1 (g_goto (tg := 137) rfl ms_610_137 ?_)
            exact g_zret (z := true) rfl (hr _ hC)
          · refine g_iconst mzi_0 ?_
            exact g_zret (z := false) rfl (hr _ hC)
        · have hp := hp.2 h100
          refine g_iconst mzi_0 ?_
          exact g_zret (z := false) rfl (hr _ hC)
      · have hp := hp.2 h5
        refine mz_cs hC (fun h6 hC => ?_) (fun h6 hC => ?_)
        · have hp := hp.1 h6
          refine g_br (tg := 138) (by rw [h6]; rfl) ms_610_138 ?_
          refine g_iconst mzi_0 (g_istore (Nat.le_of_ble_eq_true rfl) rfl ?_)
          refine g_weak ?_ (g_cl (cg_610_141 hd hS hR (28 * v1) true 0 N hr hp hC))
          exact ⟨rfl, rfl, rfl, rfl, trivial⟩
        · have hp := hp.2 h6
          refine mz_cs hC (fun h7 hC => ?_) (fun h7 hC => ?_)
          · have hp := hp.1 h7
            refine g_br (tg := 208) (by rw [h7]; rfl) ms_610_208 ?_
            refine g_aload_n rfl (g_iload rfl (g_iconst mzi_0 (g_bipush mzb_24 (g_iconst mzi_0 (g_sipush mzs_200 ?_)))))
            obtain ⟨h95, hp⟩ := hp
            refine g_v6v (Nat.le_of_ble_eq_true rfl) (mz_at hS (Nat.le_of_ble_eq_true rfl) mzcS_232) (fun _ hq => cs_615 (Nat.le_trans (Nat.le_of_ble_eq_true rfl) hd) (hS.le (Nat.le_of_ble_eq_true rfl)) (hR.le (Nat.le_of_ble_eq_true rfl))  (28 * v1) 0 24 0 200 N h95 hq) ?_
            refine g_zeq (tg := 239) rfl ms_610_239 hC (fun h96 hC => ?_) (fun h96 hC => ?_)
            · have hp := hp.1 h96
              refine g_aload_n rfl (g_iload rfl (g_bipush mzb_24 ?_))
              have h97 := hp
              refine g_v3v (Nat.le_of_ble_eq_true rfl) (mz_at hS (Nat.le_of_ble_eq_true rfl) mzcS_232) (fun _ hq => cs_614 (Nat.le_trans (Nat.le_of_ble_eq_true rfl) hd) (hS.le (Nat.le_of_ble_eq_true rfl)) (hR.le (Nat.le_of_ble_eq_true rfl))  (28 * v1) 24 N h97 hq) ?_
              refine g_zeq (tg := 239) rfl ms_610_239 hC (fun h98 hC => ?_) (fun h98 hC => ?_)
              · refine g_iconst mzi_1 (g_goto (tg := 240) rfl ms_610_240 ?_)
                exact g_zret (z := true) rfl (hr _ hC)
              · refine g_iconst mzi_0 ?_
                exact g_zret (z := false) rfl (hr _ hC)
            · have hp := hp.2 h96
              refine g_iconst mzi_0 ?_
              exact g_zret (z := false) rfl (hr _ hC)
          · have hp := hp.2 h7
            refine mz_cs hC (fun h8 hC => ?_) (fun h8 hC => ?_)
            · have hp := hp.1 h8
              refine g_br (tg := 241) (by rw [h8]; rfl) ms_610_241 ?_
              refine g_iload_n rfl (g_bipush mzb_7 ?_)
              refine g_iclt (tg := 270) rfl ms_610_270 hC (fun h90 hC => ?_) (fun h90 hC => ?_)
              · have hp := hp.1 h90
                refine g_iconst mzi_1 (g_goto (tg := 275) rfl ms_610_275 ?_)
                exact g_zret (z := true) rfl (hr _ hC)
              · have hp := hp.2 h90
                refine g_aload_n rfl (g_iload rfl (g_iconst mzi_0 ?_))
                obtain ⟨h91, hp⟩ := hp
                refine g_v3v (Nat.le_of_ble_eq_true rfl) (mz_at hS (Nat.le_of_ble_eq_true rfl) mzcS_232) (fun _ hq => cs_612 (Nat.le_trans (Nat.le_of_ble_eq_true rfl) hd) (hS.le (Nat.le_of_ble_eq_true rfl)) (hR.le (Nat.le_of_ble_eq_true rfl))  (28 * v1) 0 N h91 hq) (g_sipush mzs_197 ?_)
                refine g_icge (tg := 274) rfl ms_610_274 hC (fun h92 hC => ?_) (fun h92 hC => ?_)
                · have hp := hp.1 h92
                  refine g_aload_n rfl (g_iload rfl (g_iconst mzi_1 ?_))
                  have h93 := hp
                  refine g_v3v (Nat.le_of_ble_eq_true rfl) (mz_at hS (Nat.le_of_ble_eq_true rfl) mzcS_232) (fun _ hq => cs_614 (Nat.le_trans (Nat.le_of_ble_eq_true rfl) hd) (hS.le (Nat.le_of_ble_eq_true rfl)) (hR.le (Nat.le_of_ble_eq_true rfl))  (28 * v1) 1 N h93 hq) ?_
                  refine g_zeq (tg := 274) rfl ms_610_274 hC (fun h94 hC => ?_) (fun h94 hC => ?_)
                  · refine g_iconst mzi_1 (g_goto (tg := 275) rfl ms_610_275 ?_)
                    exact g_zret (z := true) rfl (hr _ hC)
                  · refine g_iconst mzi_0 ?_
                    exact g_zret (z := false) rfl (hr _ hC)
                · have hp := hp.2 h92
                  refine g_iconst mzi_0 ?_
                  exact g_zret (z := false) rfl (hr _ hC)
            · have hp := hp.2 h8
              refine mz_cs hC (fun h9 hC => ?_) (fun h9 hC => ?_)
              · have hp := hp.1 h9
                refine g_br (tg := 276) (by rw [h9]; rfl) ms_610_276 ?_
                refine g_iconst mzi_0 (g_istore (Nat.le_of_ble_eq_true rfl) rfl ?_)
                refine g_weak ?_ (g_cl (cg_610_279 hd hS hR (v1 - (cf_420_0 (cf_419_0 v1))) (28 * v1) true 0 N hr hp hC))
                exact ⟨rfl, rfl, rfl, rfl, rfl, trivial⟩
              · have hp := hp.2 h9
                refine mz_cs hC (fun h10 hC => ?_) (fun h10 hC => ?_)
                · have hp := hp.1 h10
                  refine g_br (tg := 386) (by rw [h10]; rfl) ms_610_386 ?_
                  refine g_aload_n rfl (g_iload rfl (g_iconst mzi_0 ?_))
                  obtain ⟨h80, hp⟩ := hp
                  refine g_v3v (Nat.le_of_ble_eq_true rfl) (mz_at hS (Nat.le_of_ble_eq_true rfl) mzcS_232) (fun _ hq => cs_617 (Nat.le_trans (Nat.le_of_ble_eq_true rfl) hd) (hS.le (Nat.le_of_ble_eq_true rfl)) (hR.le (Nat.le_of_ble_eq_true rfl))  (28 * v1) 0 N h80 hq) ?_
                  refine g_zeq (tg := 444) rfl ms_610_444 hC (fun h81 hC => ?_) (fun h81 hC => ?_)
                  · have hp := hp.1 h81
                    refine g_aload_n rfl (g_iload rfl (g_bipush mzb_8 ?_))
                    obtain ⟨h82, hp⟩ := hp
                    refine g_v3v (Nat.le_of_ble_eq_true rfl) (mz_at hS (Nat.le_of_ble_eq_true rfl) mzcS_232) (fun _ hq => cs_617 (Nat.le_trans (Nat.le_of_ble_eq_true rfl) hd) (hS.le (Nat.le_of_ble_eq_true rfl)) (hR.le (Nat.le_of_ble_eq_true rfl))  (28 * v1) 8 N h82 hq) ?_
                    refine g_zeq (tg := 444) rfl ms_610_444 hC (fun h83 hC => ?_) (fun h83 hC => ?_)
                    · have hp := hp.1 h83
                      refine g_aload_n rfl (g_iload rfl (g_bipush mzb_16 ?_))
                      obtain ⟨h84, hp⟩ := hp
                      refine g_v3v (Nat.le_of_ble_eq_true rfl) (mz_at hS (Nat.le_of_ble_eq_true rfl) mzcS_232) (fun _ hq => cs_618 (Nat.le_trans (Nat.le_of_ble_eq_true rfl) hd) (hS.le (Nat.le_of_ble_eq_true rfl)) (hR.le (Nat.le_of_ble_eq_true rfl))  (28 * v1) 16 N h84 hq) ?_
                      refine g_zeq (tg := 444) rfl ms_610_444 hC (fun h85 hC => ?_) (fun h85 hC => ?_)
                      · have hp := hp.1 h85
                        refine g_aload_n rfl (g_iload rfl (g_bipush mzb_20 ?_))
                        obtain ⟨h86, hp⟩ := hp
                        refine g_v3v (Nat.le_of_ble_eq_true rfl) (mz_at hS (Nat.le_of_ble_eq_true rfl) mzcS_232) (fun _ hq => cs_618 (Nat.le_trans (Nat.le_of_ble_eq_true rfl) hd) (hS.le (Nat.le_of_ble_eq_true rfl)) (hR.le (Nat.le_of_ble_eq_true rfl))  (28 * v1) 20 N h86 hq) ?_
                        refine g_zeq (tg := 444) rfl ms_610_444 hC (fun h87 hC => ?_) (fun h87 hC => ?_)
                        · have hp := hp.1 h87
                          refine g_aload_n rfl (g_iload rfl (g_bipush mzb_24 ?_))
                          have h88 := hp
                          refine g_v3v (Nat.le_of_ble_eq_true rfl) (mz_at hS (Nat.le_of_ble_eq_true rfl) mzcS_232) (fun _ hq => cs_618 (Nat.le_trans (Nat.le_of_ble_eq_true rfl) hd) (hS.le (Nat.le_of_ble_eq_true rfl)) (hR.le (Nat.le_of_ble_eq_true rfl))  (28 * v1) 24 N h88 hq) ?_
                          refine g_zeq (tg := 444) rfl ms_610_444 hC (fun h89 hC => ?_) (fun h89 hC => ?_)
                          · refine g_iconst mzi_1 (g_goto (tg := 445) rfl ms_610_445 ?_)
                            exact g_zret (z := true) rfl (hr _ hC)
                          · refine g_iconst mzi_0 ?_
                            exact g_zret (z := false) rfl (hr _ hC)
                        · have hp := hp.2 h87
                          refine g_iconst mzi_0 ?_
                          exact g_zret (z := false) rfl (hr _ hC)
                      · have hp := hp.2 h85
                        refine g_iconst mzi_0 ?_
                        exact g_zret (z := false) rfl (hr _ hC)
                    · have hp := hp.2 h83
                      refine g_iconst mzi_0 ?_
                      exact g_zret (z := false) rfl (hr _ hC)
                  · have hp := hp.2 h81
                    refine g_iconst mzi_0 ?_
                    exact g_zret (z := false) rfl (hr _ hC)
                · have hp := hp.2 h10
                  refine mz_cs hC (fun h11 hC => ?_) (fun h11 hC => ?_)
                  · have hp := hp.1 h11
                    refine g_br (tg := 446) (by rw [h11]; rfl) ms_610_446 ?_
                    refine g_aload_n rfl (g_iload rfl (g_iconst mzi_0 (g_iconst mzi_4 (g_lconst mzl_0 (g_con3 ?_)))))
                    obtain ⟨h70, hp⟩ := hp
                    refine g_v6v (Nat.le_of_ble_eq_true rfl) (mz_at hS (Nat.le_of_ble_eq_true rfl) mzcS_232) (fun _ hq => cs_616 (Nat.le_trans (Nat.le_of_ble_eq_true rfl) hd) (hS.le (Nat.le_of_ble_eq_true rfl)) (hR.le (Nat.le_of_ble_eq_true rfl))  (28 * v1) 0 4 0 1000000 N h70 hq) ?_
                    refine g_zeq (tg := 508) rfl ms_610_508 hC (fun h71 hC => ?_) (fun h71 hC => ?_)
                    · have hp := hp.1 h71
                      refine g_aload_n rfl (g_iload rfl (g_iconst mzi_4 ?_))
                      obtain ⟨h72, hp⟩ := hp
                      refine g_v3v (Nat.le_of_ble_eq_true rfl) (mz_at hS (Nat.le_of_ble_eq_true rfl) mzcS_232) (fun _ hq => cs_617 (Nat.le_trans (Nat.le_of_ble_eq_true rfl) hd) (hS.le (Nat.le_of_ble_eq_true rfl)) (hR.le (Nat.le_of_ble_eq_true rfl))  (28 * v1) 4 N h72 hq) ?_
                      refine g_zeq (tg := 508) rfl ms_610_508 hC (fun h73 hC => ?_) (fun h73 hC => ?_)
                      · have hp := hp.1 h73
                        refine g_aload_n rfl (g_iload rfl (g_bipush mzb_12 ?_))
                        obtain ⟨h74, hp⟩ := hp
                        refine g_v3v (Nat.le_of_ble_eq_true rfl) (mz_at hS (Nat.le_of_ble_eq_true rfl) mzcS_232) (fun _ hq => cs_617 (Nat.le_trans (Nat.le_of_ble_eq_true rfl) hd) (hS.le (Nat.le_of_ble_eq_true rfl)) (hR.le (Nat.le_of_ble_eq_true rfl))  (28 * v1) 12 N h74 hq) ?_
                        refine g_zeq (tg := 508) rfl ms_610_508 hC (fun h75 hC => ?_) (fun h75 hC => ?_)
                        · have hp := hp.1 h75
                          refine g_aload_n rfl (g_iload rfl (g_bipush mzb_20 ?_))
                          obtain ⟨h76, hp⟩ := hp
                          refine g_v3v (Nat.le_of_ble_eq_true rfl) (mz_at hS (Nat.le_of_ble_eq_true rfl) mzcS_232) (fun _ hq => cs_618 (Nat.le_trans (Nat.le_of_ble_eq_true rfl) hd) (hS.le (Nat.le_of_ble_eq_true rfl)) (hR.le (Nat.le_of_ble_eq_true rfl))  (28 * v1) 20 N h76 hq) ?_
                          refine g_zeq (tg := 508) rfl ms_610_508 hC (fun h77 hC => ?_) (fun h77 hC => ?_)
                          · have hp := hp.1 h77
                            refine g_aload_n rfl (g_iload rfl (g_bipush mzb_24 ?_))
                            have h78 := hp
                            refine g_v3v (Nat.le_of_ble_eq_true rfl) (mz_at hS (Nat.le_of_ble_eq_true rfl) mzcS_232) (fun _ hq => cs_618 (Nat.le_trans (Nat.le_of_ble_eq_true rfl) hd) (hS.le (Nat.le_of_ble_eq_true rfl)) (hR.le (Nat.le_of_ble_eq_true rfl))  (28 * v1) 24 N h78 hq) ?_
                            refine g_zeq (tg := 508) rfl ms_610_508 hC (fun h79 hC => ?_) (fun h79 hC => ?_)
                            · refine g_iconst mzi_1 (g_goto (tg := 509) rfl ms_610_509 ?_)
                              exact g_zret (z := true) rfl (hr _ hC)
                            · refine g_iconst mzi_0 ?_
                              exact g_zret (z := false) rfl (hr _ hC)
                          · have hp := hp.2 h77
                            refine g_iconst mzi_0 ?_
                            exact g_zret (z := false) rfl (hr _ hC)
                        · have hp := hp.2 h75
                          refine g_iconst mzi_0 ?_
                          exact g_zret (z := false) rfl (hr _ hC)
                      · have hp := hp.2 h73
                        refine g_iconst mzi_0 ?_
                        exact g_zret (z := false) rfl (hr _ hC)
                    · have hp := hp.2 h71
                      refine g_iconst mzi_0 ?_
                      exact g_zret (z := false) rfl (hr _ hC)
                  · have hp := hp.2 h11
                    refine mz_cs hC (fun h12 hC => ?_) (fun h12 hC => ?_)
                    · have hp := hp.1 h12
                      refine g_br (tg := 510) (by rw [h12]; rfl) ms_610_510 ?_
                      refine g_aload_n rfl (g_iload rfl (g_iconst mzi_0 ?_))
                      obtain ⟨h56, hp⟩ := hp
                      refine g_v3v (Nat.le_of_ble_eq_true rfl) (mz_at hS (Nat.le_of_ble_eq_true rfl) mzcS_232) (fun _ hq => cs_618 (Nat.le_trans (Nat.le_of_ble_eq_true rfl) hd) (hS.le (Nat.le_of_ble_eq_true rfl)) (hR.le (Nat.le_of_ble_eq_true rfl))  (28 * v1) 0 N h56 hq) ?_
                      refine g_zeq (tg := 609) rfl ms_610_609 hC (fun h57 hC => ?_) (fun h57 hC => ?_)
                      · have hp := hp.1 h57
                        refine g_aload_n rfl (g_iload rfl (g_iconst mzi_4 ?_))
                        obtain ⟨h58, hp⟩ := hp
                        refine g_v3v (Nat.le_of_ble_eq_true rfl) (mz_at hS (Nat.le_of_ble_eq_true rfl) mzcS_232) (fun _ hq => cs_618 (Nat.le_trans (Nat.le_of_ble_eq_true rfl) hd) (hS.le (Nat.le_of_ble_eq_true rfl)) (hR.le (Nat.le_of_ble_eq_true rfl))  (28 * v1) 4 N h58 hq) ?_
                        refine g_zeq (tg := 609) rfl ms_610_609 hC (fun h59 hC => ?_) (fun h59 hC => ?_)
                        · have hp := hp.1 h59
                          refine g_aload_n rfl (g_iload rfl (g_bipush mzb_8 (g_iconst mzi_4 (g_lconst mzl_0 (g_con3 ?_)))))
                          obtain ⟨h60, hp⟩ := hp
                          refine g_v6v (Nat.le_of_ble_eq_true rfl) (mz_at hS (Nat.le_of_ble_eq_true rfl) mzcS_232) (fun _ hq => cs_616 (Nat.le_trans (Nat.le_of_ble_eq_true rfl) hd) (hS.le (Nat.le_of_ble_eq_true rfl)) (hR.le (Nat.le_of_ble_eq_true rfl))  (28 * v1) 8 4 0 20000 N h60 hq) ?_
                          refine g_zeq (tg := 609) rfl ms_610_609 hC (fun h61 hC => ?_) (fun h61 hC => ?_)
                          · have hp := hp.1 h61
                            refine g_aload_n rfl (g_iload rfl (g_bipush mzb_12 (g_iconst mzi_4 (g_lconst mzl_0 (g_con3 ?_)))))
                            obtain ⟨h62, hp⟩ := hp
                            refine g_v6v (Nat.le_of_ble_eq_true rfl) (mz_at hS (Nat.le_of_ble_eq_true rfl) mzcS_232) (fun _ hq => cs_616 (Nat.le_trans (Nat.le_of_ble_eq_true rfl) hd) (hS.le (Nat.le_of_ble_eq_true rfl)) (hR.le (Nat.le_of_ble_eq_true rfl))  (28 * v1) 12 4 0 1000 N h62 hq) ?_
                            refine g_zeq (tg := 609) rfl ms_610_609 hC (fun h63 hC => ?_) (fun h63 hC => ?_)
                            · have hp := hp.1 h63
                              refine g_aload_n rfl (g_iload rfl (g_bipush mzb_16 (g_iconst mzi_4 (g_lconst mzl_0 (g_con3 ?_)))))
                              obtain ⟨h64, hp⟩ := hp
                              refine g_v6v (Nat.le_of_ble_eq_true rfl) (mz_at hS (Nat.le_of_ble_eq_true rfl) mzcS_232) (fun _ hq => cs_616 (Nat.le_trans (Nat.le_of_ble_eq_true rfl) hd) (hS.le (Nat.le_of_ble_eq_true rfl)) (hR.le (Nat.le_of_ble_eq_true rfl))  (28 * v1) 16 4 0 1000 N h64 hq) ?_
                              refine g_zeq (tg := 609) rfl ms_610_609 hC (fun h65 hC => ?_) (fun h65 hC => ?_)
                              · have hp := hp.1 h65
                                refine g_aload_n rfl (g_iload rfl (g_bipush mzb_20 (g_iconst mzi_4 (g_lconst mzl_0 (g_con3 ?_)))))
                                obtain ⟨h66, hp⟩ := hp
                                refine g_v6v (Nat.le_of_ble_eq_true rfl) (mz_at hS (Nat.le_of_ble_eq_true rfl) mzcS_232) (fun _ hq => cs_616 (Nat.le_trans (Nat.le_of_ble_eq_true rfl) hd) (hS.le (Nat.le_of_ble_eq_true rfl)) (hR.le (Nat.le_of_ble_eq_true rfl))  (28 * v1) 20 4 0 1000 N h66 hq) ?_
                                refine g_zeq (tg := 609) rfl ms_610_609 hC (fun h67 hC => ?_) (fun h67 hC => ?_)
                                · have hp := hp.1 h67
                                  refine g_aload_n rfl (g_iload rfl (g_bipush mzb_24 ?_))
                                  have h68 := hp
                                  refine g_v3v (Nat.le_of_ble_eq_true rfl) (mz_at hS (Nat.le_of_ble_eq_true rfl) mzcS_232) (fun _ hq => cs_614 (Nat.le_trans (Nat.le_of_ble_eq_true rfl) hd) (hS.le (Nat.le_of_ble_eq_true rfl)) (hR.le (Nat.le_of_ble_eq_true rfl))  (28 * v1) 24 N h68 hq) ?_
                                  refine g_zeq (tg := 609) rfl ms_610_609 hC (fun h69 hC => ?_) (fun h69 hC => ?_)
                                  · refine g_iconst mzi_1 (g_goto (tg := 610) rfl ms_610_610 ?_)
                                    exact g_zret (z := true) rfl (hr _ hC)
                                  · refine g_iconst mzi_0 ?_
                                    exact g_zret (z := false) rfl (hr _ hC)
                                · have hp := hp.2 h67
                                  refine g_iconst mzi_0 ?_
                                  exact g_zret (z := false) rfl (hr _ hC)
                              · have hp := hp.2 h65
                                refine g_iconst mzi_0 ?_
                                exact g_zret (z := false) rfl (hr _ hC)
                            · have hp := hp.2 h63
                              refine g_iconst mzi_0 ?_
                              exact g_zret (z := false) rfl (hr _ hC)
                          · have hp := hp.2 h61
                            refine g_iconst mzi_0 ?_
                            exact g_zret (z := false) rfl (hr _ hC)
                        · have hp := hp.2 h59
                          refine g_iconst mzi_0 ?_
                          exact g_zret (z := false) rfl (hr _ hC)
                      · have hp := hp.2 h57
                        refine g_iconst mzi_0 ?_
                        exact g_zret (z := false) rfl (hr _ hC)
                    · have hp := hp.2 h12
                      refine mz_cs hC (fun h13 hC => ?_) (fun h13 hC => ?_)
                      · have hp := hp.1 h13
                        refine g_br (tg := 611) (by rw [h13]; rfl) ms_610_611 ?_
                        refine g_aload_n rfl (g_iload rfl (g_iconst mzi_0 (g_iconst mzi_4 (g_lconst mzl_1 (g_con3 ?_)))))
                        obtain ⟨h46, hp⟩ := hp
                        refine g_v6v (Nat.le_of_ble_eq_true rfl) (mz_at hS (Nat.le_of_ble_eq_true rfl) mzcS_232) (fun _ hq => cs_616 (Nat.le_trans (Nat.le_of_ble_eq_true rfl) hd) (hS.le (Nat.le_of_ble_eq_true rfl)) (hR.le (Nat.le_of_ble_eq_true rfl))  (28 * v1) 0 4 1 100000 N h46 hq) ?_
                        refine g_zeq (tg := 679) rfl ms_610_679 hC (fun h47 hC => ?_) (fun h47 hC => ?_)
                        · have hp := hp.1 h47
                          refine g_aload_n rfl (g_iload rfl (g_iconst mzi_4 ?_))
                          obtain ⟨h48, hp⟩ := hp
                          refine g_v3v (Nat.le_of_ble_eq_true rfl) (mz_at hS (Nat.le_of_ble_eq_true rfl) mzcS_232) (fun _ hq => cs_618 (Nat.le_trans (Nat.le_of_ble_eq_true rfl) hd) (hS.le (Nat.le_of_ble_eq_true rfl)) (hR.le (Nat.le_of_ble_eq_true rfl))  (28 * v1) 4 N h48 hq) ?_
                          refine g_zeq (tg := 679) rfl ms_610_679 hC (fun h49 hC => ?_) (fun h49 hC => ?_)
                          · have hp := hp.1 h49
                            refine g_aload_n rfl (g_iload rfl (g_bipush mzb_8 (g_iconst mzi_4 (g_lconst mzl_0 (g_con3 ?_)))))
                            obtain ⟨h50, hp⟩ := hp
                            refine g_v6v (Nat.le_of_ble_eq_true rfl) (mz_at hS (Nat.le_of_ble_eq_true rfl) mzcS_232) (fun _ hq => cs_616 (Nat.le_trans (Nat.le_of_ble_eq_true rfl) hd) (hS.le (Nat.le_of_ble_eq_true rfl)) (hR.le (Nat.le_of_ble_eq_true rfl))  (28 * v1) 8 4 0 99 N h50 hq) ?_
                            refine g_zeq (tg := 679) rfl ms_610_679 hC (fun h51 hC => ?_) (fun h51 hC => ?_)
                            · have hp := hp.1 h51
                              refine g_aload_n rfl (g_iload rfl (g_bipush mzb_12 ?_))
                              obtain ⟨h52, hp⟩ := hp
                              refine g_v3v (Nat.le_of_ble_eq_true rfl) (mz_at hS (Nat.le_of_ble_eq_true rfl) mzcS_232) (fun _ hq => cs_612 (Nat.le_trans (Nat.le_of_ble_eq_true rfl) hd) (hS.le (Nat.le_of_ble_eq_true rfl)) (hR.le (Nat.le_of_ble_eq_true rfl))  (28 * v1) 12 N h52 hq) (g_iconst mzi_2 ?_)
                              refine g_icge (tg := 679) rfl ms_610_679 hC (fun h53 hC => ?_) (fun h53 hC => ?_)
                              · have hp := hp.1 h53
                                refine g_aload_n rfl (g_iload rfl (g_bipush mzb_13 ?_))
                                have h54 := hp
                                refine g_v3v (Nat.le_of_ble_eq_true rfl) (mz_at hS (Nat.le_of_ble_eq_true rfl) mzcS_232) (fun _ hq => cs_614 (Nat.le_trans (Nat.le_of_ble_eq_true rfl) hd) (hS.le (Nat.le_of_ble_eq_true rfl)) (hR.le (Nat.le_of_ble_eq_true rfl))  (28 * v1) 13 N h54 hq) ?_
                                refine g_zeq (tg := 679) rfl ms_610_679 hC (fun h55 hC => ?_) (fun h55 hC => ?_)
                                · refine g_iconst mzi_1 (g_goto (tg := 680) rfl ms_610_680 ?_)
                                  exact g_zret (z := true) rfl (hr _ hC)
                                · refine g_iconst mzi_0 ?_
                                  exact g_zret (z := false) rfl (hr _ hC)
                              · have hp := hp.2 h53
                                refine g_iconst mzi_0 ?_
                                exact g_zret (z := false) rfl (hr _ hC)
                            · have hp := hp.2 h51
                              refine g_iconst mzi_0 ?_
                              exact g_zret (z := false) rfl (hr _ hC)
                          · have hp := hp.2 h49
                            refine g_iconst mzi_0 ?_
                            exact g_zret (z := false) rfl (hr _ hC)
                        · have hp := hp.2 h47
                          refine g_iconst mzi_0 ?_
                          exact g_zret (z := false) rfl (hr _ hC)
                      · have hp := hp.2 h13
                        refine mz_cs hC (fun h14 hC => ?_) (fun h14 hC => ?_)
                        · have hp := hp.1 h14
                          refine g_br (tg := 681) (by rw [h14]; rfl) ms_610_681 ?_
                          refine g_aload_n rfl (g_iload rfl (g_iload_n rfl ?_))
                          have h45 := hp
                          refine g_v3v (Nat.le_of_ble_eq_true rfl) (mz_at hS (Nat.le_of_ble_eq_true rfl) mzcS_232) (fun _ hq => cs_619 (Nat.le_trans (Nat.le_of_ble_eq_true rfl) hd) (hS.le (Nat.le_of_ble_eq_true rfl)) (hR.le (Nat.le_of_ble_eq_true rfl))  (28 * v1) (v1 - (cf_420_0 (cf_419_0 v1))) N h45 hq) ?_
                          exact g_zret (z := (cf_619_0 (28 * v1) (v1 - (cf_420_0 (cf_419_0 v1))) N)) rfl (hr _ hC)
                        · have hp := hp.2 h14
                          refine mz_cs hC (fun h15 hC => ?_) (fun h15 hC => ?_)
                          · have hp := hp.1 h15
                            refine g_br (tg := 689) (by rw [h15]; rfl) ms_610_689 ?_
                            refine g_aload_n rfl (g_iload rfl (g_iconst mzi_0 ?_))
                            obtain ⟨h37, hp⟩ := hp
                            refine g_v3v (Nat.le_of_ble_eq_true rfl) (mz_at hS (Nat.le_of_ble_eq_true rfl) mzcS_232) (fun _ hq => cs_612 (Nat.le_trans (Nat.le_of_ble_eq_true rfl) hd) (hS.le (Nat.le_of_ble_eq_true rfl)) (hR.le (Nat.le_of_ble_eq_true rfl))  (28 * v1) 0 N h37 hq) (g_iconst mzi_1 ?_)
                            refine g_icne (tg := 734) rfl ms_610_734 hC (fun h38 hC => ?_) (fun h38 hC => ?_)
                            · have hp := hp.1 h38
                              refine g_aload_n rfl (g_iload rfl (g_iconst mzi_1 ?_))
                              obtain ⟨h39, hp⟩ := hp
                              refine g_v3v (Nat.le_of_ble_eq_true rfl) (mz_at hS (Nat.le_of_ble_eq_true rfl) mzcS_232) (fun _ hq => cs_612 (Nat.le_trans (Nat.le_of_ble_eq_true rfl) hd) (hS.le (Nat.le_of_ble_eq_true rfl)) (hR.le (Nat.le_of_ble_eq_true rfl))  (28 * v1) 1 N h39 hq) (g_aload_n rfl (g_iload rfl (g_iconst mzi_2 ?_)))
                              obtain ⟨h40, hp⟩ := hp
                              refine g_v3v (Nat.le_of_ble_eq_true rfl) (mz_at hS (Nat.le_of_ble_eq_true rfl) mzcS_232) (fun _ hq => cs_612 (Nat.le_trans (Nat.le_of_ble_eq_true rfl) hd) (hS.le (Nat.le_of_ble_eq_true rfl)) (hR.le (Nat.le_of_ble_eq_true rfl))  (28 * v1) 2 N h40 hq) ?_
                              refine g_s2v (Nat.le_of_ble_eq_true rfl) (fun _ hq => cs_575 (Nat.le_trans (Nat.le_of_ble_eq_true rfl) hd) (hS.le (Nat.le_of_ble_eq_true rfl)) (hR.le (Nat.le_of_ble_eq_true rfl))  (cf_612_0 (28 * v1) 1 N) (cf_612_0 (28 * v1) 2 N) trivial hq) ?_
                              refine g_zeq (tg := 734) rfl ms_610_734 hC (fun h42 hC => ?_) (fun h42 hC => ?_)
                              · have hp := hp.1 h42
                                refine g_aload_n rfl (g_iload rfl (g_iconst mzi_3 ?_))
                                have h43 := hp
                                refine g_v3v (Nat.le_of_ble_eq_true rfl) (mz_at hS (Nat.le_of_ble_eq_true rfl) mzcS_232) (fun _ hq => cs_614 (Nat.le_trans (Nat.le_of_ble_eq_true rfl) hd) (hS.le (Nat.le_of_ble_eq_true rfl)) (hR.le (Nat.le_of_ble_eq_true rfl))  (28 * v1) 3 N h43 hq) ?_
                                refine g_zeq (tg := 734) rfl ms_610_734 hC (fun h44 hC => ?_) (fun h44 hC => ?_)
                                · refine g_iconst mzi_1 (g_goto (tg := 735) rfl ms_610_735 ?_)
                                  exact g_zret (z := true) rfl (hr _ hC)
                                · refine g_iconst mzi_0 ?_
                                  exact g_zret (z := false) rfl (hr _ hC)
                              · have hp := hp.2 h42
                                refine g_iconst mzi_0 ?_
                                exact g_zret (z := false) rfl (hr _ hC)
                            · have hp := hp.2 h38
                              refine g_iconst mzi_0 ?_
                              exact g_zret (z := false) rfl (hr _ hC)
                          · have hp := hp.2 h15
                            refine mz_cs hC (fun h16 hC => ?_) (fun h16 hC => ?_)
                            · have hp := hp.1 h16
                              refine g_br (tg := 736) (by rw [h16]; rfl) ms_610_736 ?_
                              refine g_aload_n rfl (g_iload rfl (g_iconst mzi_0 ?_))
                              obtain ⟨h25, hp⟩ := hp
                              refine g_v3v (Nat.le_of_ble_eq_true rfl) (mz_at hS (Nat.le_of_ble_eq_true rfl) mzcS_232) (fun _ hq => cs_612 (Nat.le_trans (Nat.le_of_ble_eq_true rfl) hd) (hS.le (Nat.le_of_ble_eq_true rfl)) (hR.le (Nat.le_of_ble_eq_true rfl))  (28 * v1) 0 N h25 hq) (g_iconst mzi_1 ?_)
                              refine g_icne (tg := 812) rfl ms_610_812 hC (fun h26 hC => ?_) (fun h26 hC => ?_)
                              · have hp := hp.1 h26
                                refine g_aload_n rfl (g_iload rfl (g_iconst mzi_1 ?_))
                                obtain ⟨h27, hp⟩ := hp
                                refine g_v3v (Nat.le_of_ble_eq_true rfl) (mz_at hS (Nat.le_of_ble_eq_true rfl) mzcS_232) (fun _ hq => cs_612 (Nat.le_trans (Nat.le_of_ble_eq_true rfl) hd) (hS.le (Nat.le_of_ble_eq_true rfl)) (hR.le (Nat.le_of_ble_eq_true rfl))  (28 * v1) 1 N h27 hq) (g_bipush mzb_24 ?_)
                                refine g_icge (tg := 812) rfl ms_610_812 hC (fun h28 hC => ?_) (fun h28 hC => ?_)
                                · have hp := hp.1 h28
                                  refine g_aload_n rfl (g_iload rfl (g_iconst mzi_2 ?_))
                                  obtain ⟨h29, hp⟩ := hp
                                  refine g_v3v (Nat.le_of_ble_eq_true rfl) (mz_at hS (Nat.le_of_ble_eq_true rfl) mzcS_232) (fun _ hq => cs_612 (Nat.le_trans (Nat.le_of_ble_eq_true rfl) hd) (hS.le (Nat.le_of_ble_eq_true rfl)) (hR.le (Nat.le_of_ble_eq_true rfl))  (28 * v1) 2 N h29 hq) (g_bipush mzb_24 ?_)
                                  refine g_icge (tg := 812) rfl ms_610_812 hC (fun h30 hC => ?_) (fun h30 hC => ?_)
                                  · have hp := hp.1 h30
                                    refine g_aload_n rfl (g_iload rfl (g_iconst mzi_3 ?_))
                                    obtain ⟨h31, hp⟩ := hp
                                    refine g_v3v (Nat.le_of_ble_eq_true rfl) (mz_at hS (Nat.le_of_ble_eq_true rfl) mzcS_232) (fun _ hq => cs_612 (Nat.le_trans (Nat.le_of_ble_eq_true rfl) hd) (hS.le (Nat.le_of_ble_eq_true rfl)) (hR.le (Nat.le_of_ble_eq_true rfl))  (28 * v1) 3 N h31 hq) (g_iconst mzi_2 ?_)
                                    refine g_icge (tg := 812) rfl ms_610_812 hC (fun h32 hC => ?_) (fun h32 hC => ?_)
                                    · have hp := hp.1 h32
                                      refine g_aload_n rfl (g_iload rfl (g_iconst mzi_4 (g_iconst mzi_4 (g_lconst mzl_0 (g_con3 ?_)))))
                                      obtain ⟨h33, hp⟩ := hp
                                      refine g_v6v (Nat.le_of_ble_eq_true rfl) (mz_at hS (Nat.le_of_ble_eq_true rfl) mzcS_232) (fun _ hq => cs_616 (Nat.le_trans (Nat.le_of_ble_eq_true rfl) hd) (hS.le (Nat.le_of_ble_eq_true rfl)) (hR.le (Nat.le_of_ble_eq_true rfl))  (28 * v1) 4 4 0 1048575 N h33 hq) ?_
                                      refine g_zeq (tg := 812) rfl ms_610_812 hC (fun h34 hC => ?_) (fun h34 hC => ?_)
                                      · have hp := hp.1 h34
                                        refine g_aload_n rfl (g_iload rfl (g_bipush mzb_8 ?_))
                                        have h35 := hp
                                        refine g_v3v (Nat.le_of_ble_eq_true rfl) (mz_at hS (Nat.le_of_ble_eq_true rfl) mzcS_232) (fun _ hq => cs_614 (Nat.le_trans (Nat.le_of_ble_eq_true rfl) hd) (hS.le (Nat.le_of_ble_eq_true rfl)) (hR.le (Nat.le_of_ble_eq_true rfl))  (28 * v1) 8 N h35 hq) ?_
                                        refine g_zeq (tg := 812) rfl ms_610_812 hC (fun h36 hC => ?_) (fun h36 hC => ?_)
                                        · refine g_iconst mzi_1 (g_goto (tg := 813) rfl ms_610_813 ?_)
                                          exact g_zret (z := true) rfl (hr _ hC)
                                        · refine g_iconst mzi_0 ?_
                                          exact g_zret (z := false) rfl (hr _ hC)
                                      · have hp := hp.2 h34
                                        refine g_iconst mzi_0 ?_
                                        exact g_zret (z := false) rfl (hr _ hC)
                                    · have hp := hp.2 h32
                                      refine g_iconst mzi_0 ?_
                                      exact g_zret (z := false) rfl (hr _ hC)
                                  · have hp := hp.2 h30
                                    refine g_iconst mzi_0 ?_
                                    exact g_zret (z := false) rfl (hr _ hC)
                                · have hp := hp.2 h28
                                  refine g_iconst mzi_0 ?_
                                  exact g_zret (z := false) rfl (hr _ hC)
                              · have hp := hp.2 h26
                                refine g_iconst mzi_0 ?_
                                exact g_zret (z := false) rfl (hr _ hC)
                            · have hp := hp.2 h16
                              refine g_br (tg := 814) ((mz_tsw_d (l := [1, 2, 3, 4, 5, 6, 7, 8, 9, 10, 11, 12, 13, 14]) (mz_rng 1 13) ⟨h3, h4, h5, h6, h7, h8, h9, h10, h11, h12, h13, h14, h15, h16, trivial⟩).trans (mz_tg_t rfl)) ms_610_814 ?_
                              refine g_aload_n rfl (g_iload rfl (g_iconst mzi_0 ?_))
                              obtain ⟨h17, hp⟩ := hp
                              refine g_v3v (Nat.le_of_ble_eq_true rfl) (mz_at hS (Nat.le_of_ble_eq_true rfl) mzcS_232) (fun _ hq => cs_612 (Nat.le_trans (Nat.le_of_ble_eq_true rfl) hd) (hS.le (Nat.le_of_ble_eq_true rfl)) (hR.le (Nat.le_of_ble_eq_true rfl))  (28 * v1) 0 N h17 hq) (g_iconst mzi_1 ?_)
                              refine g_icne (tg := 859) rfl ms_610_859 hC (fun h18 hC => ?_) (fun h18 hC => ?_)
                              · have hp := hp.1 h18
                                refine g_aload_n rfl (g_iload rfl (g_iconst mzi_1 ?_))
                                obtain ⟨h19, hp⟩ := hp
                                refine g_v3v (Nat.le_of_ble_eq_true rfl) (mz_at hS (Nat.le_of_ble_eq_true rfl) mzcS_232) (fun _ hq => cs_612 (Nat.le_trans (Nat.le_of_ble_eq_true rfl) hd) (hS.le (Nat.le_of_ble_eq_true rfl)) (hR.le (Nat.le_of_ble_eq_true rfl))  (28 * v1) 1 N h19 hq) (g_aload_n rfl (g_iload rfl (g_iconst mzi_2 ?_)))
                                obtain ⟨h20, hp⟩ := hp
                                refine g_v3v (Nat.le_of_ble_eq_true rfl) (mz_at hS (Nat.le_of_ble_eq_true rfl) mzcS_232) (fun _ hq => cs_612 (Nat.le_trans (Nat.le_of_ble_eq_true rfl) hd) (hS.le (Nat.le_of_ble_eq_true rfl)) (hR.le (Nat.le_of_ble_eq_true rfl))  (28 * v1) 2 N h20 hq) ?_
                                obtain ⟨h21, hp⟩ := hp
                                refine g_s2v (Nat.le_of_ble_eq_true rfl) (fun _ hq => cs_558 (Nat.le_trans (Nat.le_of_ble_eq_true rfl) hd) (hS.le (Nat.le_of_ble_eq_true rfl)) (hR.le (Nat.le_of_ble_eq_true rfl))  (cf_612_0 (28 * v1) 1 N) (cf_612_0 (28 * v1) 2 N) h21 hq) ?_
                                refine g_zeq (tg := 859) rfl ms_610_859 hC (fun h22 hC => ?_) (fun h22 hC => ?_)
                                · have hp := hp.1 h22
                                  refine g_aload_n rfl (g_iload rfl (g_iconst mzi_3 ?_))
                                  have h23 := hp
                                  refine g_v3v (Nat.le_of_ble_eq_true rfl) (mz_at hS (Nat.le_of_ble_eq_true rfl) mzcS_232) (fun _ hq => cs_614 (Nat.le_trans (Nat.le_of_ble_eq_true rfl) hd) (hS.le (Nat.le_of_ble_eq_true rfl)) (hR.le (Nat.le_of_ble_eq_true rfl))  (28 * v1) 3 N h23 hq) ?_
                                  refine g_zeq (tg := 859) rfl ms_610_859 hC (fun h24 hC => ?_) (fun h24 hC => ?_)
                                  · refine g_iconst mzi_1 (g_goto (tg := 860) rfl ms_610_860 ?_)
                                    exact g_zret (z := true) rfl (hr _ hC)
                                  · refine g_iconst mzi_0 ?_
                                    exact g_zret (z := false) rfl (hr _ hC)
                                · have hp := hp.2 h22
                                  refine g_iconst mzi_0 ?_
                                  exact g_zret (z := false) rfl (hr _ hC)
                              · have hp := hp.2 h18
                                refine g_iconst mzi_0 ?_
                                exact g_zret (z := false) rfl (hr _ hC)
theorem cs_610 (hd : 5 ≤ d) (hS : mz_extR S 342) (hR : mz_rok R 342)  (v1 : Int32) (N : mz_N) (hp : cp_610_0 v1 N) (hq : Q (.inl (some (.int (mz_b01 (cf_610_0 v1 N))))) (mz_k S R N b t)) : mz_Ed (mz_X0 L xs) d 610 [.ref 232, .int v1] (mz_k S R N b t) Q :=
  by
  refine g_in mzq_610 (Nat.le_of_ble_eq_true rfl) (Nat.le_of_ble_eq_true rfl) (Nat.le_trans (Nat.le_of_ble_eq_true rfl) hd) ?_
  refine g_weak ?_ (cg_610_0 (d := d - 1) (by omega) hS hR v1 N (C0 := fun z => Q (.inl (some (.int (mz_b01 z)))) (mz_k S R N b t)) (fun _ h => h) hp hq)
  exact ⟨rfl, rfl, trivial⟩
/-! 620 KeptHouseModel.isRoomy ()Z -/
theorem ms_620_0 : mz_sf mk_620 0 = mk_620 := mz_sf_zero _
theorem ms_620_8 : mz_sf mk_620 8 = mt_620_8 := mz_sf_add ms_620_0 (t := 8) rfl rfl
theorem ms_620_15 : mz_sf mk_620 15 = mt_620_15 := mz_sf_add ms_620_8 (t := 7) rfl rfl
theorem ms_620_64 : mz_sf mk_620 64 = mt_620_64 := mz_sf_add ms_620_15 (t := 49) rfl rfl
theorem ms_620_70 : mz_sf mk_620 70 = mt_620_70 := mz_sf_add ms_620_64 (t := 6) rfl rfl
theorem ms_620_76 : mz_sf mk_620 76 = mt_620_76 := mz_sf_add ms_620_70 (t := 6) rfl rfl
theorem ms_620_95 : mz_sf mk_620 95 = mt_620_95 := mz_sf_add ms_620_76 (t := 19) rfl rfl
theorem ms_620_96 : mz_sf mk_620 96 = mt_620_96 := mz_sf_add ms_620_95 (t := 1) rfl rfl
set_option maxRecDepth 100000 in
theorem mzq_620 : mz_PG0 620 = some (12, ⟨"KeptHouseModel", "isRoomy", "()Z"⟩, prog_14_method_211_code, 3, some .boolean, [], mk_620, []) := rfl
theorem cg_620_96 (hd : 4 ≤ d) (hS : mz_extR S 342) (hR : mz_rok R 342)  (s0 : Bool) (N : mz_N) {C0 : (Bool × mz_N) → Prop} (hr : ∀ (w : Bool) (N2 : mz_N), C0 (w, N2) → Q (.inl (some (.int (mz_b01 w)))) (mz_k S R N2 b t)) (hp : cp_620_96 s0 N) (hC : C0 (cf_620_96 s0 N)) : mz_G (d, mz_X0 L xs, some .boolean, [], mk_620, 3, Q) 96 mt_620_96 [(0, .ref 232)] [.int (mz_b01 s0)] false (mz_k S R N b t) := by
  unfold cf_620_96 at hC
  unfold cp_620_96 at hp
  refine g_istore_n (Nat.le_of_ble_eq_true rfl) rfl (g_aload_n rfl (g_iconst mzi_0 ?_))
  have h1 := hp
  refine g_v2n (Nat.le_of_ble_eq_true rfl) (mz_at hS (Nat.le_of_ble_eq_true rfl) mzcS_232) (fun _ hq => cs_428 (Nat.le_trans (Nat.le_of_ble_eq_true rfl) hd) (hS.le (Nat.le_of_ble_eq_true rfl)) (hR.le (Nat.le_of_ble_eq_true rfl))  0 N h1 hq) (g_iload_n rfl ?_)
  exact g_zret (z := s0) rfl (hr _ _ hC)
theorem cg_620_64 (hd : 4 ≤ d) (hS : mz_extR S 342) (hR : mz_rok R 342)  (v1 : Int32) (v2 : Int32) (N : mz_N) {C0 : (Bool × mz_N) → Prop} (hr : ∀ (w : Bool) (N2 : mz_N), C0 (w, N2) → Q (.inl (some (.int (mz_b01 w)))) (mz_k S R N2 b t)) {C1 : ((Int32 × mz_N) ⊕ (Bool × mz_N)) → Prop} (hc1 : ∀ s2, C1 (.inl s2) → mz_G (d, mz_X0 L xs, some .boolean, [], mk_620, 3, Q) 8 mt_620_8 [(0, .ref 232), (1, .int s2.1)] [] false (mz_k S R s2.2 b t)) (hx1 : ∀ z, C1 (.inr z) → C0 z) {C2 : ((Int32 × mz_N) ⊕ ((Int32 × mz_N) ⊕ (Bool × mz_N))) → Prop} (hc2 : ∀ s2, C2 (.inl s2) → mz_G (d, mz_X0 L xs, some .boolean, [], mk_620, 3, Q) 15 mt_620_15 [(0, .ref 232), (1, .int v1), (2, .int s2.1)] [] false (mz_k S R s2.2 b t)) (hx2 : ∀ z, C2 (.inr z) → C1 z) (hp : cp_620_64 v1 v2 N) (hC : C2 (cf_620_64 v1 v2 N)) : mz_G (d, mz_X0 L xs, some .boolean, [], mk_620, 3, Q) 64 mt_620_64 [(0, .ref 232), (1, .int v1), (2, .int v2)] [] false (mz_k S R N b t) := by
  unfold cf_620_64 at hC
  unfold cp_620_64 at hp
  refine g_iinc rfl mzi_1 (Nat.le_of_ble_eq_true rfl) rfl (g_goto (tg := 15) rfl ms_620_15 ?_)
  refine g_weak ?_ (g_cl (hc2 ((v2 + 1), N) hC))
  exact ⟨rfl, rfl, rfl, trivial⟩
theorem cg_620_70 (hd : 4 ≤ d) (hS : mz_extR S 342) (hR : mz_rok R 342)  (v1 : Int32) (N : mz_N) {C0 : (Bool × mz_N) → Prop} (hr : ∀ (w : Bool) (N2 : mz_N), C0 (w, N2) → Q (.inl (some (.int (mz_b01 w)))) (mz_k S R N2 b t)) {C1 : ((Int32 × mz_N) ⊕ (Bool × mz_N)) → Prop} (hc1 : ∀ s2, C1 (.inl s2) → mz_G (d, mz_X0 L xs, some .boolean, [], mk_620, 3, Q) 8 mt_620_8 [(0, .ref 232), (1, .int s2.1)] [] false (mz_k S R s2.2 b t)) (hx1 : ∀ z, C1 (.inr z) → C0 z) (hp : cp_620_70 v1 N) (hC : C1 (cf_620_70 v1 N)) : mz_G (d, mz_X0 L xs, some .boolean, [], mk_620, 3, Q) 70 mt_620_70 [(0, .ref 232), (1, .int v1)] [] false (mz_k S R N b t) := by
  unfold cf_620_70 at hC
  unfold cp_620_70 at hp
  refine g_iinc rfl mzi_1 (Nat.le_of_ble_eq_true rfl) rfl (g_goto (tg := 8) rfl ms_620_8 ?_)
  refine g_weak ?_ (g_cl (hc1 ((v1 + 1), N) hC))
  exact ⟨rfl, rfl, trivial⟩
theorem cb_620_15 (hd : 4 ≤ d) (hS : mz_extR S 342) (hR : mz_rok R 342)  (v1 : Int32) (s : Int32 × mz_N) {C0 : (Bool × mz_N) → Prop} (hr : ∀ (w : Bool) (N2 : mz_N), C0 (w, N2) → Q (.inl (some (.int (mz_b01 w)))) (mz_k S R N2 b t)) {C1 : ((Int32 × mz_N) ⊕ (Bool × mz_N)) → Prop} (hc1 : ∀ s2, C1 (.inl s2) → mz_G (d, mz_X0 L xs, some .boolean, [], mk_620, 3, Q) 8 mt_620_8 [(0, .ref 232), (1, .int s2.1)] [] false (mz_k S R s2.2 b t)) (hx1 : ∀ z, C1 (.inr z) → C0 z) {C2 : ((Int32 × mz_N) ⊕ ((Int32 × mz_N) ⊕ (Bool × mz_N))) → Prop} (hc2 : ∀ s2, C2 (.inl s2) → mz_G (d, mz_X0 L xs, some .boolean, [], mk_620, 3, Q) 15 mt_620_15 [(0, .ref 232), (1, .int v1), (2, .int s2.1)] [] false (mz_k S R s2.2 b t)) (hx2 : ∀ z, C2 (.inr z) → C1 z) (hp : cd_620_15 v1 s) (hC : C2 (cq_620_15 v1 s)) : mz_G (d, mz_X0 L xs, some .boolean, [], mk_620, 3, Q) 15 mt_620_15 [(0, .ref 232), (1, .int v1), (2, .int s.1)] [] false (mz_k S R s.2 b t) := by
  unfold cq_620_15 at hC
  unfold cd_620_15 at hp
  refine g_iload_n rfl (g_bipush mzb_110 ?_)
  refine g_icge (tg := 70) rfl ms_620_70 hC (fun h1 hC => ?_) (fun h1 hC => ?_)
  · have hp := hp.1 h1
    refine g_aload_n rfl (g_getR (mz_at hS (Nat.le_of_ble_eq_true rfl) mzcS_232) mzcf_12_144 (mz_rb hR (Nat.le_of_ble_eq_true rfl) rfl mzcR_232_144) (g_iload_n rfl ?_))
    obtain ⟨h2, hp⟩ := hp
    obtain ⟨h3, hp⟩ := hp
    refine g_zald (mz_at hS (Nat.le_of_ble_eq_true rfl) mzcS_336) h2 h3 ?_
    refine g_zeq (tg := 70) rfl ms_620_70 hC (fun h4 hC => ?_) (fun h4 hC => ?_)
    · have hp := hp.1 h4
      refine g_aload_n rfl (g_getR (mz_at hS (Nat.le_of_ble_eq_true rfl) mzcS_232) mzcf_12_3 (mz_rb hR (Nat.le_of_ble_eq_true rfl) rfl mzcR_232_3) (g_sipush mzs_3850 (g_bipush mzb_110 (g_iload_n rfl (g_imul (g_iadd (g_iload_n rfl ?_)))))))
      refine g_iadd (g_aload_n rfl (g_bipush mzb_28 (g_iload_n rfl (g_imul (g_iload_n rfl (g_iconst mzi_4 (g_idiv (by decide) ?_)))))))
      obtain ⟨h5, hp⟩ := hp
      refine g_v3v (Nat.le_of_ble_eq_true rfl) (mz_at hS (Nat.le_of_ble_eq_true rfl) mzcS_232) (fun _ hq => cs_612 (Nat.le_trans (Nat.le_of_ble_eq_true rfl) hd) (hS.le (Nat.le_of_ble_eq_true rfl)) (hR.le (Nat.le_of_ble_eq_true rfl))  (28 * v1) (s.1 / 4) s.2 h5 hq) (g_iconst mzi_2 (g_iload_n rfl (g_iconst mzi_4 (g_irem (by decide) (g_imul (g_ishr (g_iconst mzi_3 ?_)))))))
      refine g_iand ?_
      obtain ⟨h6, hp⟩ := hp
      refine g_iast (mz_at hS (Nat.le_of_ble_eq_true rfl) mzcS_233) h6 ?_
      refine g_weak ?_ (g_cl (cg_620_64 hd hS hR v1 s.1 (mz_wI s.2 233 ((3850 + (110 * v1)) + s.1) ((mz_ishr (cf_612_0 (28 * v1) (s.1 / 4) s.2) (2 * (mz_irem s.1 4))) &&& 3)) hr hc1 hx1 hc2 hx2 hp hC))
      exact ⟨rfl, rfl, rfl, trivial⟩
    · have hp := hp.2 h4
      refine g_weak ?_ (g_cl (cg_620_70 hd hS hR v1 s.2 hr hc1 hx1 hp (hx2 _ hC)))
      exact ⟨rfl, rfl, trivial⟩
  · have hp := hp.2 h1
    refine g_weak ?_ (g_cl (cg_620_70 hd hS hR v1 s.2 hr hc1 hx1 hp (hx2 _ hC)))
    exact ⟨rfl, rfl, trivial⟩
theorem cg_620_15 (hd : 4 ≤ d) (hS : mz_extR S 342) (hR : mz_rok R 342)  (v1 : Int32) (v2 : Int32) (N : mz_N) {C0 : (Bool × mz_N) → Prop} (hr : ∀ (w : Bool) (N2 : mz_N), C0 (w, N2) → Q (.inl (some (.int (mz_b01 w)))) (mz_k S R N2 b t)) {C1 : ((Int32 × mz_N) ⊕ (Bool × mz_N)) → Prop} (hc1 : ∀ s2, C1 (.inl s2) → mz_G (d, mz_X0 L xs, some .boolean, [], mk_620, 3, Q) 8 mt_620_8 [(0, .ref 232), (1, .int s2.1)] [] false (mz_k S R s2.2 b t)) (hx1 : ∀ z, C1 (.inr z) → C0 z) (hp : cp_620_15 v1 v2 N) (hC : C1 (cf_620_15 v1 v2 N)) : mz_G (d, mz_X0 L xs, some .boolean, [], mk_620, 3, Q) 15 mt_620_15 [(0, .ref 232), (1, .int v1), (2, .int v2)] [] false (mz_k S R N b t) := by
  obtain ⟨n, hn⟩ := hp
  exact g_loop (G := fun s => mz_G (d, mz_X0 L xs, some .boolean, [], mk_620, 3, Q) 15 mt_620_15 [(0, .ref 232), (1, .int v1), (2, .int s.1)] [] false (mz_k S R s.2 b t)) (C := C1) (fun C2 hc hx s hP hC => cb_620_15 hd hS hR v1 s hr hc1 hx1 hc hx hP hC) n (v2, N) hn hC
theorem cb_620_8 (hd : 4 ≤ d) (hS : mz_extR S 342) (hR : mz_rok R 342)   (s : Int32 × mz_N) {C0 : (Bool × mz_N) → Prop} (hr : ∀ (w : Bool) (N2 : mz_N), C0 (w, N2) → Q (.inl (some (.int (mz_b01 w)))) (mz_k S R N2 b t)) {C1 : ((Int32 × mz_N) ⊕ (Bool × mz_N)) → Prop} (hc1 : ∀ s2, C1 (.inl s2) → mz_G (d, mz_X0 L xs, some .boolean, [], mk_620, 3, Q) 8 mt_620_8 [(0, .ref 232), (1, .int s2.1)] [] false (mz_k S R s2.2 b t)) (hx1 : ∀ z, C1 (.inr z) → C0 z) (hp : cd_620_8  s) (hC : C1 (cq_620_8  s)) : mz_G (d, mz_X0 L xs, some .boolean, [], mk_620, 3, Q) 8 mt_620_8 [(0, .ref 232), (1, .int s.1)] [] false (mz_k S R s.2 b t) := by
  unfold cq_620_8 at hC
  unfold cd_620_8 at hp
  refine g_iload_n rfl (g_iconst mzi_5 ?_)
  refine g_icge (tg := 76) rfl ms_620_76 hC (fun h1 hC => ?_) (fun h1 hC => ?_)
  · have hp := hp.1 h1
    refine g_iconst mzi_0 (g_istore_n (Nat.le_of_ble_eq_true rfl) rfl ?_)
    refine g_weak ?_ (g_cl (cg_620_15 hd hS hR s.1 0 s.2 hr hc1 hx1 hp hC))
    exact ⟨rfl, rfl, rfl, trivial⟩
  · have hp := hp.2 h1
    refine g_aload_n rfl (g_bipush mzb_7 ?_)
    obtain ⟨h2, hp⟩ := hp
    refine g_v2n (Nat.le_of_ble_eq_true rfl) (mz_at hS (Nat.le_of_ble_eq_true rfl) mzcS_232) (fun _ hq => cs_428 (Nat.le_trans (Nat.le_of_ble_eq_true rfl) hd) (hS.le (Nat.le_of_ble_eq_true rfl)) (hR.le (Nat.le_of_ble_eq_true rfl))  7 s.2 h2 hq) (g_aload_n rfl (g_getI (mz_at hS (Nat.le_of_ble_eq_true rfl) mzcS_232) mzcf_12_7 (g_bipush mzb_40 ?_)))
    refine g_icgt (tg := 95) rfl ms_620_95 hC (fun h3 hC => ?_) (fun h3 hC => ?_)
    · have hp := hp.1 h3
      refine g_iconst mzi_0 ?_
      refine g_weak ?_ (g_cl (cg_620_96 hd hS hR false (cf_428_0 7 s.2) hr hp (hx1 _ hC)))
      exact ⟨rfl, trivial⟩
    · have hp := hp.2 h3
      refine g_iconst mzi_1 (g_goto (tg := 96) rfl ms_620_96 ?_)
      refine g_weak ?_ (g_cl (cg_620_96 hd hS hR true (cf_428_0 7 s.2) hr hp (hx1 _ hC)))
      exact ⟨rfl, trivial⟩
theorem cg_620_8 (hd : 4 ≤ d) (hS : mz_extR S 342) (hR : mz_rok R 342)  (v1 : Int32) (N : mz_N) {C0 : (Bool × mz_N) → Prop} (hr : ∀ (w : Bool) (N2 : mz_N), C0 (w, N2) → Q (.inl (some (.int (mz_b01 w)))) (mz_k S R N2 b t)) (hp : cp_620_8 v1 N) (hC : C0 (cf_620_8 v1 N)) : mz_G (d, mz_X0 L xs, some .boolean, [], mk_620, 3, Q) 8 mt_620_8 [(0, .ref 232), (1, .int v1)] [] false (mz_k S R N b t) := by
  obtain ⟨n, hn⟩ := hp
  exact g_loop (G := fun s => mz_G (d, mz_X0 L xs, some .boolean, [], mk_620, 3, Q) 8 mt_620_8 [(0, .ref 232), (1, .int s.1)] [] false (mz_k S R s.2 b t)) (C := C0) (fun C2 hc hx s hP hC => cb_620_8 hd hS hR  s hr hc hx hP hC) n (v1, N) hn hC
theorem cg_620_0 (hd : 4 ≤ d) (hS : mz_extR S 342) (hR : mz_rok R 342)  (N : mz_N) {C0 : (Bool × mz_N) → Prop} (hr : ∀ (w : Bool) (N2 : mz_N), C0 (w, N2) → Q (.inl (some (.int (mz_b01 w)))) (mz_k S R N2 b t)) (hp : cp_620_0 N) (hC : C0 (cf_620_0 N)) : mz_G (d, mz_X0 L xs, some .boolean, [], mk_620, 3, Q) 0 mk_620 [(0, .ref 232)] [] true (mz_k S R N b t) := by
  unfold cf_620_0 at hC
  unfold cp_620_0 at hp
  refine g_aload_n rfl (g_bipush mzb_7 ?_)
  obtain ⟨h1, hp⟩ := hp
  refine g_v2n (Nat.le_of_ble_eq_true rfl) (mz_at hS (Nat.le_of_ble_eq_true rfl) mzcS_232) (fun _ hq => cs_416 (Nat.le_trans (Nat.le_of_ble_eq_true rfl) hd) (hS.le (Nat.le_of_ble_eq_true rfl)) (hR.le (Nat.le_of_ble_eq_true rfl))  7 N h1 hq) (g_iconst mzi_0 (g_istore_n (Nat.le_of_ble_eq_true rfl) rfl ?_))
  refine g_weak ?_ (g_cl (cg_620_8 hd hS hR 0 (cf_416_0 7 N) hr hp hC))
  exact ⟨rfl, rfl, trivial⟩
theorem cs_620 (hd : 5 ≤ d) (hS : mz_extR S 342) (hR : mz_rok R 342)  (N : mz_N) (hp : cp_620_0 N) (hq : Q (.inl (some (.int (mz_b01 ((cf_620_0 N).1))))) (mz_k S R ((cf_620_0 N).2) b t)) : mz_Ed (mz_X0 L xs) d 620 [.ref 232] (mz_k S R N b t) Q :=
  by
  refine g_in mzq_620 (Nat.le_of_ble_eq_true rfl) (Nat.le_of_ble_eq_true rfl) (Nat.le_trans (Nat.le_of_ble_eq_true rfl) hd) ?_
  refine g_weak ?_ (cg_620_0 (d := d - 1) (by omega) hS hR N (C0 := fun z => Q (.inl (some (.int (mz_b01 z.1)))) (mz_k S R z.2 b t)) (fun _ _ h => h) hp hq)
  exact ⟨rfl, trivial⟩
/-! 621 KeptHouseModel.isProgram ()Z -/
theorem ms_621_0 : mz_sf mk_621 0 = mk_621 := mz_sf_zero _
theorem ms_621_30 : mz_sf mk_621 30 = mt_621_30 := mz_sf_add ms_621_0 (t := 30) rfl rfl
theorem ms_621_31 : mz_sf mk_621 31 = mt_621_31 := mz_sf_add ms_621_30 (t := 1) rfl rfl
theorem ms_621_37 : mz_sf mk_621 37 = mt_621_37 := mz_sf_add ms_621_31 (t := 6) rfl rfl
theorem ms_621_68 : mz_sf mk_621 68 = mt_621_68 := mz_sf_add ms_621_37 (t := 31) rfl rfl
theorem ms_621_85 : mz_sf mk_621 85 = mt_621_85 := mz_sf_add ms_621_68 (t := 17) rfl rfl
theorem ms_621_86 : mz_sf mk_621 86 = mt_621_86 := mz_sf_add ms_621_85 (t := 1) rfl rfl
theorem ms_621_112 : mz_sf mk_621 112 = mt_621_112 := mz_sf_add ms_621_86 (t := 26) rfl rfl
theorem ms_621_115 : mz_sf mk_621 115 = mt_621_115 := mz_sf_add ms_621_112 (t := 3) rfl rfl
theorem ms_621_120 : mz_sf mk_621 120 = mt_621_120 := mz_sf_add ms_621_115 (t := 5) rfl rfl
theorem ms_621_124 : mz_sf mk_621 124 = mt_621_124 := mz_sf_add ms_621_120 (t := 4) rfl rfl
theorem ms_621_125 : mz_sf mk_621 125 = mt_621_125 := mz_sf_add ms_621_124 (t := 1) rfl rfl
theorem ms_621_141 : mz_sf mk_621 141 = mt_621_141 := mz_sf_add ms_621_125 (t := 16) rfl rfl
theorem ms_621_147 : mz_sf mk_621 147 = mt_621_147 := mz_sf_add ms_621_141 (t := 6) rfl rfl
theorem ms_621_169 : mz_sf mk_621 169 = mt_621_169 := mz_sf_add ms_621_147 (t := 22) rfl rfl
theorem ms_621_170 : mz_sf mk_621 170 = mt_621_170 := mz_sf_add ms_621_169 (t := 1) rfl rfl
set_option maxRecDepth 100000 in
theorem mzq_621 : mz_PG0 621 = some (12, ⟨"KeptHouseModel", "isProgram", "()Z"⟩, prog_14_method_212_code, 7, some .boolean, [], mk_621, []) := rfl
theorem cg_621_170 (hd : 9 ≤ d) (hS : mz_extR S 342) (hR : mz_rok R 342)  (s0 : Bool) (v4 : Int32) (N : mz_N) {C0 : (Bool × mz_N) → Prop} (hr : ∀ (w : Bool) (N2 : mz_N), C0 (w, N2) → Q (.inl (some (.int (mz_b01 w)))) (mz_k S R N2 b t)) (hp : cp_621_170 s0 v4 N) (hC : C0 (cf_621_170 s0 v4 N)) : mz_G (d, mz_X0 L xs, some .boolean, [], mk_621, 7, Q) 170 mt_621_170 [(0, .ref 232), (4, .int v4)] [.int (mz_b01 s0)] false (mz_k S R N b t) := by
  unfold cf_621_170 at hC
  unfold cp_621_170 at hp
  refine g_istore_n (Nat.le_of_ble_eq_true rfl) rfl (g_aload_n rfl ?_)
  have h1 := hp
  refine g_v1n (Nat.le_of_ble_eq_true rfl) (mz_at hS (Nat.le_of_ble_eq_true rfl) mzcS_232) (fun _ hq => cs_438 (Nat.le_trans (Nat.le_of_ble_eq_true rfl) hd) (hS.le (Nat.le_of_ble_eq_true rfl)) (hR.le (Nat.le_of_ble_eq_true rfl))  N h1 hq) (g_aload_n rfl (g_iload rfl (g_putI (mz_at hS (Nat.le_of_ble_eq_true rfl) mzcS_232) mzcf_12_35 (g_iload_n rfl ?_))))
  exact g_zret (z := s0) rfl (hr _ _ hC)
theorem cg_621_125 (hd : 9 ≤ d) (hS : mz_extR S 342) (hR : mz_rok R 342)  (s0 : Bool) (v2 : Int32) (v4 : Int32) (v6 : Int32) (N : mz_N) {C0 : (Bool × mz_N) → Prop} (hr : ∀ (w : Bool) (N2 : mz_N), C0 (w, N2) → Q (.inl (some (.int (mz_b01 w)))) (mz_k S R N2 b t)) {C1 : ((Bool × Int32 × mz_N) ⊕ (Bool × mz_N)) → Prop} (hc1 : ∀ s2, C1 (.inl s2) → mz_G (d, mz_X0 L xs, some .boolean, [], mk_621, 7, Q) 37 mt_621_37 [(0, .ref 232), (2, .int v2), (3, .int (mz_b01 s2.1)), (4, .int s2.2.1)] [] false (mz_k S R s2.2.2 b t)) (hx1 : ∀ z, C1 (.inr z) → C0 z) (hp : cp_621_125 s0 v2 v4 v6 N) (hC : C1 (cf_621_125 s0 v2 v4 v6 N)) : mz_G (d, mz_X0 L xs, some .boolean, [], mk_621, 7, Q) 125 mt_621_125 [(0, .ref 232), (2, .int v2), (4, .int v4), (6, .int v6)] [.int (mz_b01 s0)] false (mz_k S R N b t) := by
  unfold cf_621_125 at hC
  unfold cp_621_125 at hp
  refine g_istore_n (Nat.le_of_ble_eq_true rfl) rfl (g_aload_n rfl (g_getR (mz_at hS (Nat.le_of_ble_eq_true rfl) mzcS_232) mzcf_12_146 (mz_rb hR (Nat.le_of_ble_eq_true rfl) rfl mzcR_232_146) (g_iload rfl (g_iload rfl ?_))))
  have h1 := hp
  refine g_iast (mz_at hS (Nat.le_of_ble_eq_true rfl) mzcS_338) h1 (g_iinc rfl mzi_1 (Nat.le_of_ble_eq_true rfl) rfl (g_goto (tg := 37) rfl ms_621_37 ?_))
  refine g_weak ?_ (g_cl (hc1 (s0, (v4 + 1), mz_wI N 338 v4 v6) hC))
  exact ⟨rfl, rfl, rfl, rfl, trivial⟩
theorem cg_621_120 (hd : 9 ≤ d) (hS : mz_extR S 342) (hR : mz_rok R 342)  (v2 : Int32) (v4 : Int32) (v6 : Int32) (N : mz_N) {C0 : (Bool × mz_N) → Prop} (hr : ∀ (w : Bool) (N2 : mz_N), C0 (w, N2) → Q (.inl (some (.int (mz_b01 w)))) (mz_k S R N2 b t)) {C1 : ((Bool × Int32 × mz_N) ⊕ (Bool × mz_N)) → Prop} (hc1 : ∀ s2, C1 (.inl s2) → mz_G (d, mz_X0 L xs, some .boolean, [], mk_621, 7, Q) 37 mt_621_37 [(0, .ref 232), (2, .int v2), (3, .int (mz_b01 s2.1)), (4, .int s2.2.1)] [] false (mz_k S R s2.2.2 b t)) (hx1 : ∀ z, C1 (.inr z) → C0 z) (hp : cp_621_120 v2 v4 v6 N) (hC : C1 (cf_621_120 v2 v4 v6 N)) : mz_G (d, mz_X0 L xs, some .boolean, [], mk_621, 7, Q) 120 mt_621_120 [(0, .ref 232), (2, .int v2), (4, .int v4), (6, .int v6)] [] false (mz_k S R N b t) := by
  unfold cf_621_120 at hC
  unfold cp_621_120 at hp
  refine g_iconst mzi_1 (g_goto (tg := 125) rfl ms_621_125 ?_)
  refine g_weak ?_ (g_cl (cg_621_125 hd hS hR true v2 v4 v6 N hr hc1 hx1 hp hC))
  exact ⟨rfl, rfl, rfl, rfl, trivial⟩
theorem cg_621_124 (hd : 9 ≤ d) (hS : mz_extR S 342) (hR : mz_rok R 342)  (v2 : Int32) (v4 : Int32) (v6 : Int32) (N : mz_N) {C0 : (Bool × mz_N) → Prop} (hr : ∀ (w : Bool) (N2 : mz_N), C0 (w, N2) → Q (.inl (some (.int (mz_b01 w)))) (mz_k S R N2 b t)) {C1 : ((Bool × Int32 × mz_N) ⊕ (Bool × mz_N)) → Prop} (hc1 : ∀ s2, C1 (.inl s2) → mz_G (d, mz_X0 L xs, some .boolean, [], mk_621, 7, Q) 37 mt_621_37 [(0, .ref 232), (2, .int v2), (3, .int (mz_b01 s2.1)), (4, .int s2.2.1)] [] false (mz_k S R s2.2.2 b t)) (hx1 : ∀ z, C1 (.inr z) → C0 z) (hp : cp_621_124 v2 v4 v6 N) (hC : C1 (cf_621_124 v2 v4 v6 N)) : mz_G (d, mz_X0 L xs, some .boolean, [], mk_621, 7, Q) 124 mt_621_124 [(0, .ref 232), (2, .int v2), (4, .int v4), (6, .int v6)] [] false (mz_k S R N b t) := by
  unfold cf_621_124 at hC
  unfold cp_621_124 at hp
  refine g_iconst mzi_0 ?_
  refine g_weak ?_ (g_cl (cg_621_125 hd hS hR false v2 v4 v6 N hr hc1 hx1 hp hC))
  exact ⟨rfl, rfl, rfl, rfl, trivial⟩
theorem cg_621_86 (hd : 9 ≤ d) (hS : mz_extR S 342) (hR : mz_rok R 342)  (s0 : Int32) (v2 : Int32) (v3 : Bool) (v4 : Int32) (N : mz_N) {C0 : (Bool × mz_N) → Prop} (hr : ∀ (w : Bool) (N2 : mz_N), C0 (w, N2) → Q (.inl (some (.int (mz_b01 w)))) (mz_k S R N2 b t)) {C1 : ((Bool × Int32 × mz_N) ⊕ (Bool × mz_N)) → Prop} (hc1 : ∀ s2, C1 (.inl s2) → mz_G (d, mz_X0 L xs, some .boolean, [], mk_621, 7, Q) 37 mt_621_37 [(0, .ref 232), (2, .int v2), (3, .int (mz_b01 s2.1)), (4, .int s2.2.1)] [] false (mz_k S R s2.2.2 b t)) (hx1 : ∀ z, C1 (.inr z) → C0 z) (hp : cp_621_86 s0 v2 v3 v4 N) (hC : C1 (cf_621_86 s0 v2 v3 v4 N)) : mz_G (d, mz_X0 L xs, some .boolean, [], mk_621, 7, Q) 86 mt_621_86 [(0, .ref 232), (2, .int v2), (3, .int (mz_b01 v3)), (4, .int v4)] [.int s0] false (mz_k S R N b t) := by
  unfold cf_621_86 at hC
  unfold cp_621_86 at hp
  refine g_istore (Nat.le_of_ble_eq_true rfl) rfl (g_iload_n rfl ?_)
  refine g_zeq (tg := 124) rfl ms_621_124 hC (fun h1 hC => ?_) (fun h1 hC => ?_)
  · have hp := hp.1 h1
    refine g_iload rfl (g_iload_n rfl ?_)
    refine g_icge (tg := 115) rfl ms_621_115 hC (fun h2 hC => ?_) (fun h2 hC => ?_)
    · have hp := hp.1 h2
      refine g_iload rfl (g_bipush mzb_31 ?_)
      refine g_icle (tg := 124) rfl ms_621_124 hC (fun h3 hC => ?_) (fun h3 hC => ?_)
      · have hp := hp.1 h3
        refine g_iload rfl (g_bipush mzb_127 ?_)
        refine g_icge (tg := 124) rfl ms_621_124 hC (fun h4 hC => ?_) (fun h4 hC => ?_)
        · have hp := hp.1 h4
          refine g_goto (tg := 120) rfl ms_621_120 ?_
          refine g_weak ?_ (g_cl (cg_621_120 hd hS hR v2 v4 s0 N hr hc1 hx1 hp hC))
          exact ⟨rfl, rfl, rfl, rfl, trivial⟩
        · have hp := hp.2 h4
          refine g_weak ?_ (g_cl (cg_621_124 hd hS hR v2 v4 s0 N hr hc1 hx1 hp hC))
          exact ⟨rfl, rfl, rfl, rfl, trivial⟩
      · have hp := hp.2 h3
        refine g_weak ?_ (g_cl (cg_621_124 hd hS hR v2 v4 s0 N hr hc1 hx1 hp hC))
        exact ⟨rfl, rfl, rfl, rfl, trivial⟩
    · have hp := hp.2 h2
      refine g_iload rfl ?_
      refine g_ifne (tg := 124) rfl ms_621_124 hC (fun h5 hC => ?_) (fun h5 hC => ?_)
      · have hp := hp.1 h5
        refine g_weak ?_ (g_cl (cg_621_120 hd hS hR v2 v4 s0 N hr hc1 hx1 hp hC))
        exact ⟨rfl, rfl, rfl, rfl, trivial⟩
      · have hp := hp.2 h5
        refine g_weak ?_ (g_cl (cg_621_124 hd hS hR v2 v4 s0 N hr hc1 hx1 hp hC))
        exact ⟨rfl, rfl, rfl, rfl, trivial⟩
  · have hp := hp.2 h1
    refine g_weak ?_ (g_cl (cg_621_124 hd hS hR v2 v4 s0 N hr hc1 hx1 hp hC))
    exact ⟨rfl, rfl, rfl, rfl, trivial⟩
theorem cb_621_37 (hd : 9 ≤ d) (hS : mz_extR S 342) (hR : mz_rok R 342)  (v2 : Int32) (s : Bool × Int32 × mz_N) {C0 : (Bool × mz_N) → Prop} (hr : ∀ (w : Bool) (N2 : mz_N), C0 (w, N2) → Q (.inl (some (.int (mz_b01 w)))) (mz_k S R N2 b t)) {C1 : ((Bool × Int32 × mz_N) ⊕ (Bool × mz_N)) → Prop} (hc1 : ∀ s2, C1 (.inl s2) → mz_G (d, mz_X0 L xs, some .boolean, [], mk_621, 7, Q) 37 mt_621_37 [(0, .ref 232), (2, .int v2), (3, .int (mz_b01 s2.1)), (4, .int s2.2.1)] [] false (mz_k S R s2.2.2 b t)) (hx1 : ∀ z, C1 (.inr z) → C0 z) (hp : cd_621_37 v2 s) (hC : C1 (cq_621_37 v2 s)) : mz_G (d, mz_X0 L xs, some .boolean, [], mk_621, 7, Q) 37 mt_621_37 [(0, .ref 232), (2, .int v2), (3, .int (mz_b01 s.1)), (4, .int s.2.1)] [] false (mz_k S R s.2.2 b t) := by
  unfold cq_621_37 at hC
  unfold cd_621_37 at hp
  refine g_iload rfl (g_sipush mzs_196 ?_)
  refine g_icge (tg := 141) rfl ms_621_141 hC (fun h1 hC => ?_) (fun h1 hC => ?_)
  · have hp := hp.1 h1
    refine g_bipush mzb_6 ?_
    refine g_s1v (Nat.le_of_ble_eq_true rfl) (fun _ hq => cs_420 (Nat.le_trans (Nat.le_of_ble_eq_true rfl) hd) (hS.le (Nat.le_of_ble_eq_true rfl)) (hR.le (Nat.le_of_ble_eq_true rfl))  6 trivial hq) (g_iload rfl (g_bipush mzb_28 (g_idiv (by decide) (g_iadd (g_istore (Nat.le_of_ble_eq_true rfl) rfl (g_aload_n rfl (g_getR (mz_at hS (Nat.le_of_ble_eq_true rfl) mzcS_232) mzcf_12_144 (mz_rb hR (Nat.le_of_ble_eq_true rfl) rfl mzcR_232_144) ?_)))))))
    refine g_iload rfl ?_
    obtain ⟨h3, hp⟩ := hp
    obtain ⟨h4, hp⟩ := hp
    refine g_zald (mz_at hS (Nat.le_of_ble_eq_true rfl) mzcS_336) h3 h4 ?_
    refine g_zeq (tg := 85) rfl ms_621_85 hC (fun h5 hC => ?_) (fun h5 hC => ?_)
    · have hp := hp.1 h5
      refine g_aload_n rfl (g_bipush mzb_28 (g_iload rfl (g_imul (g_iload rfl (g_bipush mzb_28 (g_irem (by decide) ?_))))))
      obtain ⟨h6, hp⟩ := hp
      refine g_v3v (Nat.le_of_ble_eq_true rfl) (mz_at hS (Nat.le_of_ble_eq_true rfl) mzcS_232) (fun _ hq => cs_612 (Nat.le_trans (Nat.le_of_ble_eq_true rfl) hd) (hS.le (Nat.le_of_ble_eq_true rfl)) (hR.le (Nat.le_of_ble_eq_true rfl))  (28 * ((cf_420_0 6) + (s.2.1 / 28))) (mz_irem s.2.1 28) s.2.2 h6 hq) (g_goto (tg := 86) rfl ms_621_86 ?_)
      refine g_weak ?_ (g_cl (cg_621_86 hd hS hR (cf_612_0 (28 * ((cf_420_0 6) + (s.2.1 / 28))) (mz_irem s.2.1 28) s.2.2) v2 s.1 s.2.1 s.2.2 hr hc1 hx1 hp hC))
      exact ⟨rfl, rfl, rfl, rfl, trivial⟩
    · have hp := hp.2 h5
      refine g_iconst mzi_0 ?_
      refine g_weak ?_ (g_cl (cg_621_86 hd hS hR 0 v2 s.1 s.2.1 s.2.2 hr hc1 hx1 hp hC))
      exact ⟨rfl, rfl, rfl, rfl, trivial⟩
  · have hp := hp.2 h1
    refine g_iload_n rfl ?_
    refine g_zne (tg := 147) rfl ms_621_147 hC (fun h7 hC => ?_) (fun h7 hC => ?_)
    · have hp := hp.1 h7
      refine g_aload_n rfl (g_getI (mz_at hS (Nat.le_of_ble_eq_true rfl) mzcS_232) mzcf_12_35 (g_istore (Nat.le_of_ble_eq_true rfl) rfl (g_aload_n rfl (g_iload_n rfl (g_putI (mz_at hS (Nat.le_of_ble_eq_true rfl) mzcS_232) mzcf_12_147 (g_aload_n rfl ?_))))))
      obtain ⟨h8, hp⟩ := hp
      refine g_v1v (Nat.le_of_ble_eq_true rfl) (mz_at hS (Nat.le_of_ble_eq_true rfl) mzcS_232) (fun _ hq => cs_439 (Nat.le_trans (Nat.le_of_ble_eq_true rfl) hd) (hS.le (Nat.le_of_ble_eq_true rfl)) (hR.le (Nat.le_of_ble_eq_true rfl))  (mz_pI s.2.2 232 147 v2) h8 hq) ?_
      refine g_ifne (tg := 169) rfl ms_621_169 hC (fun h9 hC => ?_) (fun h9 hC => ?_)
      · have hp := hp.1 h9
        refine g_iconst mzi_1 (g_goto (tg := 170) rfl ms_621_170 ?_)
        refine g_weak ?_ (g_cl (cg_621_170 hd hS hR true (s.2.2.1 232 35) ((cf_439_0 (mz_pI s.2.2 232 147 v2)).2) hr hp (hx1 _ hC)))
        exact ⟨rfl, rfl, trivial⟩
      · have hp := hp.2 h9
        refine g_iconst mzi_0 ?_
        refine g_weak ?_ (g_cl (cg_621_170 hd hS hR false (s.2.2.1 232 35) ((cf_439_0 (mz_pI s.2.2 232 147 v2)).2) hr hp (hx1 _ hC)))
        exact ⟨rfl, rfl, trivial⟩
    · have hp := hp.2 h7
      refine g_iconst mzi_0 ?_
      exact g_zret (z := false) rfl (hr _ _ (hx1 _ hC))
theorem cg_621_37 (hd : 9 ≤ d) (hS : mz_extR S 342) (hR : mz_rok R 342)  (v2 : Int32) (v3 : Bool) (v4 : Int32) (N : mz_N) {C0 : (Bool × mz_N) → Prop} (hr : ∀ (w : Bool) (N2 : mz_N), C0 (w, N2) → Q (.inl (some (.int (mz_b01 w)))) (mz_k S R N2 b t)) (hp : cp_621_37 v2 v3 v4 N) (hC : C0 (cf_621_37 v2 v3 v4 N)) : mz_G (d, mz_X0 L xs, some .boolean, [], mk_621, 7, Q) 37 mt_621_37 [(0, .ref 232), (2, .int v2), (3, .int (mz_b01 v3)), (4, .int v4)] [] false (mz_k S R N b t) := by
  obtain ⟨n, hn⟩ := hp
  exact g_loop (G := fun s => mz_G (d, mz_X0 L xs, some .boolean, [], mk_621, 7, Q) 37 mt_621_37 [(0, .ref 232), (2, .int v2), (3, .int (mz_b01 s.1)), (4, .int s.2.1)] [] false (mz_k S R s.2.2 b t)) (C := C0) (fun C2 hc hx s hP hC => cb_621_37 hd hS hR v2 s hr hc hx hP hC) n (v3, v4, N) hn hC
theorem cg_621_31 (hd : 9 ≤ d) (hS : mz_extR S 342) (hR : mz_rok R 342)  (s0 : Int32) (N : mz_N) {C0 : (Bool × mz_N) → Prop} (hr : ∀ (w : Bool) (N2 : mz_N), C0 (w, N2) → Q (.inl (some (.int (mz_b01 w)))) (mz_k S R N2 b t)) (hp : cp_621_31 s0 N) (hC : C0 (cf_621_31 s0 N)) : mz_G (d, mz_X0 L xs, some .boolean, [], mk_621, 7, Q) 31 mt_621_31 [(0, .ref 232)] [.int s0] false (mz_k S R N b t) := by
  unfold cf_621_31 at hC
  unfold cp_621_31 at hp
  refine g_istore_n (Nat.le_of_ble_eq_true rfl) rfl (g_iconst mzi_1 (g_istore_n (Nat.le_of_ble_eq_true rfl) rfl (g_iconst mzi_0 (g_istore (Nat.le_of_ble_eq_true rfl) rfl ?_))))
  refine g_weak ?_ (g_cl (cg_621_37 hd hS hR s0 true 0 N hr hp hC))
  exact ⟨rfl, rfl, rfl, rfl, trivial⟩
theorem cg_621_0 (hd : 9 ≤ d) (hS : mz_extR S 342) (hR : mz_rok R 342)  (N : mz_N) {C0 : (Bool × mz_N) → Prop} (hr : ∀ (w : Bool) (N2 : mz_N), C0 (w, N2) → Q (.inl (some (.int (mz_b01 w)))) (mz_k S R N2 b t)) (hp : cp_621_0 N) (hC : C0 (cf_621_0 N)) : mz_G (d, mz_X0 L xs, some .boolean, [], mk_621, 7, Q) 0 mk_621 [(0, .ref 232)] [] true (mz_k S R N b t) := by
  unfold cf_621_0 at hC
  unfold cp_621_0 at hp
  refine g_bipush mzb_6 ?_
  refine g_s1v (Nat.le_of_ble_eq_true rfl) (fun _ hq => cs_420 (Nat.le_trans (Nat.le_of_ble_eq_true rfl) hd) (hS.le (Nat.le_of_ble_eq_true rfl)) (hR.le (Nat.le_of_ble_eq_true rfl))  6 trivial hq) (g_bipush mzb_7 (g_iadd (g_istore_n (Nat.le_of_ble_eq_true rfl) rfl (g_aload_n rfl (g_getR (mz_at hS (Nat.le_of_ble_eq_true rfl) mzcS_232) mzcf_12_144 (mz_rb hR (Nat.le_of_ble_eq_true rfl) rfl mzcR_232_144) (g_iload_n rfl ?_))))))
  obtain ⟨h2, hp⟩ := hp
  obtain ⟨h3, hp⟩ := hp
  refine g_zald (mz_at hS (Nat.le_of_ble_eq_true rfl) mzcS_336) h2 h3 ?_
  refine g_zeq (tg := 30) rfl ms_621_30 hC (fun h4 hC => ?_) (fun h4 hC => ?_)
  · have hp := hp.1 h4
    refine g_aload_n rfl (g_bipush mzb_28 (g_iload_n rfl (g_imul (g_iconst mzi_0 ?_))))
    obtain ⟨h5, hp⟩ := hp
    refine g_v3v (Nat.le_of_ble_eq_true rfl) (mz_at hS (Nat.le_of_ble_eq_true rfl) mzcS_232) (fun _ hq => cs_612 (Nat.le_trans (Nat.le_of_ble_eq_true rfl) hd) (hS.le (Nat.le_of_ble_eq_true rfl)) (hR.le (Nat.le_of_ble_eq_true rfl))  (28 * ((cf_420_0 6) + 7)) 0 N h5 hq) (g_goto (tg := 31) rfl ms_621_31 ?_)
    refine g_weak ?_ (g_cl (cg_621_31 hd hS hR (cf_612_0 (28 * ((cf_420_0 6) + 7)) 0 N) N hr hp hC))
    exact ⟨rfl, trivial⟩
  · have hp := hp.2 h4
    refine g_iconst mzi_0 ?_
    refine g_weak ?_ (g_cl (cg_621_31 hd hS hR 0 N hr hp hC))
    exact ⟨rfl, trivial⟩
theorem cs_621 (hd : 10 ≤ d) (hS : mz_extR S 342) (hR : mz_rok R 342)  (N : mz_N) (hp : cp_621_0 N) (hq : Q (.inl (some (.int (mz_b01 ((cf_621_0 N).1))))) (mz_k S R ((cf_621_0 N).2) b t)) : mz_Ed (mz_X0 L xs) d 621 [.ref 232] (mz_k S R N b t) Q :=
  by
  refine g_in mzq_621 (Nat.le_of_ble_eq_true rfl) (Nat.le_of_ble_eq_true rfl) (Nat.le_trans (Nat.le_of_ble_eq_true rfl) hd) ?_
  refine g_weak ?_ (cg_621_0 (d := d - 1) (by omega) hS hR N (C0 := fun z => Q (.inl (some (.int (mz_b01 z.1)))) (mz_k S R z.2 b t)) (fun _ _ h => h) hp hq)
  exact ⟨rfl, trivial⟩
/-! 608 KeptHouseModel.imageFault ()I -/
theorem ms_608_0 : mz_sf mk_608 0 = mk_608 := mz_sf_zero _
theorem ms_608_34 : mz_sf mk_608 34 = mt_608_34 := mz_sf_add ms_608_0 (t := 34) rfl rfl
theorem ms_608_36 : mz_sf mk_608 36 = mt_608_36 := mz_sf_add ms_608_34 (t := 2) rfl rfl
theorem ms_608_73 : mz_sf mk_608 73 = mt_608_73 := mz_sf_add ms_608_36 (t := 37) rfl rfl
theorem ms_608_75 : mz_sf mk_608 75 = mt_608_75 := mz_sf_add ms_608_73 (t := 2) rfl rfl
theorem ms_608_84 : mz_sf mk_608 84 = mt_608_84 := mz_sf_add ms_608_75 (t := 9) rfl rfl
theorem ms_608_88 : mz_sf mk_608 88 = mt_608_88 := mz_sf_add ms_608_84 (t := 4) rfl rfl
theorem ms_608_116 : mz_sf mk_608 116 = mt_608_116 := mz_sf_add ms_608_88 (t := 28) rfl rfl
theorem ms_608_120 : mz_sf mk_608 120 = mt_608_120 := mz_sf_add ms_608_116 (t := 4) rfl rfl
theorem ms_608_121 : mz_sf mk_608 121 = mt_608_121 := mz_sf_add ms_608_120 (t := 1) rfl rfl
theorem ms_608_128 : mz_sf mk_608 128 = mt_608_128 := mz_sf_add ms_608_121 (t := 7) rfl rfl
theorem ms_608_150 : mz_sf mk_608 150 = mt_608_150 := mz_sf_add ms_608_128 (t := 22) rfl rfl
theorem ms_608_151 : mz_sf mk_608 151 = mt_608_151 := mz_sf_add ms_608_150 (t := 1) rfl rfl
set_option maxRecDepth 100000 in
theorem mzq_608 : mz_PG0 608 = some (12, ⟨"KeptHouseModel", "imageFault", "()I"⟩, prog_14_method_213_code, 3, some .int, [], mk_608, []) := rfl
theorem cg_608_128 (hd : 10 ≤ d) (hS : mz_extR S 342) (hR : mz_rok R 342)  (v1 : Bool) (N : mz_N) {C0 : (Int32 × mz_N) → Prop} (hr : ∀ (w : Int32) (N2 : mz_N), C0 (w, N2) → Q (.inl (some (.int w))) (mz_k S R N2 b t)) (hp : cp_608_128 v1 N) (hC : C0 (cf_608_128 v1 N)) : mz_G (d, mz_X0 L xs, some .int, [], mk_608, 3, Q) 128 mt_608_128 [(0, .ref 232), (1, .int (mz_b01 v1))] [] false (mz_k S R N b t) := by
  unfold cf_608_128 at hC
  unfold cp_608_128 at hp
  refine g_iload_n rfl ?_
  refine g_zeq (tg := 150) rfl ms_608_150 hC (fun h1 hC => ?_) (fun h1 hC => ?_)
  · have hp := hp.1 h1
    refine g_aload_n rfl ?_
    obtain ⟨h2, hp⟩ := hp
    refine g_v1v (Nat.le_of_ble_eq_true rfl) (mz_at hS (Nat.le_of_ble_eq_true rfl) mzcS_232) (fun _ hq => cs_620 (Nat.le_trans (Nat.le_of_ble_eq_true rfl) hd) (hS.le (Nat.le_of_ble_eq_true rfl)) (hR.le (Nat.le_of_ble_eq_true rfl))  N h2 hq) ?_
    refine g_zeq (tg := 150) rfl ms_608_150 hC (fun h3 hC => ?_) (fun h3 hC => ?_)
    · have hp := hp.1 h3
      refine g_aload_n rfl ?_
      have h4 := hp
      refine g_v1v (Nat.le_of_ble_eq_true rfl) (mz_at hS (Nat.le_of_ble_eq_true rfl) mzcS_232) (fun _ hq => cs_621 (Nat.le_trans (Nat.le_of_ble_eq_true rfl) hd) (hS.le (Nat.le_of_ble_eq_true rfl)) (hR.le (Nat.le_of_ble_eq_true rfl))  ((cf_620_0 N).2) h4 hq) ?_
      refine g_zeq (tg := 150) rfl ms_608_150 hC (fun h5 hC => ?_) (fun h5 hC => ?_)
      · refine g_iconst mzi_0 (g_goto (tg := 151) rfl ms_608_151 ?_)
        exact g_iret rfl (hr _ _ hC)
      · refine g_iconst mzi_4 ?_
        exact g_iret rfl (hr _ _ hC)
    · have hp := hp.2 h3
      refine g_iconst mzi_4 ?_
      exact g_iret rfl (hr _ _ hC)
  · have hp := hp.2 h1
    refine g_iconst mzi_4 ?_
    exact g_iret rfl (hr _ _ hC)
theorem cg_608_121 (hd : 10 ≤ d) (hS : mz_extR S 342) (hR : mz_rok R 342)  (s0 : Bool) (v2 : Int32) (N : mz_N) {C0 : (Int32 × mz_N) → Prop} (hr : ∀ (w : Int32) (N2 : mz_N), C0 (w, N2) → Q (.inl (some (.int w))) (mz_k S R N2 b t)) {C1 : ((Bool × Int32) ⊕ (Int32 × mz_N)) → Prop} (hc1 : ∀ s2, C1 (.inl s2) → mz_G (d, mz_X0 L xs, some .int, [], mk_608, 3, Q) 88 mt_608_88 [(0, .ref 232), (1, .int (mz_b01 s2.1)), (2, .int s2.2)] [] false (mz_k S R N b t)) (hx1 : ∀ z, C1 (.inr z) → C0 z) (hp : cp_608_121 s0 v2 N) (hC : C1 (cf_608_121 s0 v2 N)) : mz_G (d, mz_X0 L xs, some .int, [], mk_608, 3, Q) 121 mt_608_121 [(0, .ref 232), (2, .int v2)] [.int (mz_b01 s0)] false (mz_k S R N b t) := by
  unfold cf_608_121 at hC
  unfold cp_608_121 at hp
  refine g_istore_n (Nat.le_of_ble_eq_true rfl) rfl (g_iinc rfl mzi_1 (Nat.le_of_ble_eq_true rfl) rfl (g_goto (tg := 88) rfl ms_608_88 ?_))
  refine g_weak ?_ (g_cl (hc1 (s0, (v2 + 1)) hC))
  exact ⟨rfl, rfl, rfl, trivial⟩
theorem cg_608_116 (hd : 10 ≤ d) (hS : mz_extR S 342) (hR : mz_rok R 342)  (v2 : Int32) (N : mz_N) {C0 : (Int32 × mz_N) → Prop} (hr : ∀ (w : Int32) (N2 : mz_N), C0 (w, N2) → Q (.inl (some (.int w))) (mz_k S R N2 b t)) {C1 : ((Bool × Int32) ⊕ (Int32 × mz_N)) → Prop} (hc1 : ∀ s2, C1 (.inl s2) → mz_G (d, mz_X0 L xs, some .int, [], mk_608, 3, Q) 88 mt_608_88 [(0, .ref 232), (1, .int (mz_b01 s2.1)), (2, .int s2.2)] [] false (mz_k S R N b t)) (hx1 : ∀ z, C1 (.inr z) → C0 z) (hp : cp_608_116 v2 N) (hC : C1 (cf_608_116 v2 N)) : mz_G (d, mz_X0 L xs, some .int, [], mk_608, 3, Q) 116 mt_608_116 [(0, .ref 232), (2, .int v2)] [] false (mz_k S R N b t) := by
  unfold cf_608_116 at hC
  unfold cp_608_116 at hp
  refine g_iconst mzi_1 (g_goto (tg := 121) rfl ms_608_121 ?_)
  refine g_weak ?_ (g_cl (cg_608_121 hd hS hR true v2 N hr hc1 hx1 hp hC))
  exact ⟨rfl, rfl, trivial⟩
theorem cb_608_88 (hd : 10 ≤ d) (hS : mz_extR S 342) (hR : mz_rok R 342)  (N : mz_N) (s : Bool × Int32) {C0 : (Int32 × mz_N) → Prop} (hr : ∀ (w : Int32) (N2 : mz_N), C0 (w, N2) → Q (.inl (some (.int w))) (mz_k S R N2 b t)) {C1 : ((Bool × Int32) ⊕ (Int32 × mz_N)) → Prop} (hc1 : ∀ s2, C1 (.inl s2) → mz_G (d, mz_X0 L xs, some .int, [], mk_608, 3, Q) 88 mt_608_88 [(0, .ref 232), (1, .int (mz_b01 s2.1)), (2, .int s2.2)] [] false (mz_k S R N b t)) (hx1 : ∀ z, C1 (.inr z) → C0 z) (hp : cd_608_88 N s) (hC : C1 (cq_608_88 N s)) : mz_G (d, mz_X0 L xs, some .int, [], mk_608, 3, Q) 88 mt_608_88 [(0, .ref 232), (1, .int (mz_b01 s.1)), (2, .int s.2)] [] false (mz_k S R N b t) := by
  unfold cq_608_88 at hC
  unfold cd_608_88 at hp
  refine g_iload_n rfl (g_sipush mzs_135 ?_)
  refine g_icge (tg := 128) rfl ms_608_128 hC (fun h1 hC => ?_) (fun h1 hC => ?_)
  · have hp := hp.1 h1
    refine g_iload_n rfl ?_
    refine g_zeq (tg := 128) rfl ms_608_128 hC (fun h2 hC => ?_) (fun h2 hC => ?_)
    · have hp := hp.1 h2
      refine g_aload_n rfl (g_getR (mz_at hS (Nat.le_of_ble_eq_true rfl) mzcS_232) mzcf_12_144 (mz_rb hR (Nat.le_of_ble_eq_true rfl) rfl mzcR_232_144) (g_iload_n rfl ?_))
      obtain ⟨h3, hp⟩ := hp
      obtain ⟨h4, hp⟩ := hp
      refine g_zald (mz_at hS (Nat.le_of_ble_eq_true rfl) mzcS_336) h3 h4 ?_
      refine g_zeq (tg := 116) rfl ms_608_116 hC (fun h5 hC => ?_) (fun h5 hC => ?_)
      · have hp := hp.1 h5
        refine g_aload_n rfl (g_iload_n rfl ?_)
        obtain ⟨h6, hp⟩ := hp
        refine g_v2v (Nat.le_of_ble_eq_true rfl) (mz_at hS (Nat.le_of_ble_eq_true rfl) mzcS_232) (fun _ hq => cs_610 (Nat.le_trans (Nat.le_of_ble_eq_true rfl) hd) (hS.le (Nat.le_of_ble_eq_true rfl)) (hR.le (Nat.le_of_ble_eq_true rfl))  s.2 N h6 hq) ?_
        refine g_zeq (tg := 120) rfl ms_608_120 hC (fun h7 hC => ?_) (fun h7 hC => ?_)
        · have hp := hp.1 h7
          refine g_weak ?_ (g_cl (cg_608_116 hd hS hR s.2 N hr hc1 hx1 hp hC))
          exact ⟨rfl, rfl, trivial⟩
        · have hp := hp.2 h7
          refine g_iconst mzi_0 ?_
          refine g_weak ?_ (g_cl (cg_608_121 hd hS hR false s.2 N hr hc1 hx1 hp hC))
          exact ⟨rfl, rfl, trivial⟩
      · have hp := hp.2 h5
        refine g_weak ?_ (g_cl (cg_608_116 hd hS hR s.2 N hr hc1 hx1 hp hC))
        exact ⟨rfl, rfl, trivial⟩
    · have hp := hp.2 h2
      refine g_weak ?_ (g_cl (cg_608_128 hd hS hR s.1 N hr hp (hx1 _ hC)))
      exact ⟨rfl, rfl, trivial⟩
  · have hp := hp.2 h1
    refine g_weak ?_ (g_cl (cg_608_128 hd hS hR s.1 N hr hp (hx1 _ hC)))
    exact ⟨rfl, rfl, trivial⟩
theorem cg_608_88 (hd : 10 ≤ d) (hS : mz_extR S 342) (hR : mz_rok R 342)  (v1 : Bool) (v2 : Int32) (N : mz_N) {C0 : (Int32 × mz_N) → Prop} (hr : ∀ (w : Int32) (N2 : mz_N), C0 (w, N2) → Q (.inl (some (.int w))) (mz_k S R N2 b t)) (hp : cp_608_88 v1 v2 N) (hC : C0 (cf_608_88 v1 v2 N)) : mz_G (d, mz_X0 L xs, some .int, [], mk_608, 3, Q) 88 mt_608_88 [(0, .ref 232), (1, .int (mz_b01 v1)), (2, .int v2)] [] false (mz_k S R N b t) := by
  obtain ⟨n, hn⟩ := hp
  exact g_loop (G := fun s => mz_G (d, mz_X0 L xs, some .int, [], mk_608, 3, Q) 88 mt_608_88 [(0, .ref 232), (1, .int (mz_b01 s.1)), (2, .int s.2)] [] false (mz_k S R N b t)) (C := C0) (fun C2 hc hx s hP hC => cb_608_88 hd hS hR N s hr hc hx hP hC) n (v1, v2) hn hC
theorem cg_608_0 (hd : 10 ≤ d) (hS : mz_extR S 342) (hR : mz_rok R 342)  (N : mz_N) {C0 : (Int32 × mz_N) → Prop} (hr : ∀ (w : Int32) (N2 : mz_N), C0 (w, N2) → Q (.inl (some (.int w))) (mz_k S R N2 b t)) (hp : cp_608_0 N) (hC : C0 (cf_608_0 N)) : mz_G (d, mz_X0 L xs, some .int, [], mk_608, 3, Q) 0 mk_608 [(0, .ref 232)] [] true (mz_k S R N b t) := by
  unfold cf_608_0 at hC
  unfold cp_608_0 at hp
  refine g_aload_n rfl (g_getI (mz_at hS (Nat.le_of_ble_eq_true rfl) mzcS_232) mzcf_12_143 (g_iconst mzi_2 ?_))
  refine g_iclt (tg := 34) rfl ms_608_34 hC (fun h1 hC => ?_) (fun h1 hC => ?_)
  · have hp := hp.1 h1
    refine g_iconst mzi_1 ?_
    exact g_iret rfl (hr _ _ hC)
  · have hp := hp.2 h1
    refine g_aload_n rfl (g_getI (mz_at hS (Nat.le_of_ble_eq_true rfl) mzcS_232) mzcf_12_143 (g_i2l (g_con3 (g_aload_n rfl (g_getR (mz_at hS (Nat.le_of_ble_eq_true rfl) mzcS_232) mzcf_12_142 (mz_rb hR (Nat.le_of_ble_eq_true rfl) rfl mzcR_232_142) (g_iconst mzi_0 (g_iconst mzi_2 ?_)))))))
    obtain ⟨h2, hp⟩ := hp
    refine g_s3v (Nat.le_of_ble_eq_true rfl) (fun _ hq => cs_423 (Nat.le_trans (Nat.le_of_ble_eq_true rfl) hd) (hS.le (Nat.le_of_ble_eq_true rfl)) (hR.le (Nat.le_of_ble_eq_true rfl)) 335 4100 (mz_at hS (Nat.le_of_ble_eq_true rfl) mzcS_335) 0 2 N h2 hq) (g_lmul (g_con3 (g_ladd (g_lcmp ?_))))
    refine g_leq (tg := 36) rfl ms_608_36 hC (fun h3 hC => ?_) (fun h3 hC => ?_)
    · have hp := hp.1 h3
      refine g_aload_n rfl (g_getR (mz_at hS (Nat.le_of_ble_eq_true rfl) mzcS_232) mzcf_12_142 (mz_rb hR (Nat.le_of_ble_eq_true rfl) rfl mzcR_232_142) (g_aload_n rfl (g_getI (mz_at hS (Nat.le_of_ble_eq_true rfl) mzcS_232) mzcf_12_143 (g_iconst mzi_4 (g_isub (g_iconst mzi_4 ?_))))))
      obtain ⟨h4, hp⟩ := hp
      refine g_s3v (Nat.le_of_ble_eq_true rfl) (fun _ hq => cs_423 (Nat.le_trans (Nat.le_of_ble_eq_true rfl) hd) (hS.le (Nat.le_of_ble_eq_true rfl)) (hR.le (Nat.le_of_ble_eq_true rfl)) 335 4100 (mz_at hS (Nat.le_of_ble_eq_true rfl) mzcS_335) ((N.1 232 143) - 4) 4 N h4 hq) (g_aload_n rfl (g_getR (mz_at hS (Nat.le_of_ble_eq_true rfl) mzcS_232) mzcf_12_142 (mz_rb hR (Nat.le_of_ble_eq_true rfl) rfl mzcR_232_142) (g_iconst mzi_0 (g_aload_n rfl (g_getI (mz_at hS (Nat.le_of_ble_eq_true rfl) mzcS_232) mzcf_12_143 (g_iconst mzi_4 (g_isub ?_)))))))
      obtain ⟨h5, hp⟩ := hp
      refine g_s3v (Nat.le_of_ble_eq_true rfl) (fun _ hq => cs_413 (Nat.le_trans (Nat.le_of_ble_eq_true rfl) hd) (hS.le (Nat.le_of_ble_eq_true rfl)) (hR.le (Nat.le_of_ble_eq_true rfl)) 335 4100 (mz_at hS (Nat.le_of_ble_eq_true rfl) mzcS_335) 0 ((N.1 232 143) - 4) N h5 hq) (g_i2l (g_con3 (g_land (g_lcmp ?_))))
      refine g_leq (tg := 75) rfl ms_608_75 hC (fun h6 hC => ?_) (fun h6 hC => ?_)
      · have hp := hp.1 h6
        refine g_aload_n rfl ?_
        obtain ⟨h7, hp⟩ := hp
        refine g_v1v (Nat.le_of_ble_eq_true rfl) (mz_at hS (Nat.le_of_ble_eq_true rfl) mzcS_232) (fun _ hq => cs_609 (Nat.le_trans (Nat.le_of_ble_eq_true rfl) hd) (hS.le (Nat.le_of_ble_eq_true rfl)) (hR.le (Nat.le_of_ble_eq_true rfl))  N h7 hq) ?_
        refine g_zne (tg := 84) rfl ms_608_84 hC (fun h8 hC => ?_) (fun h8 hC => ?_)
        · have hp := hp.1 h8
          refine g_iconst mzi_1 (g_istore_n (Nat.le_of_ble_eq_true rfl) rfl (g_iconst mzi_0 (g_istore_n (Nat.le_of_ble_eq_true rfl) rfl ?_)))
          refine g_weak ?_ (g_cl (cg_608_88 hd hS hR true 0 ((cf_609_0 N).2) hr hp hC))
          exact ⟨rfl, rfl, rfl, trivial⟩
        · have hp := hp.2 h8
          refine g_iconst mzi_3 ?_
          exact g_iret rfl (hr _ _ hC)
      · have hp := hp.2 h6
        refine g_iconst mzi_2 ?_
        exact g_iret rfl (hr _ _ hC)
    · have hp := hp.2 h3
      refine g_iconst mzi_1 ?_
      exact g_iret rfl (hr _ _ hC)
theorem cs_608 (hd : 11 ≤ d) (hS : mz_extR S 342) (hR : mz_rok R 342)  (N : mz_N) (hp : cp_608_0 N) (hq : Q (.inl (some (.int ((cf_608_0 N).1)))) (mz_k S R ((cf_608_0 N).2) b t)) : mz_Ed (mz_X0 L xs) d 608 [.ref 232] (mz_k S R N b t) Q :=
  by
  refine g_in mzq_608 (Nat.le_of_ble_eq_true rfl) (Nat.le_of_ble_eq_true rfl) (Nat.le_trans (Nat.le_of_ble_eq_true rfl) hd) ?_
  refine g_weak ?_ (cg_608_0 (d := d - 1) (by omega) hS hR N (C0 := fun z => Q (.inl (some (.int z.1))) (mz_k S R z.2 b t)) (fun _ _ h => h) hp hq)
  exact ⟨rfl, trivial⟩
end Fn37
