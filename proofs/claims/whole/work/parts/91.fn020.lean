/-! THE FUNCTIONS: written by program: each method comes to its function. -/
section Fn20
variable {L : Nat} {xs : Nat → Int32} {d : Nat} {S : mz_S} {R : Nat → Nat → Option Nat} {Q : mz_Q} {N : mz_N} {b : Bool} {t : Nat}
/-! 415 KeptHouseModel.firstThings ()V -/
theorem ms_415_0 : mz_sf mk_415 0 = mk_415 := mz_sf_zero _
theorem ms_415_12 : mz_sf mk_415 12 = mt_415_12 := mz_sf_add ms_415_0 (t := 12) rfl rfl
theorem ms_415_34 : mz_sf mk_415 34 = mt_415_34 := mz_sf_add ms_415_12 (t := 22) rfl rfl
theorem ms_415_57 : mz_sf mk_415 57 = mt_415_57 := mz_sf_add ms_415_34 (t := 23) rfl rfl
theorem ms_415_78 : mz_sf mk_415 78 = mt_415_78 := mz_sf_add ms_415_57 (t := 21) rfl rfl
theorem ms_415_84 : mz_sf mk_415 84 = mt_415_84 := mz_sf_add ms_415_78 (t := 6) rfl rfl
theorem ms_415_86 : mz_sf mk_415 86 = mt_415_86 := mz_sf_add ms_415_84 (t := 2) rfl rfl
theorem ms_415_109 : mz_sf mk_415 109 = mt_415_109 := mz_sf_add ms_415_86 (t := 23) rfl rfl
theorem ms_415_115 : mz_sf mk_415 115 = mt_415_115 := mz_sf_add ms_415_109 (t := 6) rfl rfl
theorem ms_415_117 : mz_sf mk_415 117 = mt_415_117 := mz_sf_add ms_415_115 (t := 2) rfl rfl
theorem ms_415_138 : mz_sf mk_415 138 = mt_415_138 := mz_sf_add ms_415_117 (t := 21) rfl rfl
theorem ms_415_159 : mz_sf mk_415 159 = mt_415_159 := mz_sf_add ms_415_138 (t := 21) rfl rfl
theorem ms_415_180 : mz_sf mk_415 180 = mt_415_180 := mz_sf_add ms_415_159 (t := 21) rfl rfl
theorem ms_415_193 : mz_sf mk_415 193 = mt_415_193 := mz_sf_add ms_415_180 (t := 13) rfl rfl
theorem ms_415_195 : mz_sf mk_415 195 = mt_415_195 := mz_sf_add ms_415_193 (t := 2) rfl rfl
theorem ms_415_215 : mz_sf mk_415 215 = mt_415_215 := mz_sf_add ms_415_195 (t := 20) rfl rfl
theorem ms_415_228 : mz_sf mk_415 228 = mt_415_228 := mz_sf_add ms_415_215 (t := 13) rfl rfl
theorem ms_415_230 : mz_sf mk_415 230 = mt_415_230 := mz_sf_add ms_415_228 (t := 2) rfl rfl
theorem ms_415_251 : mz_sf mk_415 251 = mt_415_251 := mz_sf_add ms_415_230 (t := 21) rfl rfl
theorem ms_415_272 : mz_sf mk_415 272 = mt_415_272 := mz_sf_add ms_415_251 (t := 21) rfl rfl
theorem ms_415_278 : mz_sf mk_415 278 = mt_415_278 := mz_sf_add ms_415_272 (t := 6) rfl rfl
theorem ms_415_280 : mz_sf mk_415 280 = mt_415_280 := mz_sf_add ms_415_278 (t := 2) rfl rfl
theorem ms_415_300 : mz_sf mk_415 300 = mt_415_300 := mz_sf_add ms_415_280 (t := 20) rfl rfl
set_option maxRecDepth 100000 in
theorem mzq_415 : mz_PG0 415 = some (12, ⟨"KeptHouseModel", "firstThings", "()V"⟩, prog_14_method_188_code, 2, none, [], mk_415, []) := rfl
theorem cg_415_57 (hd : 2 ≤ d) (hS : mz_ext S 342) (hR : mz_rok R 342)  (v1 : Int32) (N : mz_N) {C0 : (mz_N) → Prop} (hr : ∀ (N2 : mz_N), C0 N2 → Q (.inl none) (mz_k S R N2 b t)) {C1 : ((Int32 × mz_N) ⊕ (mz_N)) → Prop} (hc1 : ∀ s2, C1 (.inl s2) → mz_G (d, mz_X0 L xs, none, [], mk_415, 2, Q) 12 mt_415_12 [(0, .ref 232), (1, .int s2.1)] [] false (mz_k S R s2.2 b t)) (hx1 : ∀ z, C1 (.inr z) → C0 z) (hp : cp_415_57 v1 N) (hC : C1 (cf_415_57 v1 N)) : mz_G (d, mz_X0 L xs, none, [], mk_415, 2, Q) 57 mt_415_57 [(0, .ref 232), (1, .int v1)] [] false (mz_k S R N b t) := by
  unfold cf_415_57 at hC
  unfold cp_415_57 at hp
  refine g_aload_n rfl (g_getR (mz_at hS (Nat.le_of_ble_eq_true rfl) mzcS_232) mzcf_12_43 (mz_rb hR (Nat.le_of_ble_eq_true rfl) rfl mzcR_232_43) (g_iload_n rfl (g_lconst mzl_0 ?_)))
  obtain ⟨h1, hp⟩ := hp
  refine g_last (mz_at hS (Nat.le_of_ble_eq_true rfl) mzcS_263) h1 (g_aload_n rfl (g_getR (mz_at hS (Nat.le_of_ble_eq_true rfl) mzcS_232) mzcf_12_44 (mz_rb hR (Nat.le_of_ble_eq_true rfl) rfl mzcR_232_44) (g_iload_n rfl (g_lconst mzl_0 ?_))))
  obtain ⟨h2, hp⟩ := hp
  refine g_last (mz_at hS (Nat.le_of_ble_eq_true rfl) mzcS_264) h2 (g_aload_n rfl (g_getR (mz_at hS (Nat.le_of_ble_eq_true rfl) mzcS_232) mzcf_12_45 (mz_rb hR (Nat.le_of_ble_eq_true rfl) rfl mzcR_232_45) (g_iload_n rfl (g_lconst mzl_0 ?_))))
  have h3 := hp
  refine g_last (mz_at hS (Nat.le_of_ble_eq_true rfl) mzcS_265) h3 (g_iinc rfl mzi_1 (Nat.le_of_ble_eq_true rfl) rfl (g_goto (tg := 12) rfl ms_415_12 ?_))
  refine g_weak ?_ (g_cl (hc1 ((v1 + 1), mz_wL (mz_wL (mz_wL N 263 v1 0) 264 v1 0) 265 v1 0) hC))
  exact ⟨rfl, rfl, trivial⟩
theorem cg_415_272 (hd : 2 ≤ d) (hS : mz_ext S 342) (hR : mz_rok R 342)  (v1 : Int32) (N : mz_N) {C0 : (mz_N) → Prop} (hr : ∀ (N2 : mz_N), C0 N2 → Q (.inl none) (mz_k S R N2 b t)) {C1 : ((Int32 × mz_N) ⊕ (mz_N)) → Prop} (hc1 : ∀ s2, C1 (.inl s2) → mz_G (d, mz_X0 L xs, none, [], mk_415, 2, Q) 230 mt_415_230 [(0, .ref 232), (1, .int s2.1)] [] false (mz_k S R s2.2 b t)) (hx1 : ∀ z, C1 (.inr z) → C0 z) (hp : cp_415_272 v1 N) (hC : C1 (cf_415_272 v1 N)) : mz_G (d, mz_X0 L xs, none, [], mk_415, 2, Q) 272 mt_415_272 [(0, .ref 232), (1, .int v1)] [] false (mz_k S R N b t) := by
  unfold cf_415_272 at hC
  unfold cp_415_272 at hp
  refine g_iinc rfl mzi_1 (Nat.le_of_ble_eq_true rfl) rfl (g_goto (tg := 230) rfl ms_415_230 ?_)
  refine g_weak ?_ (g_cl (hc1 ((v1 + 1), N) hC))
  exact ⟨rfl, rfl, trivial⟩
theorem cb_415_280 (hd : 2 ≤ d) (hS : mz_ext S 342) (hR : mz_rok R 342)   (s : Int32 × mz_N) {C0 : (mz_N) → Prop} (hr : ∀ (N2 : mz_N), C0 N2 → Q (.inl none) (mz_k S R N2 b t)) {C1 : ((Int32 × mz_N) ⊕ (mz_N)) → Prop} (hc1 : ∀ s2, C1 (.inl s2) → mz_G (d, mz_X0 L xs, none, [], mk_415, 2, Q) 280 mt_415_280 [(0, .ref 232), (1, .int s2.1)] [] false (mz_k S R s2.2 b t)) (hx1 : ∀ z, C1 (.inr z) → C0 z) (hp : cd_415_280  s) (hC : C1 (cq_415_280  s)) : mz_G (d, mz_X0 L xs, none, [], mk_415, 2, Q) 280 mt_415_280 [(0, .ref 232), (1, .int s.1)] [] false (mz_k S R s.2 b t) := by
  unfold cq_415_280 at hC
  unfold cd_415_280 at hp
  refine g_iload_n rfl (g_sipush mzs_196 ?_)
  refine g_icge (tg := 300) rfl ms_415_300 hC (fun h1 hC => ?_) (fun h1 hC => ?_)
  · have hp := hp.1 h1
    refine g_aload_n rfl (g_getR (mz_at hS (Nat.le_of_ble_eq_true rfl) mzcS_232) mzcf_12_26 (mz_rb hR (Nat.le_of_ble_eq_true rfl) rfl mzcR_232_26) (g_iload_n rfl (g_iconst mzi_0 ?_)))
    have h2 := hp
    refine g_iast (mz_at hS (Nat.le_of_ble_eq_true rfl) mzcS_252) h2 (g_iinc rfl mzi_1 (Nat.le_of_ble_eq_true rfl) rfl (g_goto (tg := 280) rfl ms_415_280 ?_))
    refine g_weak ?_ (g_cl (hc1 ((s.1 + 1), mz_wI s.2 252 s.1 0) hC))
    exact ⟨rfl, rfl, trivial⟩
  · have hp := hp.2 h1
    refine g_aload_n rfl (g_iconst mzi_0 (g_putI (mz_at hS (Nat.le_of_ble_eq_true rfl) mzcS_232) mzcf_12_27 (g_aload_n rfl (g_iconst mzi_0 (g_putI (mz_at hS (Nat.le_of_ble_eq_true rfl) mzcS_232) mzcf_12_25 (g_aload_n rfl (g_iconst mzi_0 ?_)))))))
    refine g_putZ (z := false) (mz_at hS (Nat.le_of_ble_eq_true rfl) mzcS_232) mzcf_12_36 (g_aload_n rfl ?_)
    have h3 := hp
    refine g_v1n (Nat.le_of_ble_eq_true rfl) (mz_at hS (Nat.le_of_ble_eq_true rfl) mzcS_232) (fun _ hq => cs_418 (Nat.le_trans (Nat.le_of_ble_eq_true rfl) hd) (hS.le (Nat.le_of_ble_eq_true rfl)) (hR.le (Nat.le_of_ble_eq_true rfl))  (mz_pI (mz_pI (mz_pI s.2 232 27 0) 232 25 0) 232 36 (mz_b01 false)) h3 hq) ?_
    exact g_vret rfl (hr _ (hx1 _ hC))
theorem cg_415_280 (hd : 2 ≤ d) (hS : mz_ext S 342) (hR : mz_rok R 342)  (v1 : Int32) (N : mz_N) {C0 : (mz_N) → Prop} (hr : ∀ (N2 : mz_N), C0 N2 → Q (.inl none) (mz_k S R N2 b t)) (hp : cp_415_280 v1 N) (hC : C0 (cf_415_280 v1 N)) : mz_G (d, mz_X0 L xs, none, [], mk_415, 2, Q) 280 mt_415_280 [(0, .ref 232), (1, .int v1)] [] false (mz_k S R N b t) := by
  obtain ⟨n, hn⟩ := hp
  exact g_loop (G := fun s => mz_G (d, mz_X0 L xs, none, [], mk_415, 2, Q) 280 mt_415_280 [(0, .ref 232), (1, .int s.1)] [] false (mz_k S R s.2 b t)) (C := C0) (fun C2 hc hx s hP hC => cb_415_280 hd hS hR  s hr hc hx hP hC) n (v1, N) hn hC
theorem cb_415_230 (hd : 2 ≤ d) (hS : mz_ext S 342) (hR : mz_rok R 342)   (s : Int32 × mz_N) {C0 : (mz_N) → Prop} (hr : ∀ (N2 : mz_N), C0 N2 → Q (.inl none) (mz_k S R N2 b t)) {C1 : ((Int32 × mz_N) ⊕ (mz_N)) → Prop} (hc1 : ∀ s2, C1 (.inl s2) → mz_G (d, mz_X0 L xs, none, [], mk_415, 2, Q) 230 mt_415_230 [(0, .ref 232), (1, .int s2.1)] [] false (mz_k S R s2.2 b t)) (hx1 : ∀ z, C1 (.inr z) → C0 z) (hp : cd_415_230  s) (hC : C1 (cq_415_230  s)) : mz_G (d, mz_X0 L xs, none, [], mk_415, 2, Q) 230 mt_415_230 [(0, .ref 232), (1, .int s.1)] [] false (mz_k S R s.2 b t) := by
  unfold cq_415_230 at hC
  unfold cd_415_230 at hp
  refine g_iload_n rfl (g_iconst mzi_3 ?_)
  refine g_icge (tg := 278) rfl ms_415_278 hC (fun h1 hC => ?_) (fun h1 hC => ?_)
  · have hp := hp.1 h1
    refine g_aload_n rfl (g_getR (mz_at hS (Nat.le_of_ble_eq_true rfl) mzcS_232) mzcf_12_22 (mz_rb hR (Nat.le_of_ble_eq_true rfl) rfl mzcR_232_22) (g_iload_n rfl (g_iconst mzi_0 ?_)))
    obtain ⟨h2, hp⟩ := hp
    refine g_iast (mz_at hS (Nat.le_of_ble_eq_true rfl) mzcS_249) h2 (g_aload_n rfl (g_getR (mz_at hS (Nat.le_of_ble_eq_true rfl) mzcS_232) mzcf_12_23 (mz_rb hR (Nat.le_of_ble_eq_true rfl) rfl mzcR_232_23) (g_iload_n rfl (g_sipush mzs_5000 ?_))))
    obtain ⟨h3, hp⟩ := hp
    refine g_iast (mz_at hS (Nat.le_of_ble_eq_true rfl) mzcS_250) h3 (g_aload_n rfl (g_getR (mz_at hS (Nat.le_of_ble_eq_true rfl) mzcS_232) mzcf_12_100 (mz_rb hR (Nat.le_of_ble_eq_true rfl) rfl mzcR_232_100) (g_iload_n rfl (g_lconst mzl_0 ?_))))
    obtain ⟨h4, hp⟩ := hp
    refine g_last (mz_at hS (Nat.le_of_ble_eq_true rfl) mzcS_305) h4 (g_aload_n rfl (g_getR (mz_at hS (Nat.le_of_ble_eq_true rfl) mzcS_232) mzcf_12_101 (mz_rb hR (Nat.le_of_ble_eq_true rfl) rfl mzcR_232_101) (g_iload_n rfl (g_iconst mzi_0 ?_))))
    obtain ⟨h5, hp⟩ := hp
    refine g_iast (mz_at hS (Nat.le_of_ble_eq_true rfl) mzcS_306) h5 (g_aload_n rfl (g_getR (mz_at hS (Nat.le_of_ble_eq_true rfl) mzcS_232) mzcf_12_102 (mz_rb hR (Nat.le_of_ble_eq_true rfl) rfl mzcR_232_102) (g_iload_n rfl (g_iconst mzi_0 ?_))))
    obtain ⟨h6, hp⟩ := hp
    refine g_zast (z := false) (mz_at hS (Nat.le_of_ble_eq_true rfl) mzcS_307) h6 ?_
    refine g_weak ?_ (g_cl (cg_415_272 hd hS hR s.1 (mz_wI (mz_wI (mz_wL (mz_wI (mz_wI s.2 249 s.1 0) 250 s.1 5000) 305 s.1 0) 306 s.1 0) 307 s.1 (mz_b01 false)) hr hc1 hx1 hp hC))
    exact ⟨rfl, rfl, trivial⟩
  · have hp := hp.2 h1
    refine g_iconst mzi_0 (g_istore_n (Nat.le_of_ble_eq_true rfl) rfl ?_)
    refine g_weak ?_ (g_cl (cg_415_280 hd hS hR 0 s.2 hr hp (hx1 _ hC)))
    exact ⟨rfl, rfl, trivial⟩
theorem cg_415_230 (hd : 2 ≤ d) (hS : mz_ext S 342) (hR : mz_rok R 342)  (v1 : Int32) (N : mz_N) {C0 : (mz_N) → Prop} (hr : ∀ (N2 : mz_N), C0 N2 → Q (.inl none) (mz_k S R N2 b t)) (hp : cp_415_230 v1 N) (hC : C0 (cf_415_230 v1 N)) : mz_G (d, mz_X0 L xs, none, [], mk_415, 2, Q) 230 mt_415_230 [(0, .ref 232), (1, .int v1)] [] false (mz_k S R N b t) := by
  obtain ⟨n, hn⟩ := hp
  exact g_loop (G := fun s => mz_G (d, mz_X0 L xs, none, [], mk_415, 2, Q) 230 mt_415_230 [(0, .ref 232), (1, .int s.1)] [] false (mz_k S R s.2 b t)) (C := C0) (fun C2 hc hx s hP hC => cb_415_230 hd hS hR  s hr hc hx hP hC) n (v1, N) hn hC
theorem cb_415_195 (hd : 2 ≤ d) (hS : mz_ext S 342) (hR : mz_rok R 342)   (s : Int32 × mz_N) {C0 : (mz_N) → Prop} (hr : ∀ (N2 : mz_N), C0 N2 → Q (.inl none) (mz_k S R N2 b t)) {C1 : ((Int32 × mz_N) ⊕ (mz_N)) → Prop} (hc1 : ∀ s2, C1 (.inl s2) → mz_G (d, mz_X0 L xs, none, [], mk_415, 2, Q) 195 mt_415_195 [(0, .ref 232), (1, .int s2.1)] [] false (mz_k S R s2.2 b t)) (hx1 : ∀ z, C1 (.inr z) → C0 z) (hp : cd_415_195  s) (hC : C1 (cq_415_195  s)) : mz_G (d, mz_X0 L xs, none, [], mk_415, 2, Q) 195 mt_415_195 [(0, .ref 232), (1, .int s.1)] [] false (mz_k S R s.2 b t) := by
  unfold cq_415_195 at hC
  unfold cd_415_195 at hp
  refine g_iload_n rfl (g_bipush mzb_10 ?_)
  refine g_icge (tg := 228) rfl ms_415_228 hC (fun h1 hC => ?_) (fun h1 hC => ?_)
  · have hp := hp.1 h1
    refine g_aload_n rfl (g_getR (mz_at hS (Nat.le_of_ble_eq_true rfl) mzcS_232) mzcf_12_120 (mz_rb hR (Nat.le_of_ble_eq_true rfl) rfl mzcR_232_120) (g_iload_n rfl (g_lconst mzl_0 ?_)))
    obtain ⟨h2, hp⟩ := hp
    refine g_last (mz_at hS (Nat.le_of_ble_eq_true rfl) mzcS_324) h2 (g_aload_n rfl (g_getR (mz_at hS (Nat.le_of_ble_eq_true rfl) mzcS_232) mzcf_12_121 (mz_rb hR (Nat.le_of_ble_eq_true rfl) rfl mzcR_232_121) (g_iload_n rfl (g_lconst mzl_0 ?_))))
    obtain ⟨h3, hp⟩ := hp
    refine g_last (mz_at hS (Nat.le_of_ble_eq_true rfl) mzcS_325) h3 (g_aload_n rfl (g_getR (mz_at hS (Nat.le_of_ble_eq_true rfl) mzcS_232) mzcf_12_70 (mz_rb hR (Nat.le_of_ble_eq_true rfl) rfl mzcR_232_70) (g_iload_n rfl (g_iconst mzi_0 ?_))))
    have h4 := hp
    refine g_iast (mz_at hS (Nat.le_of_ble_eq_true rfl) mzcS_278) h4 (g_iinc rfl mzi_1 (Nat.le_of_ble_eq_true rfl) rfl (g_goto (tg := 195) rfl ms_415_195 ?_))
    refine g_weak ?_ (g_cl (hc1 ((s.1 + 1), mz_wI (mz_wL (mz_wL s.2 324 s.1 0) 325 s.1 0) 278 s.1 0) hC))
    exact ⟨rfl, rfl, trivial⟩
  · have hp := hp.2 h1
    refine g_iconst mzi_0 (g_istore_n (Nat.le_of_ble_eq_true rfl) rfl ?_)
    refine g_weak ?_ (g_cl (cg_415_230 hd hS hR 0 s.2 hr hp (hx1 _ hC)))
    exact ⟨rfl, rfl, trivial⟩
theorem cg_415_195 (hd : 2 ≤ d) (hS : mz_ext S 342) (hR : mz_rok R 342)  (v1 : Int32) (N : mz_N) {C0 : (mz_N) → Prop} (hr : ∀ (N2 : mz_N), C0 N2 → Q (.inl none) (mz_k S R N2 b t)) (hp : cp_415_195 v1 N) (hC : C0 (cf_415_195 v1 N)) : mz_G (d, mz_X0 L xs, none, [], mk_415, 2, Q) 195 mt_415_195 [(0, .ref 232), (1, .int v1)] [] false (mz_k S R N b t) := by
  obtain ⟨n, hn⟩ := hp
  exact g_loop (G := fun s => mz_G (d, mz_X0 L xs, none, [], mk_415, 2, Q) 195 mt_415_195 [(0, .ref 232), (1, .int s.1)] [] false (mz_k S R s.2 b t)) (C := C0) (fun C2 hc hx s hP hC => cb_415_195 hd hS hR  s hr hc hx hP hC) n (v1, N) hn hC
theorem cg_415_159 (hd : 2 ≤ d) (hS : mz_ext S 342) (hR : mz_rok R 342)  (v1 : Int32) (N : mz_N) {C0 : (mz_N) → Prop} (hr : ∀ (N2 : mz_N), C0 N2 → Q (.inl none) (mz_k S R N2 b t)) {C1 : ((Int32 × mz_N) ⊕ (mz_N)) → Prop} (hc1 : ∀ s2, C1 (.inl s2) → mz_G (d, mz_X0 L xs, none, [], mk_415, 2, Q) 117 mt_415_117 [(0, .ref 232), (1, .int s2.1)] [] false (mz_k S R s2.2 b t)) (hx1 : ∀ z, C1 (.inr z) → C0 z) (hp : cp_415_159 v1 N) (hC : C1 (cf_415_159 v1 N)) : mz_G (d, mz_X0 L xs, none, [], mk_415, 2, Q) 159 mt_415_159 [(0, .ref 232), (1, .int v1)] [] false (mz_k S R N b t) := by
  unfold cf_415_159 at hC
  unfold cp_415_159 at hp
  refine g_aload_n rfl (g_getR (mz_at hS (Nat.le_of_ble_eq_true rfl) mzcS_232) mzcf_12_59 (mz_rb hR (Nat.le_of_ble_eq_true rfl) rfl mzcR_232_59) (g_iload_n rfl (g_iconst mzi_0 ?_)))
  obtain ⟨h1, hp⟩ := hp
  refine g_zast (z := false) (mz_at hS (Nat.le_of_ble_eq_true rfl) mzcS_275) h1 (g_aload_n rfl (g_getR (mz_at hS (Nat.le_of_ble_eq_true rfl) mzcS_232) mzcf_12_117 (mz_rb hR (Nat.le_of_ble_eq_true rfl) rfl mzcR_232_117) (g_iload_n rfl (g_lconst mzl_0 ?_))))
  obtain ⟨h2, hp⟩ := hp
  refine g_last (mz_at hS (Nat.le_of_ble_eq_true rfl) mzcS_321) h2 (g_aload_n rfl (g_getR (mz_at hS (Nat.le_of_ble_eq_true rfl) mzcS_232) mzcf_12_118 (mz_rb hR (Nat.le_of_ble_eq_true rfl) rfl mzcR_232_118) (g_iload_n rfl (g_lconst mzl_0 ?_))))
  obtain ⟨h3, hp⟩ := hp
  refine g_last (mz_at hS (Nat.le_of_ble_eq_true rfl) mzcS_322) h3 (g_aload_n rfl (g_getR (mz_at hS (Nat.le_of_ble_eq_true rfl) mzcS_232) mzcf_12_119 (mz_rb hR (Nat.le_of_ble_eq_true rfl) rfl mzcR_232_119) (g_iload_n rfl (g_lconst mzl_0 ?_))))
  have h4 := hp
  refine g_last (mz_at hS (Nat.le_of_ble_eq_true rfl) mzcS_323) h4 (g_iinc rfl mzi_1 (Nat.le_of_ble_eq_true rfl) rfl (g_goto (tg := 117) rfl ms_415_117 ?_))
  refine g_weak ?_ (g_cl (hc1 ((v1 + 1), mz_wL (mz_wL (mz_wL (mz_wI N 275 v1 (mz_b01 false)) 321 v1 0) 322 v1 0) 323 v1 0) hC))
  exact ⟨rfl, rfl, trivial⟩
theorem cb_415_117 (hd : 2 ≤ d) (hS : mz_ext S 342) (hR : mz_rok R 342)   (s : Int32 × mz_N) {C0 : (mz_N) → Prop} (hr : ∀ (N2 : mz_N), C0 N2 → Q (.inl none) (mz_k S R N2 b t)) {C1 : ((Int32 × mz_N) ⊕ (mz_N)) → Prop} (hc1 : ∀ s2, C1 (.inl s2) → mz_G (d, mz_X0 L xs, none, [], mk_415, 2, Q) 117 mt_415_117 [(0, .ref 232), (1, .int s2.1)] [] false (mz_k S R s2.2 b t)) (hx1 : ∀ z, C1 (.inr z) → C0 z) (hp : cd_415_117  s) (hC : C1 (cq_415_117  s)) : mz_G (d, mz_X0 L xs, none, [], mk_415, 2, Q) 117 mt_415_117 [(0, .ref 232), (1, .int s.1)] [] false (mz_k S R s.2 b t) := by
  unfold cq_415_117 at hC
  unfold cd_415_117 at hp
  refine g_iload_n rfl (g_bipush mzb_11 ?_)
  refine g_icge (tg := 193) rfl ms_415_193 hC (fun h1 hC => ?_) (fun h1 hC => ?_)
  · have hp := hp.1 h1
    refine g_aload_n rfl (g_getR (mz_at hS (Nat.le_of_ble_eq_true rfl) mzcS_232) mzcf_12_19 (mz_rb hR (Nat.le_of_ble_eq_true rfl) rfl mzcR_232_19) (g_iload_n rfl (g_bipush mzb_100 ?_)))
    obtain ⟨h2, hp⟩ := hp
    refine g_iast (mz_at hS (Nat.le_of_ble_eq_true rfl) mzcS_247) h2 (g_aload_n rfl (g_getR (mz_at hS (Nat.le_of_ble_eq_true rfl) mzcS_232) mzcf_12_20 (mz_rb hR (Nat.le_of_ble_eq_true rfl) rfl mzcR_232_20) (g_iload_n rfl (g_iconst mzi_0 ?_))))
    obtain ⟨h3, hp⟩ := hp
    refine g_iast (mz_at hS (Nat.le_of_ble_eq_true rfl) mzcS_248) h3 (g_aload_n rfl (g_getR (mz_at hS (Nat.le_of_ble_eq_true rfl) mzcS_232) mzcf_12_56 (mz_rb hR (Nat.le_of_ble_eq_true rfl) rfl mzcR_232_56) (g_iload_n rfl (g_iconst mzi_0 ?_))))
    obtain ⟨h4, hp⟩ := hp
    refine g_iast (mz_at hS (Nat.le_of_ble_eq_true rfl) mzcS_272) h4 (g_aload_n rfl (g_getR (mz_at hS (Nat.le_of_ble_eq_true rfl) mzcS_232) mzcf_12_57 (mz_rb hR (Nat.le_of_ble_eq_true rfl) rfl mzcR_232_57) (g_iload_n rfl (g_iconst mzi_0 ?_))))
    obtain ⟨h5, hp⟩ := hp
    refine g_zast (z := false) (mz_at hS (Nat.le_of_ble_eq_true rfl) mzcS_273) h5 (g_aload_n rfl (g_getR (mz_at hS (Nat.le_of_ble_eq_true rfl) mzcS_232) mzcf_12_58 (mz_rb hR (Nat.le_of_ble_eq_true rfl) rfl mzcR_232_58) (g_iload_n rfl (g_iconst mzi_0 ?_))))
    obtain ⟨h6, hp⟩ := hp
    refine g_iast (mz_at hS (Nat.le_of_ble_eq_true rfl) mzcS_274) h6 ?_
    refine g_weak ?_ (g_cl (cg_415_159 hd hS hR s.1 (mz_wI (mz_wI (mz_wI (mz_wI (mz_wI s.2 247 s.1 100) 248 s.1 0) 272 s.1 0) 273 s.1 (mz_b01 false)) 274 s.1 0) hr hc1 hx1 hp hC))
    exact ⟨rfl, rfl, trivial⟩
  · have hp := hp.2 h1
    refine g_iconst mzi_0 (g_istore_n (Nat.le_of_ble_eq_true rfl) rfl ?_)
    refine g_weak ?_ (g_cl (cg_415_195 hd hS hR 0 s.2 hr hp (hx1 _ hC)))
    exact ⟨rfl, rfl, trivial⟩
theorem cg_415_117 (hd : 2 ≤ d) (hS : mz_ext S 342) (hR : mz_rok R 342)  (v1 : Int32) (N : mz_N) {C0 : (mz_N) → Prop} (hr : ∀ (N2 : mz_N), C0 N2 → Q (.inl none) (mz_k S R N2 b t)) (hp : cp_415_117 v1 N) (hC : C0 (cf_415_117 v1 N)) : mz_G (d, mz_X0 L xs, none, [], mk_415, 2, Q) 117 mt_415_117 [(0, .ref 232), (1, .int v1)] [] false (mz_k S R N b t) := by
  obtain ⟨n, hn⟩ := hp
  exact g_loop (G := fun s => mz_G (d, mz_X0 L xs, none, [], mk_415, 2, Q) 117 mt_415_117 [(0, .ref 232), (1, .int s.1)] [] false (mz_k S R s.2 b t)) (C := C0) (fun C2 hc hx s hP hC => cb_415_117 hd hS hR  s hr hc hx hP hC) n (v1, N) hn hC
theorem cb_415_86 (hd : 2 ≤ d) (hS : mz_ext S 342) (hR : mz_rok R 342)   (s : Int32 × mz_N) {C0 : (mz_N) → Prop} (hr : ∀ (N2 : mz_N), C0 N2 → Q (.inl none) (mz_k S R N2 b t)) {C1 : ((Int32 × mz_N) ⊕ (mz_N)) → Prop} (hc1 : ∀ s2, C1 (.inl s2) → mz_G (d, mz_X0 L xs, none, [], mk_415, 2, Q) 86 mt_415_86 [(0, .ref 232), (1, .int s2.1)] [] false (mz_k S R s2.2 b t)) (hx1 : ∀ z, C1 (.inr z) → C0 z) (hp : cd_415_86  s) (hC : C1 (cq_415_86  s)) : mz_G (d, mz_X0 L xs, none, [], mk_415, 2, Q) 86 mt_415_86 [(0, .ref 232), (1, .int s.1)] [] false (mz_k S R s.2 b t) := by
  unfold cq_415_86 at hC
  unfold cd_415_86 at hp
  refine g_iload_n rfl (g_bipush mzb_96 ?_)
  refine g_icge (tg := 115) rfl ms_415_115 hC (fun h1 hC => ?_) (fun h1 hC => ?_)
  · have hp := hp.1 h1
    refine g_aload_n rfl (g_getR (mz_at hS (Nat.le_of_ble_eq_true rfl) mzcS_232) mzcf_12_18 (mz_rb hR (Nat.le_of_ble_eq_true rfl) rfl mzcR_232_18) (g_iload_n rfl (g_iconst mzi_0 ?_)))
    obtain ⟨h2, hp⟩ := hp
    refine g_iast (mz_at hS (Nat.le_of_ble_eq_true rfl) mzcS_246) h2 (g_aload_n rfl (g_getR (mz_at hS (Nat.le_of_ble_eq_true rfl) mzcS_232) mzcf_12_17 (mz_rb hR (Nat.le_of_ble_eq_true rfl) rfl mzcR_232_17) (g_iload_n rfl (g_bipush mzb_24 (g_irem (by decide) (g_iconst mzi_0 ?_))))))
    have h3 := hp
    refine g_iast (mz_at hS (Nat.le_of_ble_eq_true rfl) mzcS_245) h3 (g_iinc rfl mzi_1 (Nat.le_of_ble_eq_true rfl) rfl (g_goto (tg := 86) rfl ms_415_86 ?_))
    refine g_weak ?_ (g_cl (hc1 ((s.1 + 1), mz_wI (mz_wI s.2 246 s.1 0) 245 (mz_irem s.1 24) 0) hC))
    exact ⟨rfl, rfl, trivial⟩
  · have hp := hp.2 h1
    refine g_iconst mzi_0 (g_istore_n (Nat.le_of_ble_eq_true rfl) rfl ?_)
    refine g_weak ?_ (g_cl (cg_415_117 hd hS hR 0 s.2 hr hp (hx1 _ hC)))
    exact ⟨rfl, rfl, trivial⟩
theorem cg_415_86 (hd : 2 ≤ d) (hS : mz_ext S 342) (hR : mz_rok R 342)  (v1 : Int32) (N : mz_N) {C0 : (mz_N) → Prop} (hr : ∀ (N2 : mz_N), C0 N2 → Q (.inl none) (mz_k S R N2 b t)) (hp : cp_415_86 v1 N) (hC : C0 (cf_415_86 v1 N)) : mz_G (d, mz_X0 L xs, none, [], mk_415, 2, Q) 86 mt_415_86 [(0, .ref 232), (1, .int v1)] [] false (mz_k S R N b t) := by
  obtain ⟨n, hn⟩ := hp
  exact g_loop (G := fun s => mz_G (d, mz_X0 L xs, none, [], mk_415, 2, Q) 86 mt_415_86 [(0, .ref 232), (1, .int s.1)] [] false (mz_k S R s.2 b t)) (C := C0) (fun C2 hc hx s hP hC => cb_415_86 hd hS hR  s hr hc hx hP hC) n (v1, N) hn hC
theorem cb_415_12 (hd : 2 ≤ d) (hS : mz_ext S 342) (hR : mz_rok R 342)   (s : Int32 × mz_N) {C0 : (mz_N) → Prop} (hr : ∀ (N2 : mz_N), C0 N2 → Q (.inl none) (mz_k S R N2 b t)) {C1 : ((Int32 × mz_N) ⊕ (mz_N)) → Prop} (hc1 : ∀ s2, C1 (.inl s2) → mz_G (d, mz_X0 L xs, none, [], mk_415, 2, Q) 12 mt_415_12 [(0, .ref 232), (1, .int s2.1)] [] false (mz_k S R s2.2 b t)) (hx1 : ∀ z, C1 (.inr z) → C0 z) (hp : cd_415_12  s) (hC : C1 (cq_415_12  s)) : mz_G (d, mz_X0 L xs, none, [], mk_415, 2, Q) 12 mt_415_12 [(0, .ref 232), (1, .int s.1)] [] false (mz_k S R s.2 b t) := by
  unfold cq_415_12 at hC
  unfold cd_415_12 at hp
  refine g_iload_n rfl (g_sipush mzs_240 ?_)
  refine g_icge (tg := 84) rfl ms_415_84 hC (fun h1 hC => ?_) (fun h1 hC => ?_)
  · have hp := hp.1 h1
    refine g_aload_n rfl (g_getR (mz_at hS (Nat.le_of_ble_eq_true rfl) mzcS_232) mzcf_12_5 (mz_rb hR (Nat.le_of_ble_eq_true rfl) rfl mzcR_232_5) (g_iload_n rfl (g_bipush mzb_15 ?_)))
    obtain ⟨h2, hp⟩ := hp
    refine g_iast (mz_at hS (Nat.le_of_ble_eq_true rfl) mzcS_234) h2 (g_aload_n rfl (g_getR (mz_at hS (Nat.le_of_ble_eq_true rfl) mzcS_232) mzcf_12_16 (mz_rb hR (Nat.le_of_ble_eq_true rfl) rfl mzcR_232_16) (g_iload_n rfl (g_iconst mzi_0 ?_))))
    obtain ⟨h3, hp⟩ := hp
    refine g_iast (mz_at hS (Nat.le_of_ble_eq_true rfl) mzcS_244) h3 (g_aload_n rfl (g_getR (mz_at hS (Nat.le_of_ble_eq_true rfl) mzcS_232) mzcf_12_40 (mz_rb hR (Nat.le_of_ble_eq_true rfl) rfl mzcR_232_40) (g_iload_n rfl (g_con3 ?_))))
    obtain ⟨h4, hp⟩ := hp
    refine g_last (mz_at hS (Nat.le_of_ble_eq_true rfl) mzcS_260) h4 (g_aload_n rfl (g_getR (mz_at hS (Nat.le_of_ble_eq_true rfl) mzcS_232) mzcf_12_41 (mz_rb hR (Nat.le_of_ble_eq_true rfl) rfl mzcR_232_41) (g_iload_n rfl (g_lconst mzl_0 ?_))))
    obtain ⟨h5, hp⟩ := hp
    refine g_last (mz_at hS (Nat.le_of_ble_eq_true rfl) mzcS_261) h5 (g_aload_n rfl (g_getR (mz_at hS (Nat.le_of_ble_eq_true rfl) mzcS_232) mzcf_12_42 (mz_rb hR (Nat.le_of_ble_eq_true rfl) rfl mzcR_232_42) (g_iload_n rfl (g_lconst mzl_0 ?_))))
    obtain ⟨h6, hp⟩ := hp
    refine g_last (mz_at hS (Nat.le_of_ble_eq_true rfl) mzcS_262) h6 ?_
    refine g_weak ?_ (g_cl (cg_415_57 hd hS hR s.1 (mz_wL (mz_wL (mz_wL (mz_wI (mz_wI s.2 234 s.1 15) 244 s.1 0) 260 s.1 18000) 261 s.1 0) 262 s.1 0) hr hc1 hx1 hp hC))
    exact ⟨rfl, rfl, trivial⟩
  · have hp := hp.2 h1
    refine g_iconst mzi_0 (g_istore_n (Nat.le_of_ble_eq_true rfl) rfl ?_)
    refine g_weak ?_ (g_cl (cg_415_86 hd hS hR 0 s.2 hr hp (hx1 _ hC)))
    exact ⟨rfl, rfl, trivial⟩
theorem cg_415_12 (hd : 2 ≤ d) (hS : mz_ext S 342) (hR : mz_rok R 342)  (v1 : Int32) (N : mz_N) {C0 : (mz_N) → Prop} (hr : ∀ (N2 : mz_N), C0 N2 → Q (.inl none) (mz_k S R N2 b t)) (hp : cp_415_12 v1 N) (hC : C0 (cf_415_12 v1 N)) : mz_G (d, mz_X0 L xs, none, [], mk_415, 2, Q) 12 mt_415_12 [(0, .ref 232), (1, .int v1)] [] false (mz_k S R N b t) := by
  obtain ⟨n, hn⟩ := hp
  exact g_loop (G := fun s => mz_G (d, mz_X0 L xs, none, [], mk_415, 2, Q) 12 mt_415_12 [(0, .ref 232), (1, .int s.1)] [] false (mz_k S R s.2 b t)) (C := C0) (fun C2 hc hx s hP hC => cb_415_12 hd hS hR  s hr hc hx hP hC) n (v1, N) hn hC
theorem cg_415_0 (hd : 2 ≤ d) (hS : mz_ext S 342) (hR : mz_rok R 342)  (N : mz_N) {C0 : (mz_N) → Prop} (hr : ∀ (N2 : mz_N), C0 N2 → Q (.inl none) (mz_k S R N2 b t)) (hp : cp_415_0 N) (hC : C0 (cf_415_0 N)) : mz_G (d, mz_X0 L xs, none, [], mk_415, 2, Q) 0 mk_415 [(0, .ref 232)] [] true (mz_k S R N b t) := by
  unfold cf_415_0 at hC
  unfold cp_415_0 at hp
  refine g_aload_n rfl (g_iconst mzi_0 ?_)
  obtain ⟨h1, hp⟩ := hp
  refine g_v2n (Nat.le_of_ble_eq_true rfl) (mz_at hS (Nat.le_of_ble_eq_true rfl) mzcS_232) (fun _ hq => cs_416 (Nat.le_trans (Nat.le_of_ble_eq_true rfl) hd) (hS.le (Nat.le_of_ble_eq_true rfl)) (hR.le (Nat.le_of_ble_eq_true rfl))  0 N h1 hq) (g_aload_n rfl (g_iconst mzi_0 (g_putI (mz_at hS (Nat.le_of_ble_eq_true rfl) mzcS_232) mzcf_12_4 (g_iconst mzi_0 (g_istore_n (Nat.le_of_ble_eq_true rfl) rfl ?_)))))
  refine g_weak ?_ (g_cl (cg_415_12 hd hS hR 0 (mz_pI (cf_416_0 0 N) 232 4 0) hr hp hC))
  exact ⟨rfl, rfl, trivial⟩
theorem cs_415 (hd : 3 ≤ d) (hS : mz_ext S 342) (hR : mz_rok R 342)  (N : mz_N) (hp : cp_415_0 N) (hq : Q (.inl none) (mz_k S R (cf_415_0 N) b t)) : mz_Ed (mz_X0 L xs) d 415 [.ref 232] (mz_k S R N b t) Q :=
  by
  refine g_in mzq_415 (Nat.le_of_ble_eq_true rfl) (Nat.le_of_ble_eq_true rfl) (Nat.le_trans (Nat.le_of_ble_eq_true rfl) hd) ?_
  refine g_weak ?_ (cg_415_0 (d := d - 1) (by omega) hS hR N (C0 := fun z => Q (.inl none) (mz_k S R z b t)) (fun _ h => h) hp hq)
  exact ⟨rfl, trivial⟩
/-! 420 KeptHouseModel.baseOf (I)I -/
theorem ms_420_0 : mz_sf mk_420 0 = mk_420 := mz_sf_zero _
theorem ms_420_78 : mz_sf mk_420 78 = mt_420_78 := mz_sf_add ms_420_0 (t := 78) rfl rfl
theorem ms_420_80 : mz_sf mk_420 80 = mt_420_80 := mz_sf_add ms_420_78 (t := 2) rfl rfl
theorem ms_420_83 : mz_sf mk_420 83 = mt_420_83 := mz_sf_add ms_420_80 (t := 3) rfl rfl
theorem ms_420_86 : mz_sf mk_420 86 = mt_420_86 := mz_sf_add ms_420_83 (t := 3) rfl rfl
theorem ms_420_89 : mz_sf mk_420 89 = mt_420_89 := mz_sf_add ms_420_86 (t := 3) rfl rfl
theorem ms_420_92 : mz_sf mk_420 92 = mt_420_92 := mz_sf_add ms_420_89 (t := 3) rfl rfl
theorem ms_420_95 : mz_sf mk_420 95 = mt_420_95 := mz_sf_add ms_420_92 (t := 3) rfl rfl
theorem ms_420_98 : mz_sf mk_420 98 = mt_420_98 := mz_sf_add ms_420_95 (t := 3) rfl rfl
theorem ms_420_101 : mz_sf mk_420 101 = mt_420_101 := mz_sf_add ms_420_98 (t := 3) rfl rfl
theorem ms_420_104 : mz_sf mk_420 104 = mt_420_104 := mz_sf_add ms_420_101 (t := 3) rfl rfl
theorem ms_420_107 : mz_sf mk_420 107 = mt_420_107 := mz_sf_add ms_420_104 (t := 3) rfl rfl
theorem ms_420_110 : mz_sf mk_420 110 = mt_420_110 := mz_sf_add ms_420_107 (t := 3) rfl rfl
theorem ms_420_113 : mz_sf mk_420 113 = mt_420_113 := mz_sf_add ms_420_110 (t := 3) rfl rfl
theorem ms_420_116 : mz_sf mk_420 116 = mt_420_116 := mz_sf_add ms_420_113 (t := 3) rfl rfl
theorem ms_420_119 : mz_sf mk_420 119 = mt_420_119 := mz_sf_add ms_420_116 (t := 3) rfl rfl
set_option maxRecDepth 100000 in
theorem mzq_420 : mz_PG0 420 = some (12, ⟨"KeptHouseModel", "baseOf", "(I)I"⟩, prog_14_method_159_code, 1, some .int, [], mk_420, []) := rfl
theorem cg_420_0 (hd : 0 ≤ d) (hS : mz_ext S 342) (hR : mz_rok R 342)  (v0 : Int32) {C0 : (Int32) → Prop} (hr : ∀ (w : Int32), C0 w → Q (.inl (some (.int w))) (mz_k S R N b t)) (hp : cp_420_0 v0) (hC : C0 (cf_420_0 v0)) : mz_G (d, mz_X0 L xs, some .int, [], mk_420, 1, Q) 0 mk_420 [(0, .int v0)] [] true (mz_k S R N b t) := by
  unfold cf_420_0 at hC
  unfold cp_420_0 at hp
  refine g_iload_n rfl ?_
  refine mz_cs hC (fun h1 hC => ?_) (fun h1 hC => ?_)
  · refine g_brn (tg := 76) (by rw [h1]; rfl) (by decide) rfl ?_
    refine g_iconst mzi_0 ?_
    exact g_iret rfl (hr _ hC)
  · refine mz_cs hC (fun h2 hC => ?_) (fun h2 hC => ?_)
    · refine g_br (tg := 78) (by rw [h2]; rfl) ms_420_78 ?_
      refine g_iconst mzi_5 ?_
      exact g_iret rfl (hr _ hC)
    · refine mz_cs hC (fun h3 hC => ?_) (fun h3 hC => ?_)
      · refine g_br (tg := 80) (by rw [h3]; rfl) ms_420_80 ?_
        refine g_bipush mzb_10 ?_
        exact g_iret rfl (hr _ hC)
      · refine mz_cs hC (fun h4 hC => ?_) (fun h4 hC => ?_)
        · refine g_br (tg := 83) (by rw [h4]; rfl) ms_420_83 ?_
          refine g_bipush mzb_20 ?_
          exact g_iret rfl (hr _ hC)
        · refine mz_cs hC (fun h5 hC => ?_) (fun h5 hC => ?_)
          · refine g_br (tg := 86) (by rw [h5]; rfl) ms_420_86 ?_
            refine g_bipush mzb_22 ?_
            exact g_iret rfl (hr _ hC)
          · refine mz_cs hC (fun h6 hC => ?_) (fun h6 hC => ?_)
            · refine g_br (tg := 89) (by rw [h6]; rfl) ms_420_89 ?_
              refine g_bipush mzb_26 ?_
              exact g_iret rfl (hr _ hC)
            · refine mz_cs hC (fun h7 hC => ?_) (fun h7 hC => ?_)
              · refine g_br (tg := 92) (by rw [h7]; rfl) ms_420_92 ?_
                refine g_bipush mzb_34 ?_
                exact g_iret rfl (hr _ hC)
              · refine mz_cs hC (fun h8 hC => ?_) (fun h8 hC => ?_)
                · refine g_br (tg := 95) (by rw [h8]; rfl) ms_420_95 ?_
                  refine g_bipush mzb_36 ?_
                  exact g_iret rfl (hr _ hC)
                · refine mz_cs hC (fun h9 hC => ?_) (fun h9 hC => ?_)
                  · refine g_br (tg := 98) (by rw [h9]; rfl) ms_420_98 ?_
                    refine g_bipush mzb_46 ?_
                    exact g_iret rfl (hr _ hC)
                  · refine mz_cs hC (fun h10 hC => ?_) (fun h10 hC => ?_)
                    · refine g_br (tg := 101) (by rw [h10]; rfl) ms_420_101 ?_
                      refine g_bipush mzb_47 ?_
                      exact g_iret rfl (hr _ hC)
                    · refine mz_cs hC (fun h11 hC => ?_) (fun h11 hC => ?_)
                      · refine g_br (tg := 104) (by rw [h11]; rfl) ms_420_104 ?_
                        refine g_bipush mzb_48 ?_
                        exact g_iret rfl (hr _ hC)
                      · refine mz_cs hC (fun h12 hC => ?_) (fun h12 hC => ?_)
                        · refine g_br (tg := 107) (by rw [h12]; rfl) ms_420_107 ?_
                          refine g_bipush mzb_51 ?_
                          exact g_iret rfl (hr _ hC)
                        · refine mz_cs hC (fun h13 hC => ?_) (fun h13 hC => ?_)
                          · refine g_br (tg := 110) (by rw [h13]; rfl) ms_420_110 ?_
                            refine g_bipush mzb_67 ?_
                            exact g_iret rfl (hr _ hC)
                          · refine mz_cs hC (fun h14 hC => ?_) (fun h14 hC => ?_)
                            · refine g_br (tg := 113) (by rw [h14]; rfl) ms_420_113 ?_
                              refine g_bipush mzb_87 ?_
                              exact g_iret rfl (hr _ hC)
                            · refine mz_cs hC (fun h15 hC => ?_) (fun h15 hC => ?_)
                              · refine g_br (tg := 116) (by rw [h15]; rfl) ms_420_116 ?_
                                refine g_bipush mzb_127 ?_
                                exact g_iret rfl (hr _ hC)
                              · refine g_br (tg := 119) ((mz_tsw_d (l := [1, 2, 3, 4, 5, 6, 7, 8, 9, 10, 11, 12, 13, 14, 15]) (mz_rng 1 14) ⟨h1, h2, h3, h4, h5, h6, h7, h8, h9, h10, h11, h12, h13, h14, h15, trivial⟩).trans (mz_tg_t rfl)) ms_420_119 ?_
                                refine g_sipush mzs_135 ?_
                                exact g_iret rfl (hr _ hC)
theorem cs_420 (hd : 1 ≤ d) (hS : mz_ext S 342) (hR : mz_rok R 342)  (v0 : Int32) (hp : cp_420_0 v0) (hq : Q (.inl (some (.int (cf_420_0 v0)))) (mz_k S R N b t)) : mz_Ed (mz_X0 L xs) d 420 [.int v0] (mz_k S R N b t) Q :=
  by
  refine g_in mzq_420 (Nat.le_of_ble_eq_true rfl) (Nat.le_of_ble_eq_true rfl) (Nat.le_trans (Nat.le_of_ble_eq_true rfl) hd) ?_
  refine g_weak ?_ (cg_420_0 (d := d - 1) (by omega) hS hR v0 (C0 := fun z => Q (.inl (some (.int z))) (mz_k S R N b t)) (fun _ h => h) hp hq)
  exact ⟨rfl, trivial⟩
/-! 419 KeptHouseModel.kindOf (I)I -/
theorem ms_419_0 : mz_sf mk_419 0 = mk_419 := mz_sf_zero _
theorem ms_419_2 : mz_sf mk_419 2 = mt_419_2 := mz_sf_add ms_419_0 (t := 2) rfl rfl
theorem ms_419_18 : mz_sf mk_419 18 = mt_419_18 := mz_sf_add ms_419_2 (t := 16) rfl rfl
set_option maxRecDepth 100000 in
theorem mzq_419 : mz_PG0 419 = some (12, ⟨"KeptHouseModel", "kindOf", "(I)I"⟩, prog_14_method_161_code, 2, some .int, [], mk_419, []) := rfl
theorem cb_419_2 (hd : 1 ≤ d) (hS : mz_ext S 342) (hR : mz_rok R 342)  (v0 : Int32) (s : Int32) {C0 : (Int32) → Prop} (hr : ∀ (w : Int32), C0 w → Q (.inl (some (.int w))) (mz_k S R N b t)) {C1 : ((Int32) ⊕ (Int32)) → Prop} (hc1 : ∀ s2, C1 (.inl s2) → mz_G (d, mz_X0 L xs, some .int, [], mk_419, 2, Q) 2 mt_419_2 [(0, .int v0), (1, .int s2)] [] false (mz_k S R N b t)) (hx1 : ∀ z, C1 (.inr z) → C0 z) (hp : cd_419_2 v0 s) (hC : C1 (cq_419_2 v0 s)) : mz_G (d, mz_X0 L xs, some .int, [], mk_419, 2, Q) 2 mt_419_2 [(0, .int v0), (1, .int s)] [] false (mz_k S R N b t) := by
  unfold cq_419_2 at hC
  unfold cd_419_2 at hp
  refine g_iload_n rfl (g_iload_n rfl (g_iconst mzi_1 (g_iadd ?_)))
  refine g_s1v (Nat.le_of_ble_eq_true rfl) (fun _ hq => cs_420 (Nat.le_trans (Nat.le_of_ble_eq_true rfl) hd) (hS.le (Nat.le_of_ble_eq_true rfl)) (hR.le (Nat.le_of_ble_eq_true rfl))  (s + 1) trivial hq) ?_
  refine g_iclt (tg := 18) rfl ms_419_18 hC (fun h2 hC => ?_) (fun h2 hC => ?_)
  · refine g_iload_n rfl ?_
    exact g_iret rfl (hr _ (hx1 _ hC))
  · refine g_iinc rfl mzi_1 (Nat.le_of_ble_eq_true rfl) rfl (g_goto (tg := 2) rfl ms_419_2 ?_)
    refine g_weak ?_ (g_cl (hc1 ((s + 1)) hC))
    exact ⟨rfl, rfl, trivial⟩
theorem cg_419_2 (hd : 1 ≤ d) (hS : mz_ext S 342) (hR : mz_rok R 342)  (v0 : Int32) (v1 : Int32) {C0 : (Int32) → Prop} (hr : ∀ (w : Int32), C0 w → Q (.inl (some (.int w))) (mz_k S R N b t)) (hp : cp_419_2 v0 v1) (hC : C0 (cf_419_2 v0 v1)) : mz_G (d, mz_X0 L xs, some .int, [], mk_419, 2, Q) 2 mt_419_2 [(0, .int v0), (1, .int v1)] [] false (mz_k S R N b t) := by
  obtain ⟨n, hn⟩ := hp
  exact g_loop (G := fun s => mz_G (d, mz_X0 L xs, some .int, [], mk_419, 2, Q) 2 mt_419_2 [(0, .int v0), (1, .int s)] [] false (mz_k S R N b t)) (C := C0) (fun C2 hc hx s hP hC => cb_419_2 hd hS hR v0 s hr hc hx hP hC) n (v1) hn hC
theorem cg_419_0 (hd : 1 ≤ d) (hS : mz_ext S 342) (hR : mz_rok R 342)  (v0 : Int32) {C0 : (Int32) → Prop} (hr : ∀ (w : Int32), C0 w → Q (.inl (some (.int w))) (mz_k S R N b t)) (hp : cp_419_0 v0) (hC : C0 (cf_419_0 v0)) : mz_G (d, mz_X0 L xs, some .int, [], mk_419, 2, Q) 0 mk_419 [(0, .int v0)] [] true (mz_k S R N b t) := by
  unfold cf_419_0 at hC
  unfold cp_419_0 at hp
  refine g_iconst mzi_1 (g_istore_n (Nat.le_of_ble_eq_true rfl) rfl ?_)
  refine g_weak ?_ (g_cl (cg_419_2 hd hS hR v0 1 hr hp hC))
  exact ⟨rfl, rfl, trivial⟩
theorem cs_419 (hd : 2 ≤ d) (hS : mz_ext S 342) (hR : mz_rok R 342)  (v0 : Int32) (hp : cp_419_0 v0) (hq : Q (.inl (some (.int (cf_419_0 v0)))) (mz_k S R N b t)) : mz_Ed (mz_X0 L xs) d 419 [.int v0] (mz_k S R N b t) Q :=
  by
  refine g_in mzq_419 (Nat.le_of_ble_eq_true rfl) (Nat.le_of_ble_eq_true rfl) (Nat.le_trans (Nat.le_of_ble_eq_true rfl) hd) ?_
  refine g_weak ?_ (cg_419_0 (d := d - 1) (by omega) hS hR v0 (C0 := fun z => Q (.inl (some (.int z))) (mz_k S R N b t)) (fun _ h => h) hp hq)
  exact ⟨rfl, trivial⟩
/-! 422 KeptHouseModel.at (II)I -/
theorem ms_422_0 : mz_sf mk_422 0 = mk_422 := mz_sf_zero _
set_option maxRecDepth 100000 in
theorem mzq_422 : mz_PG0 422 = some (12, ⟨"KeptHouseModel", "at", "(II)I"⟩, prog_14_method_190_code, 3, some .int, [], mk_422, []) := rfl
theorem cg_422_0 (hd : 0 ≤ d) (hS : mz_ext S 342) (hR : mz_rok R 342)  (v1 : Int32) (v2 : Int32) (N : mz_N) {C0 : (Int32) → Prop} (hr : ∀ (w : Int32), C0 w → Q (.inl (some (.int w))) (mz_k S R N b t)) (hp : cp_422_0 v1 v2 N) (hC : C0 (cf_422_0 v1 v2 N)) : mz_G (d, mz_X0 L xs, some .int, [], mk_422, 3, Q) 0 mk_422 [(0, .ref 232), (1, .int v1), (2, .int v2)] [] true (mz_k S R N b t) := by
  unfold cf_422_0 at hC
  unfold cp_422_0 at hp
  refine g_aload_n rfl (g_getR (mz_at hS (Nat.le_of_ble_eq_true rfl) mzcS_232) mzcf_12_131 (mz_rb hR (Nat.le_of_ble_eq_true rfl) rfl mzcR_232_131) (g_iload_n rfl (g_iload_n rfl (g_iadd ?_))))
  have h1 := hp
  refine g_bald (mz_at hS (Nat.le_of_ble_eq_true rfl) mzcS_331) h1 (g_sipush mzs_255 (g_iand ?_))
  exact g_iret rfl (hr _ hC)
theorem cs_422 (hd : 1 ≤ d) (hS : mz_ext S 342) (hR : mz_rok R 342)  (v1 : Int32) (v2 : Int32) (N : mz_N) (hp : cp_422_0 v1 v2 N) (hq : Q (.inl (some (.int (cf_422_0 v1 v2 N)))) (mz_k S R N b t)) : mz_Ed (mz_X0 L xs) d 422 [.ref 232, .int v1, .int v2] (mz_k S R N b t) Q :=
  by
  refine g_in mzq_422 (Nat.le_of_ble_eq_true rfl) (Nat.le_of_ble_eq_true rfl) (Nat.le_trans (Nat.le_of_ble_eq_true rfl) hd) ?_
  refine g_weak ?_ (cg_422_0 (d := d - 1) (by omega) hS hR v1 v2 N (C0 := fun z => Q (.inl (some (.int z))) (mz_k S R N b t)) (fun _ h => h) hp hq)
  exact ⟨rfl, rfl, rfl, trivial⟩
/-! 423 KeptHouseModel.number ([BII)J -/
theorem ms_423_0 : mz_sf mk_423 0 = mk_423 := mz_sf_zero _
theorem ms_423_7 : mz_sf mk_423 7 = mt_423_7 := mz_sf_add ms_423_0 (t := 7) rfl rfl
theorem ms_423_29 : mz_sf mk_423 29 = mt_423_29 := mz_sf_add ms_423_7 (t := 22) rfl rfl
theorem ms_423_35 : mz_sf mk_423 35 = mt_423_35 := mz_sf_add ms_423_29 (t := 6) rfl rfl
set_option maxRecDepth 100000 in
theorem mzq_423 : mz_PG0 423 = some (12, ⟨"KeptHouseModel", "number", "([BII)J"⟩, prog_14_method_169_code, 6, some .long, [], mk_423, []) := rfl
theorem cb_423_7 (hd : 0 ≤ d) (hS : mz_ext S 342) (hR : mz_rok R 342) (a0 : Nat) (n0 : Nat) (hs0 : S[a0]? = some (2, n0, [])) (v1 : Int32) (N : mz_N) (s : Int64 × Int32) {C0 : (Int64) → Prop} (hr : ∀ (w : Int64), C0 w → Q (.inl (some (.long w))) (mz_k S R N b t)) {C1 : ((Int64 × Int32) ⊕ (Int64)) → Prop} (hc1 : ∀ s2, C1 (.inl s2) → mz_G (d, mz_X0 L xs, some .long, [], mk_423, 6, Q) 7 mt_423_7 [(0, .ref a0), (1, .int v1), (3, .long s2.1), (5, .int s2.2)] [] false (mz_k S R N b t)) (hx1 : ∀ z, C1 (.inr z) → C0 z) (hp : cd_423_7 a0 n0 v1 N s) (hC : C1 (cq_423_7 a0 n0 v1 N s)) : mz_G (d, mz_X0 L xs, some .long, [], mk_423, 6, Q) 7 mt_423_7 [(0, .ref a0), (1, .int v1), (3, .long s.1), (5, .int s.2)] [] false (mz_k S R N b t) := by
  unfold cq_423_7 at hC
  unfold cd_423_7 at hp
  refine g_iload rfl ?_
  refine g_iflt (tg := 35) rfl ms_423_35 hC (fun h1 hC => ?_) (fun h1 hC => ?_)
  · have hp := hp.1 h1
    refine g_lload_n rfl ?_
    exact g_lret rfl (hr _ (hx1 _ hC))
  · have hp := hp.2 h1
    refine g_lload_n rfl (g_bipush mzb_8 (g_lshl (g_aload_n rfl (g_iload_n rfl (g_iload rfl (g_iadd ?_))))))
    have h2 := hp
    refine g_bald hs0 h2 (g_i2l (g_con3 (g_land (g_lor (g_lstore_n (Nat.le_of_ble_eq_true rfl) rfl rfl (g_iinc rfl mzi_m1 (Nat.le_of_ble_eq_true rfl) rfl (g_goto (tg := 7) rfl ms_423_7 ?_)))))))
    refine g_weak ?_ (g_cl (hc1 (((mz_lshl s.1 8) ||| (((mz_gI N a0 (v1 + s.2)).toInt64) &&& 255)), (s.2 + (-1))) hC))
    exact ⟨rfl, rfl, rfl, rfl, trivial⟩
theorem cg_423_7 (hd : 0 ≤ d) (hS : mz_ext S 342) (hR : mz_rok R 342) (a0 : Nat) (n0 : Nat) (hs0 : S[a0]? = some (2, n0, [])) (v1 : Int32) (v3 : Int64) (v5 : Int32) (N : mz_N) {C0 : (Int64) → Prop} (hr : ∀ (w : Int64), C0 w → Q (.inl (some (.long w))) (mz_k S R N b t)) (hp : cp_423_7 a0 n0 v1 v3 v5 N) (hC : C0 (cf_423_7 a0 n0 v1 v3 v5 N)) : mz_G (d, mz_X0 L xs, some .long, [], mk_423, 6, Q) 7 mt_423_7 [(0, .ref a0), (1, .int v1), (3, .long v3), (5, .int v5)] [] false (mz_k S R N b t) := by
  obtain ⟨n, hn⟩ := hp
  exact g_loop (G := fun s => mz_G (d, mz_X0 L xs, some .long, [], mk_423, 6, Q) 7 mt_423_7 [(0, .ref a0), (1, .int v1), (3, .long s.1), (5, .int s.2)] [] false (mz_k S R N b t)) (C := C0) (fun C2 hc hx s hP hC => cb_423_7 hd hS hR a0 n0 hs0 v1 N s hr hc hx hP hC) n (v3, v5) hn hC
theorem cg_423_0 (hd : 0 ≤ d) (hS : mz_ext S 342) (hR : mz_rok R 342) (a0 : Nat) (n0 : Nat) (hs0 : S[a0]? = some (2, n0, [])) (v1 : Int32) (v2 : Int32) (N : mz_N) {C0 : (Int64) → Prop} (hr : ∀ (w : Int64), C0 w → Q (.inl (some (.long w))) (mz_k S R N b t)) (hp : cp_423_0 a0 n0 v1 v2 N) (hC : C0 (cf_423_0 a0 n0 v1 v2 N)) : mz_G (d, mz_X0 L xs, some .long, [], mk_423, 6, Q) 0 mk_423 [(0, .ref a0), (1, .int v1), (2, .int v2)] [] true (mz_k S R N b t) := by
  unfold cf_423_0 at hC
  unfold cp_423_0 at hp
  refine g_lconst mzl_0 (g_lstore_n (Nat.le_of_ble_eq_true rfl) rfl rfl (g_iload_n rfl (g_iconst mzi_1 (g_isub (g_istore (Nat.le_of_ble_eq_true rfl) rfl ?_)))))
  refine g_weak ?_ (g_cl (cg_423_7 hd hS hR a0 n0 hs0 v1 0 (v2 - 1) N hr hp hC))
  exact ⟨rfl, rfl, rfl, rfl, trivial⟩
theorem cs_423 (hd : 1 ≤ d) (hS : mz_ext S 342) (hR : mz_rok R 342) (a0 : Nat) (n0 : Nat) (hs0 : S[a0]? = some (2, n0, [])) (v1 : Int32) (v2 : Int32) (N : mz_N) (hp : cp_423_0 a0 n0 v1 v2 N) (hq : Q (.inl (some (.long (cf_423_0 a0 n0 v1 v2 N)))) (mz_k S R N b t)) : mz_Ed (mz_X0 L xs) d 423 [.ref a0, .int v1, .int v2] (mz_k S R N b t) Q :=
  by
  refine g_in mzq_423 (Nat.le_of_ble_eq_true rfl) (Nat.le_of_ble_eq_true rfl) (Nat.le_trans (Nat.le_of_ble_eq_true rfl) hd) ?_
  refine g_weak ?_ (cg_423_0 (d := d - 1) (by omega) hS hR a0 n0 hs0 v1 v2 N (C0 := fun z => Q (.inl (some (.long z))) (mz_k S R N b t)) (fun _ h => h) hp hq)
  exact ⟨rfl, rfl, rfl, trivial⟩
/-! 425 KeptHouseModel.small (II)I -/
theorem ms_425_0 : mz_sf mk_425 0 = mk_425 := mz_sf_zero _
set_option maxRecDepth 100000 in
theorem mzq_425 : mz_PG0 425 = some (12, ⟨"KeptHouseModel", "small", "(II)I"⟩, prog_14_method_191_code, 3, some .int, [], mk_425, []) := rfl
theorem cg_425_0 (hd : 1 ≤ d) (hS : mz_ext S 342) (hR : mz_rok R 342)  (v1 : Int32) (v2 : Int32) (N : mz_N) {C0 : (Int32) → Prop} (hr : ∀ (w : Int32), C0 w → Q (.inl (some (.int w))) (mz_k S R N b t)) (hp : cp_425_0 v1 v2 N) (hC : C0 (cf_425_0 v1 v2 N)) : mz_G (d, mz_X0 L xs, some .int, [], mk_425, 3, Q) 0 mk_425 [(0, .ref 232), (1, .int v1), (2, .int v2)] [] true (mz_k S R N b t) := by
  unfold cf_425_0 at hC
  unfold cp_425_0 at hp
  refine g_aload_n rfl (g_getR (mz_at hS (Nat.le_of_ble_eq_true rfl) mzcS_232) mzcf_12_131 (mz_rb hR (Nat.le_of_ble_eq_true rfl) rfl mzcR_232_131) (g_iload_n rfl (g_iload_n rfl (g_iadd (g_iconst mzi_4 ?_)))))
  have h1 := hp
  refine g_s3v (Nat.le_of_ble_eq_true rfl) (fun _ hq => cs_423 (Nat.le_trans (Nat.le_of_ble_eq_true rfl) hd) (hS.le (Nat.le_of_ble_eq_true rfl)) (hR.le (Nat.le_of_ble_eq_true rfl)) 331 3780 (mz_at hS (Nat.le_of_ble_eq_true rfl) mzcS_331) (v1 + v2) 4 N h1 hq) (g_l2i ?_)
  exact g_iret rfl (hr _ hC)
theorem cs_425 (hd : 2 ≤ d) (hS : mz_ext S 342) (hR : mz_rok R 342)  (v1 : Int32) (v2 : Int32) (N : mz_N) (hp : cp_425_0 v1 v2 N) (hq : Q (.inl (some (.int (cf_425_0 v1 v2 N)))) (mz_k S R N b t)) : mz_Ed (mz_X0 L xs) d 425 [.ref 232, .int v1, .int v2] (mz_k S R N b t) Q :=
  by
  refine g_in mzq_425 (Nat.le_of_ble_eq_true rfl) (Nat.le_of_ble_eq_true rfl) (Nat.le_trans (Nat.le_of_ble_eq_true rfl) hd) ?_
  refine g_weak ?_ (cg_425_0 (d := d - 1) (by omega) hS hR v1 v2 N (C0 := fun z => Q (.inl (some (.int z))) (mz_k S R N b t)) (fun _ h => h) hp hq)
  exact ⟨rfl, rfl, rfl, trivial⟩
/-! 424 KeptHouseModel.readMore (III)V -/
theorem ms_424_0 : mz_sf mk_424 0 = mk_424 := mz_sf_zero _
theorem ms_424_79 : mz_sf mk_424 79 = mt_424_79 := mz_sf_add ms_424_0 (t := 79) rfl rfl
theorem ms_424_107 : mz_sf mk_424 107 = mt_424_107 := mz_sf_add ms_424_79 (t := 28) rfl rfl
theorem ms_424_124 : mz_sf mk_424 124 = mt_424_124 := mz_sf_add ms_424_107 (t := 17) rfl rfl
theorem ms_424_151 : mz_sf mk_424 151 = mt_424_151 := mz_sf_add ms_424_124 (t := 27) rfl rfl
theorem ms_424_180 : mz_sf mk_424 180 = mt_424_180 := mz_sf_add ms_424_151 (t := 29) rfl rfl
theorem ms_424_195 : mz_sf mk_424 195 = mt_424_195 := mz_sf_add ms_424_180 (t := 15) rfl rfl
theorem ms_424_223 : mz_sf mk_424 223 = mt_424_223 := mz_sf_add ms_424_195 (t := 28) rfl rfl
theorem ms_424_237 : mz_sf mk_424 237 = mt_424_237 := mz_sf_add ms_424_223 (t := 14) rfl rfl
theorem ms_424_262 : mz_sf mk_424 262 = mt_424_262 := mz_sf_add ms_424_237 (t := 25) rfl rfl
theorem ms_424_268 : mz_sf mk_424 268 = mt_424_268 := mz_sf_add ms_424_262 (t := 6) rfl rfl
theorem ms_424_271 : mz_sf mk_424 271 = mt_424_271 := mz_sf_add ms_424_268 (t := 3) rfl rfl
theorem ms_424_296 : mz_sf mk_424 296 = mt_424_296 := mz_sf_add ms_424_271 (t := 25) rfl rfl
theorem ms_424_329 : mz_sf mk_424 329 = mt_424_329 := mz_sf_add ms_424_296 (t := 33) rfl rfl
theorem ms_424_330 : mz_sf mk_424 330 = mt_424_330 := mz_sf_add ms_424_329 (t := 1) rfl rfl
theorem ms_424_334 : mz_sf mk_424 334 = mt_424_334 := mz_sf_add ms_424_330 (t := 4) rfl rfl
theorem ms_424_353 : mz_sf mk_424 353 = mt_424_353 := mz_sf_add ms_424_334 (t := 19) rfl rfl
theorem ms_424_354 : mz_sf mk_424 354 = mt_424_354 := mz_sf_add ms_424_353 (t := 1) rfl rfl
theorem ms_424_379 : mz_sf mk_424 379 = mt_424_379 := mz_sf_add ms_424_354 (t := 25) rfl rfl
theorem ms_424_404 : mz_sf mk_424 404 = mt_424_404 := mz_sf_add ms_424_379 (t := 25) rfl rfl
theorem ms_424_425 : mz_sf mk_424 425 = mt_424_425 := mz_sf_add ms_424_404 (t := 21) rfl rfl
theorem ms_424_428 : mz_sf mk_424 428 = mt_424_428 := mz_sf_add ms_424_425 (t := 3) rfl rfl
theorem ms_424_447 : mz_sf mk_424 447 = mt_424_447 := mz_sf_add ms_424_428 (t := 19) rfl rfl
theorem ms_424_462 : mz_sf mk_424 462 = mt_424_462 := mz_sf_add ms_424_447 (t := 15) rfl rfl
theorem ms_424_481 : mz_sf mk_424 481 = mt_424_481 := mz_sf_add ms_424_462 (t := 19) rfl rfl
theorem ms_424_512 : mz_sf mk_424 512 = mt_424_512 := mz_sf_add ms_424_481 (t := 31) rfl rfl
theorem ms_424_513 : mz_sf mk_424 513 = mt_424_513 := mz_sf_add ms_424_512 (t := 1) rfl rfl
theorem ms_424_529 : mz_sf mk_424 529 = mt_424_529 := mz_sf_add ms_424_513 (t := 16) rfl rfl
theorem ms_424_548 : mz_sf mk_424 548 = mt_424_548 := mz_sf_add ms_424_529 (t := 19) rfl rfl
theorem ms_424_560 : mz_sf mk_424 560 = mt_424_560 := mz_sf_add ms_424_548 (t := 12) rfl rfl
set_option maxRecDepth 100000 in
theorem mzq_424 : mz_PG0 424 = some (12, ⟨"KeptHouseModel", "readMore", "(III)V"⟩, prog_14_method_193_code, 5, none, [], mk_424, []) := rfl
theorem cg_424_560 (hd : 2 ≤ d) (hS : mz_ext S 342) (hR : mz_rok R 342)  (N : mz_N) {C0 : (mz_N) → Prop} (hr : ∀ (N2 : mz_N), C0 N2 → Q (.inl none) (mz_k S R N2 b t)) (hp : cp_424_560 N) (hC : C0 (cf_424_560 N)) : mz_G (d, mz_X0 L xs, none, [], mk_424, 5, Q) 560 mt_424_560 [] [] false (mz_k S R N b t) := by
  unfold cf_424_560 at hC
  unfold cp_424_560 at hp
  exact g_vret rfl (hr _ hC)
theorem cg_424_513 (hd : 2 ≤ d) (hS : mz_ext S 342) (hR : mz_rok R 342)  (s1 : Int32) (s2 : Bool) (v2 : Int32) (v3 : Int32) (N : mz_N) {C0 : (mz_N) → Prop} (hr : ∀ (N2 : mz_N), C0 N2 → Q (.inl none) (mz_k S R N2 b t)) (hp : cp_424_513 s1 s2 v2 v3 N) (hC : C0 (cf_424_513 s1 s2 v2 v3 N)) : mz_G (d, mz_X0 L xs, none, [], mk_424, 5, Q) 513 mt_424_513 [(0, .ref 232), (2, .int v2), (3, .int v3)] [.int (mz_b01 s2), .int s1, .ref 315] false (mz_k S R N b t) := by
  unfold cf_424_513 at hC
  unfold cp_424_513 at hp
  obtain ⟨h1, hp⟩ := hp
  refine g_zast (z := s2) (mz_at hS (Nat.le_of_ble_eq_true rfl) mzcS_315) h1 (g_aload_n rfl (g_getR (mz_at hS (Nat.le_of_ble_eq_true rfl) mzcS_232) mzcf_12_107 (mz_rb hR (Nat.le_of_ble_eq_true rfl) rfl mzcR_232_107) (g_iload_n rfl (g_aload_n rfl (g_iload_n rfl (g_iconst mzi_4 ?_))))))
  obtain ⟨h2, hp⟩ := hp
  refine g_v3v (Nat.le_of_ble_eq_true rfl) (mz_at hS (Nat.le_of_ble_eq_true rfl) mzcS_232) (fun _ hq => cs_425 (Nat.le_trans (Nat.le_of_ble_eq_true rfl) hd) (hS.le (Nat.le_of_ble_eq_true rfl)) (hR.le (Nat.le_of_ble_eq_true rfl))  v3 4 (mz_wI N 315 s1 (mz_b01 s2)) h2 hq) ?_
  obtain ⟨h3, hp⟩ := hp
  refine g_iast (mz_at hS (Nat.le_of_ble_eq_true rfl) mzcS_312) h3 (g_goto (tg := 560) rfl ms_424_560 ?_)
  refine g_weak ?_ (g_cl (cg_424_560 hd hS hR (mz_wI (mz_wI N 315 s1 (mz_b01 s2)) 312 v2 (cf_425_0 v3 4 (mz_wI N 315 s1 (mz_b01 s2)))) hr hp hC))
  exact trivial
theorem cg_424_481 (hd : 2 ≤ d) (hS : mz_ext S 342) (hR : mz_rok R 342)  (v2 : Int32) (v3 : Int32) (N : mz_N) {C0 : (mz_N) → Prop} (hr : ∀ (N2 : mz_N), C0 N2 → Q (.inl none) (mz_k S R N2 b t)) (hp : cp_424_481 v2 v3 N) (hC : C0 (cf_424_481 v2 v3 N)) : mz_G (d, mz_X0 L xs, none, [], mk_424, 5, Q) 481 mt_424_481 [(0, .ref 232), (2, .int v2), (3, .int v3)] [] false (mz_k S R N b t) := by
  unfold cf_424_481 at hC
  unfold cp_424_481 at hp
  refine g_aload_n rfl (g_getR (mz_at hS (Nat.le_of_ble_eq_true rfl) mzcS_232) mzcf_12_109 (mz_rb hR (Nat.le_of_ble_eq_true rfl) rfl mzcR_232_109) (g_iload_n rfl (g_aload_n rfl (g_iload_n rfl (g_iconst mzi_2 ?_)))))
  obtain ⟨h1, hp⟩ := hp
  refine g_v3v (Nat.le_of_ble_eq_true rfl) (mz_at hS (Nat.le_of_ble_eq_true rfl) mzcS_232) (fun _ hq => cs_422 (Nat.le_trans (Nat.le_of_ble_eq_true rfl) hd) (hS.le (Nat.le_of_ble_eq_true rfl)) (hR.le (Nat.le_of_ble_eq_true rfl))  v3 2 N h1 hq) ?_
  obtain ⟨h2, hp⟩ := hp
  refine g_iast (mz_at hS (Nat.le_of_ble_eq_true rfl) mzcS_314) h2 (g_aload_n rfl (g_getR (mz_at hS (Nat.le_of_ble_eq_true rfl) mzcS_232) mzcf_12_110 (mz_rb hR (Nat.le_of_ble_eq_true rfl) rfl mzcR_232_110) (g_iload_n rfl (g_aload_n rfl (g_iload_n rfl (g_iconst mzi_3 ?_))))))
  obtain ⟨h3, hp⟩ := hp
  refine g_v3v (Nat.le_of_ble_eq_true rfl) (mz_at hS (Nat.le_of_ble_eq_true rfl) mzcS_232) (fun _ hq => cs_422 (Nat.le_trans (Nat.le_of_ble_eq_true rfl) hd) (hS.le (Nat.le_of_ble_eq_true rfl)) (hR.le (Nat.le_of_ble_eq_true rfl))  v3 3 (mz_wI N 314 v2 (cf_422_0 v3 2 N)) h3 hq) (g_iconst mzi_1 ?_)
  refine g_icne (tg := 512) rfl ms_424_512 hC (fun h4 hC => ?_) (fun h4 hC => ?_)
  · have hp := hp.1 h4
    refine g_iconst mzi_1 (g_goto (tg := 513) rfl ms_424_513 ?_)
    refine g_weak ?_ (g_cl (cg_424_513 hd hS hR v2 true v2 v3 (mz_wI N 314 v2 (cf_422_0 v3 2 N)) hr hp hC))
    exact ⟨rfl, rfl, rfl, trivial⟩
  · have hp := hp.2 h4
    refine g_iconst mzi_0 ?_
    refine g_weak ?_ (g_cl (cg_424_513 hd hS hR v2 false v2 v3 (mz_wI N 314 v2 (cf_422_0 v3 2 N)) hr hp hC))
    exact ⟨rfl, rfl, rfl, trivial⟩
theorem cg_424_404 (hd : 2 ≤ d) (hS : mz_ext S 342) (hR : mz_rok R 342)  (v2 : Int32) (v3 : Int32) (N : mz_N) {C0 : (mz_N) → Prop} (hr : ∀ (N2 : mz_N), C0 N2 → Q (.inl none) (mz_k S R N2 b t)) (hp : cp_424_404 v2 v3 N) (hC : C0 (cf_424_404 v2 v3 N)) : mz_G (d, mz_X0 L xs, none, [], mk_424, 5, Q) 404 mt_424_404 [(0, .ref 232), (2, .int v2), (3, .int v3)] [] false (mz_k S R N b t) := by
  unfold cf_424_404 at hC
  unfold cp_424_404 at hp
  refine g_aload_n rfl (g_getR (mz_at hS (Nat.le_of_ble_eq_true rfl) mzcS_232) mzcf_12_85 (mz_rb hR (Nat.le_of_ble_eq_true rfl) rfl mzcR_232_85) (g_iload_n rfl (g_aload_n rfl (g_iload_n rfl (g_bipush mzb_8 ?_)))))
  obtain ⟨h1, hp⟩ := hp
  refine g_v3v (Nat.le_of_ble_eq_true rfl) (mz_at hS (Nat.le_of_ble_eq_true rfl) mzcS_232) (fun _ hq => cs_425 (Nat.le_trans (Nat.le_of_ble_eq_true rfl) hd) (hS.le (Nat.le_of_ble_eq_true rfl)) (hR.le (Nat.le_of_ble_eq_true rfl))  v3 8 N h1 hq) (g_i2l ?_)
  obtain ⟨h2, hp⟩ := hp
  refine g_last (mz_at hS (Nat.le_of_ble_eq_true rfl) mzcS_292) h2 (g_aload_n rfl (g_getR (mz_at hS (Nat.le_of_ble_eq_true rfl) mzcS_232) mzcf_12_86 (mz_rb hR (Nat.le_of_ble_eq_true rfl) rfl mzcR_232_86) (g_iload_n rfl (g_iconst mzi_m1 ?_))))
  have h3 := hp
  refine g_iast (mz_at hS (Nat.le_of_ble_eq_true rfl) mzcS_293) h3 (g_goto (tg := 560) rfl ms_424_560 ?_)
  exact g_vret rfl (hr _ hC)
theorem cg_424_379 (hd : 2 ≤ d) (hS : mz_ext S 342) (hR : mz_rok R 342)  (v2 : Int32) (v3 : Int32) (N : mz_N) {C0 : (mz_N) → Prop} (hr : ∀ (N2 : mz_N), C0 N2 → Q (.inl none) (mz_k S R N2 b t)) (hp : cp_424_379 v2 v3 N) (hC : C0 (cf_424_379 v2 v3 N)) : mz_G (d, mz_X0 L xs, none, [], mk_424, 5, Q) 379 mt_424_379 [(0, .ref 232), (2, .int v2), (3, .int v3)] [] false (mz_k S R N b t) := by
  unfold cf_424_379 at hC
  unfold cp_424_379 at hp
  refine g_aload_n rfl (g_getR (mz_at hS (Nat.le_of_ble_eq_true rfl) mzcS_232) mzcf_12_83 (mz_rb hR (Nat.le_of_ble_eq_true rfl) rfl mzcR_232_83) (g_iload_n rfl (g_aload_n rfl (g_iload_n rfl (g_iconst mzi_3 ?_)))))
  obtain ⟨h1, hp⟩ := hp
  refine g_v3v (Nat.le_of_ble_eq_true rfl) (mz_at hS (Nat.le_of_ble_eq_true rfl) mzcS_232) (fun _ hq => cs_422 (Nat.le_trans (Nat.le_of_ble_eq_true rfl) hd) (hS.le (Nat.le_of_ble_eq_true rfl)) (hR.le (Nat.le_of_ble_eq_true rfl))  v3 3 N h1 hq) ?_
  obtain ⟨h2, hp⟩ := hp
  refine g_iast (mz_at hS (Nat.le_of_ble_eq_true rfl) mzcS_290) h2 (g_aload_n rfl (g_getR (mz_at hS (Nat.le_of_ble_eq_true rfl) mzcS_232) mzcf_12_84 (mz_rb hR (Nat.le_of_ble_eq_true rfl) rfl mzcR_232_84) (g_iload_n rfl (g_aload_n rfl (g_iload_n rfl (g_iconst mzi_4 ?_))))))
  obtain ⟨h3, hp⟩ := hp
  refine g_v3v (Nat.le_of_ble_eq_true rfl) (mz_at hS (Nat.le_of_ble_eq_true rfl) mzcS_232) (fun _ hq => cs_425 (Nat.le_trans (Nat.le_of_ble_eq_true rfl) hd) (hS.le (Nat.le_of_ble_eq_true rfl)) (hR.le (Nat.le_of_ble_eq_true rfl))  v3 4 (mz_wI N 290 v2 (cf_422_0 v3 3 N)) h3 hq) (g_i2l ?_)
  obtain ⟨h4, hp⟩ := hp
  refine g_last (mz_at hS (Nat.le_of_ble_eq_true rfl) mzcS_291) h4 ?_
  refine g_weak ?_ (g_cl (cg_424_404 hd hS hR v2 v3 (mz_wL (mz_wI N 290 v2 (cf_422_0 v3 3 N)) 291 v2 ((cf_425_0 v3 4 (mz_wI N 290 v2 (cf_422_0 v3 3 N))).toInt64)) hr hp hC))
  exact ⟨rfl, rfl, rfl, trivial⟩
theorem cg_424_354 (hd : 2 ≤ d) (hS : mz_ext S 342) (hR : mz_rok R 342)  (s1 : Int32) (s2 : Bool) (v2 : Int32) (v3 : Int32) (N : mz_N) {C0 : (mz_N) → Prop} (hr : ∀ (N2 : mz_N), C0 N2 → Q (.inl none) (mz_k S R N2 b t)) (hp : cp_424_354 s1 s2 v2 v3 N) (hC : C0 (cf_424_354 s1 s2 v2 v3 N)) : mz_G (d, mz_X0 L xs, none, [], mk_424, 5, Q) 354 mt_424_354 [(0, .ref 232), (2, .int v2), (3, .int v3)] [.int (mz_b01 s2), .int s1, .ref 287] false (mz_k S R N b t) := by
  unfold cf_424_354 at hC
  unfold cp_424_354 at hp
  obtain ⟨h1, hp⟩ := hp
  refine g_zast (z := s2) (mz_at hS (Nat.le_of_ble_eq_true rfl) mzcS_287) h1 (g_aload_n rfl (g_getR (mz_at hS (Nat.le_of_ble_eq_true rfl) mzcS_232) mzcf_12_81 (mz_rb hR (Nat.le_of_ble_eq_true rfl) rfl mzcR_232_81) (g_iload_n rfl (g_aload_n rfl (g_iload_n rfl (g_iconst mzi_1 ?_))))))
  obtain ⟨h2, hp⟩ := hp
  refine g_v3v (Nat.le_of_ble_eq_true rfl) (mz_at hS (Nat.le_of_ble_eq_true rfl) mzcS_232) (fun _ hq => cs_422 (Nat.le_trans (Nat.le_of_ble_eq_true rfl) hd) (hS.le (Nat.le_of_ble_eq_true rfl)) (hR.le (Nat.le_of_ble_eq_true rfl))  v3 1 (mz_wI N 287 s1 (mz_b01 s2)) h2 hq) ?_
  obtain ⟨h3, hp⟩ := hp
  refine g_iast (mz_at hS (Nat.le_of_ble_eq_true rfl) mzcS_288) h3 (g_aload_n rfl (g_getR (mz_at hS (Nat.le_of_ble_eq_true rfl) mzcS_232) mzcf_12_82 (mz_rb hR (Nat.le_of_ble_eq_true rfl) rfl mzcR_232_82) (g_iload_n rfl (g_aload_n rfl (g_iload_n rfl (g_iconst mzi_2 ?_))))))
  obtain ⟨h4, hp⟩ := hp
  refine g_v3v (Nat.le_of_ble_eq_true rfl) (mz_at hS (Nat.le_of_ble_eq_true rfl) mzcS_232) (fun _ hq => cs_422 (Nat.le_trans (Nat.le_of_ble_eq_true rfl) hd) (hS.le (Nat.le_of_ble_eq_true rfl)) (hR.le (Nat.le_of_ble_eq_true rfl))  v3 2 (mz_wI (mz_wI N 287 s1 (mz_b01 s2)) 288 v2 (cf_422_0 v3 1 (mz_wI N 287 s1 (mz_b01 s2)))) h4 hq) ?_
  obtain ⟨h5, hp⟩ := hp
  refine g_iast (mz_at hS (Nat.le_of_ble_eq_true rfl) mzcS_289) h5 ?_
  refine g_weak ?_ (g_cl (cg_424_379 hd hS hR v2 v3 (mz_wI (mz_wI (mz_wI N 287 s1 (mz_b01 s2)) 288 v2 (cf_422_0 v3 1 (mz_wI N 287 s1 (mz_b01 s2)))) 289 v2 (cf_422_0 v3 2 (mz_wI (mz_wI N 287 s1 (mz_b01 s2)) 288 v2 (cf_422_0 v3 1 (mz_wI N 287 s1 (mz_b01 s2)))))) hr hp hC))
  exact ⟨rfl, rfl, rfl, trivial⟩
theorem cg_424_548 (hd : 2 ≤ d) (hS : mz_ext S 342) (hR : mz_rok R 342)  (v2 : Int32) (v3 : Int32) (N : mz_N) {C0 : (mz_N) → Prop} (hr : ∀ (N2 : mz_N), C0 N2 → Q (.inl none) (mz_k S R N2 b t)) (hp : cp_424_548 v2 v3 N) (hC : C0 (cf_424_548 v2 v3 N)) : mz_G (d, mz_X0 L xs, none, [], mk_424, 5, Q) 548 mt_424_548 [(0, .ref 232), (2, .int v2), (3, .int v3)] [] false (mz_k S R N b t) := by
  unfold cf_424_548 at hC
  unfold cp_424_548 at hp
  refine g_aload_n rfl (g_getR (mz_at hS (Nat.le_of_ble_eq_true rfl) mzcS_232) mzcf_12_77 (mz_rb hR (Nat.le_of_ble_eq_true rfl) rfl mzcR_232_77) (g_iload_n rfl (g_aload_n rfl (g_iload_n rfl (g_iconst mzi_2 ?_)))))
  obtain ⟨h1, hp⟩ := hp
  refine g_v3v (Nat.le_of_ble_eq_true rfl) (mz_at hS (Nat.le_of_ble_eq_true rfl) mzcS_232) (fun _ hq => cs_422 (Nat.le_trans (Nat.le_of_ble_eq_true rfl) hd) (hS.le (Nat.le_of_ble_eq_true rfl)) (hR.le (Nat.le_of_ble_eq_true rfl))  v3 2 N h1 hq) ?_
  obtain ⟨h2, hp⟩ := hp
  refine g_iast (mz_at hS (Nat.le_of_ble_eq_true rfl) mzcS_284) h2 ?_
  refine g_weak ?_ (g_cl (cg_424_560 hd hS hR (mz_wI N 284 v2 (cf_422_0 v3 2 N)) hr hp hC))
  exact trivial
theorem cg_424_330 (hd : 2 ≤ d) (hS : mz_ext S 342) (hR : mz_rok R 342)  (s1 : Int32) (s2 : Bool) (N : mz_N) {C0 : (mz_N) → Prop} (hr : ∀ (N2 : mz_N), C0 N2 → Q (.inl none) (mz_k S R N2 b t)) (hp : cp_424_330 s1 s2 N) (hC : C0 (cf_424_330 s1 s2 N)) : mz_G (d, mz_X0 L xs, none, [], mk_424, 5, Q) 330 mt_424_330 [] [.int (mz_b01 s2), .int s1, .ref 307] false (mz_k S R N b t) := by
  unfold cf_424_330 at hC
  unfold cp_424_330 at hp
  have h1 := hp
  refine g_zast (z := s2) (mz_at hS (Nat.le_of_ble_eq_true rfl) mzcS_307) h1 (g_goto (tg := 560) rfl ms_424_560 ?_)
  exact g_vret rfl (hr _ hC)
theorem cg_424_296 (hd : 2 ≤ d) (hS : mz_ext S 342) (hR : mz_rok R 342)  (v2 : Int32) (v3 : Int32) (N : mz_N) {C0 : (mz_N) → Prop} (hr : ∀ (N2 : mz_N), C0 N2 → Q (.inl none) (mz_k S R N2 b t)) (hp : cp_424_296 v2 v3 N) (hC : C0 (cf_424_296 v2 v3 N)) : mz_G (d, mz_X0 L xs, none, [], mk_424, 5, Q) 296 mt_424_296 [(0, .ref 232), (2, .int v2), (3, .int v3)] [] false (mz_k S R N b t) := by
  unfold cf_424_296 at hC
  unfold cp_424_296 at hp
  refine g_aload_n rfl (g_getR (mz_at hS (Nat.le_of_ble_eq_true rfl) mzcS_232) mzcf_12_101 (mz_rb hR (Nat.le_of_ble_eq_true rfl) rfl mzcR_232_101) (g_iload_n rfl (g_aload_n rfl (g_iload_n rfl (g_bipush mzb_8 ?_)))))
  obtain ⟨h1, hp⟩ := hp
  refine g_v3v (Nat.le_of_ble_eq_true rfl) (mz_at hS (Nat.le_of_ble_eq_true rfl) mzcS_232) (fun _ hq => cs_425 (Nat.le_trans (Nat.le_of_ble_eq_true rfl) hd) (hS.le (Nat.le_of_ble_eq_true rfl)) (hR.le (Nat.le_of_ble_eq_true rfl))  v3 8 N h1 hq) ?_
  obtain ⟨h2, hp⟩ := hp
  refine g_iast (mz_at hS (Nat.le_of_ble_eq_true rfl) mzcS_306) h2 (g_aload_n rfl (g_getR (mz_at hS (Nat.le_of_ble_eq_true rfl) mzcS_232) mzcf_12_102 (mz_rb hR (Nat.le_of_ble_eq_true rfl) rfl mzcR_232_102) (g_iload_n rfl (g_aload_n rfl (g_iload_n rfl (g_bipush mzb_12 ?_))))))
  obtain ⟨h3, hp⟩ := hp
  refine g_v3v (Nat.le_of_ble_eq_true rfl) (mz_at hS (Nat.le_of_ble_eq_true rfl) mzcS_232) (fun _ hq => cs_422 (Nat.le_trans (Nat.le_of_ble_eq_true rfl) hd) (hS.le (Nat.le_of_ble_eq_true rfl)) (hR.le (Nat.le_of_ble_eq_true rfl))  v3 12 (mz_wI N 306 v2 (cf_425_0 v3 8 N)) h3 hq) (g_iconst mzi_1 ?_)
  refine g_icne (tg := 329) rfl ms_424_329 hC (fun h4 hC => ?_) (fun h4 hC => ?_)
  · have hp := hp.1 h4
    refine g_iconst mzi_1 (g_goto (tg := 330) rfl ms_424_330 ?_)
    refine g_weak ?_ (g_cl (cg_424_330 hd hS hR v2 true (mz_wI N 306 v2 (cf_425_0 v3 8 N)) hr hp hC))
    exact trivial
  · have hp := hp.2 h4
    refine g_iconst mzi_0 ?_
    refine g_weak ?_ (g_cl (cg_424_330 hd hS hR v2 false (mz_wI N 306 v2 (cf_425_0 v3 8 N)) hr hp hC))
    exact trivial
theorem cg_424_447 (hd : 2 ≤ d) (hS : mz_ext S 342) (hR : mz_rok R 342)  (v2 : Int32) (v3 : Int32) (N : mz_N) {C0 : (mz_N) → Prop} (hr : ∀ (N2 : mz_N), C0 N2 → Q (.inl none) (mz_k S R N2 b t)) (hp : cp_424_447 v2 v3 N) (hC : C0 (cf_424_447 v2 v3 N)) : mz_G (d, mz_X0 L xs, none, [], mk_424, 5, Q) 447 mt_424_447 [(0, .ref 232), (2, .int v2), (3, .int v3)] [] false (mz_k S R N b t) := by
  unfold cf_424_447 at hC
  unfold cp_424_447 at hp
  refine g_aload_n rfl (g_getR (mz_at hS (Nat.le_of_ble_eq_true rfl) mzcS_232) mzcf_12_105 (mz_rb hR (Nat.le_of_ble_eq_true rfl) rfl mzcR_232_105) (g_iload_n rfl (g_aload_n rfl (g_iload_n rfl (g_iconst mzi_2 ?_)))))
  obtain ⟨h1, hp⟩ := hp
  refine g_v3v (Nat.le_of_ble_eq_true rfl) (mz_at hS (Nat.le_of_ble_eq_true rfl) mzcS_232) (fun _ hq => cs_422 (Nat.le_trans (Nat.le_of_ble_eq_true rfl) hd) (hS.le (Nat.le_of_ble_eq_true rfl)) (hR.le (Nat.le_of_ble_eq_true rfl))  v3 2 N h1 hq) ?_
  have h2 := hp
  refine g_iast (mz_at hS (Nat.le_of_ble_eq_true rfl) mzcS_310) h2 (g_goto (tg := 560) rfl ms_424_560 ?_)
  exact g_vret rfl (hr _ hC)
theorem cg_424_107 (hd : 2 ≤ d) (hS : mz_ext S 342) (hR : mz_rok R 342)  (v2 : Int32) (v3 : Int32) (N : mz_N) {C0 : (mz_N) → Prop} (hr : ∀ (N2 : mz_N), C0 N2 → Q (.inl none) (mz_k S R N2 b t)) (hp : cp_424_107 v2 v3 N) (hC : C0 (cf_424_107 v2 v3 N)) : mz_G (d, mz_X0 L xs, none, [], mk_424, 5, Q) 107 mt_424_107 [(0, .ref 232), (2, .int v2), (3, .int v3)] [] false (mz_k S R N b t) := by
  unfold cf_424_107 at hC
  unfold cp_424_107 at hp
  refine g_aload_n rfl (g_getR (mz_at hS (Nat.le_of_ble_eq_true rfl) mzcS_232) mzcf_12_119 (mz_rb hR (Nat.le_of_ble_eq_true rfl) rfl mzcR_232_119) (g_iload_n rfl (g_aload_n rfl (g_iload_n rfl (g_bipush mzb_24 ?_)))))
  obtain ⟨h1, hp⟩ := hp
  refine g_v3v (Nat.le_of_ble_eq_true rfl) (mz_at hS (Nat.le_of_ble_eq_true rfl) mzcS_232) (fun _ hq => cs_425 (Nat.le_trans (Nat.le_of_ble_eq_true rfl) hd) (hS.le (Nat.le_of_ble_eq_true rfl)) (hR.le (Nat.le_of_ble_eq_true rfl))  v3 24 N h1 hq) (g_i2l ?_)
  have h2 := hp
  refine g_last (mz_at hS (Nat.le_of_ble_eq_true rfl) mzcS_323) h2 (g_goto (tg := 560) rfl ms_424_560 ?_)
  exact g_vret rfl (hr _ hC)
theorem cg_424_79 (hd : 2 ≤ d) (hS : mz_ext S 342) (hR : mz_rok R 342)  (v2 : Int32) (v3 : Int32) (N : mz_N) {C0 : (mz_N) → Prop} (hr : ∀ (N2 : mz_N), C0 N2 → Q (.inl none) (mz_k S R N2 b t)) (hp : cp_424_79 v2 v3 N) (hC : C0 (cf_424_79 v2 v3 N)) : mz_G (d, mz_X0 L xs, none, [], mk_424, 5, Q) 79 mt_424_79 [(0, .ref 232), (2, .int v2), (3, .int v3)] [] false (mz_k S R N b t) := by
  unfold cf_424_79 at hC
  unfold cp_424_79 at hp
  refine g_aload_n rfl (g_getR (mz_at hS (Nat.le_of_ble_eq_true rfl) mzcS_232) mzcf_12_117 (mz_rb hR (Nat.le_of_ble_eq_true rfl) rfl mzcR_232_117) (g_iload_n rfl (g_aload_n rfl (g_iload_n rfl (g_bipush mzb_16 ?_)))))
  obtain ⟨h1, hp⟩ := hp
  refine g_v3v (Nat.le_of_ble_eq_true rfl) (mz_at hS (Nat.le_of_ble_eq_true rfl) mzcS_232) (fun _ hq => cs_425 (Nat.le_trans (Nat.le_of_ble_eq_true rfl) hd) (hS.le (Nat.le_of_ble_eq_true rfl)) (hR.le (Nat.le_of_ble_eq_true rfl))  v3 16 N h1 hq) (g_i2l ?_)
  obtain ⟨h2, hp⟩ := hp
  refine g_last (mz_at hS (Nat.le_of_ble_eq_true rfl) mzcS_321) h2 (g_aload_n rfl (g_getR (mz_at hS (Nat.le_of_ble_eq_true rfl) mzcS_232) mzcf_12_118 (mz_rb hR (Nat.le_of_ble_eq_true rfl) rfl mzcR_232_118) (g_iload_n rfl (g_aload_n rfl (g_iload_n rfl (g_bipush mzb_20 ?_))))))
  obtain ⟨h3, hp⟩ := hp
  refine g_v3v (Nat.le_of_ble_eq_true rfl) (mz_at hS (Nat.le_of_ble_eq_true rfl) mzcS_232) (fun _ hq => cs_425 (Nat.le_trans (Nat.le_of_ble_eq_true rfl) hd) (hS.le (Nat.le_of_ble_eq_true rfl)) (hR.le (Nat.le_of_ble_eq_true rfl))  v3 20 (mz_wL N 321 v2 ((cf_425_0 v3 16 N).toInt64)) h3 hq) (g_i2l ?_)
  obtain ⟨h4, hp⟩ := hp
  refine g_last (mz_at hS (Nat.le_of_ble_eq_true rfl) mzcS_322) h4 ?_
  refine g_weak ?_ (g_cl (cg_424_107 hd hS hR v2 v3 (mz_wL (mz_wL N 321 v2 ((cf_425_0 v3 16 N).toInt64)) 322 v2 ((cf_425_0 v3 20 (mz_wL N 321 v2 ((cf_425_0 v3 16 N).toInt64))).toInt64)) hr hp hC))
  exact ⟨rfl, rfl, rfl, trivial⟩
theorem cg_424_180 (hd : 2 ≤ d) (hS : mz_ext S 342) (hR : mz_rok R 342)  (v3 : Int32) (N : mz_N) {C0 : (mz_N) → Prop} (hr : ∀ (N2 : mz_N), C0 N2 → Q (.inl none) (mz_k S R N2 b t)) (hp : cp_424_180 v3 N) (hC : C0 (cf_424_180 v3 N)) : mz_G (d, mz_X0 L xs, none, [], mk_424, 5, Q) 180 mt_424_180 [(0, .ref 232), (3, .int v3)] [] false (mz_k S R N b t) := by
  unfold cf_424_180 at hC
  unfold cp_424_180 at hp
  refine g_aload_n rfl (g_aload_n rfl (g_iload_n rfl (g_bipush mzb_24 ?_)))
  have h1 := hp
  refine g_v3v (Nat.le_of_ble_eq_true rfl) (mz_at hS (Nat.le_of_ble_eq_true rfl) mzcS_232) (fun _ hq => cs_425 (Nat.le_trans (Nat.le_of_ble_eq_true rfl) hd) (hS.le (Nat.le_of_ble_eq_true rfl)) (hR.le (Nat.le_of_ble_eq_true rfl))  v3 24 N h1 hq) (g_i2l (g_putL (mz_at hS (Nat.le_of_ble_eq_true rfl) mzcS_232) mzcf_12_125 (g_goto (tg := 560) rfl ms_424_560 ?_)))
  exact g_vret rfl (hr _ hC)
theorem cg_424_151 (hd : 2 ≤ d) (hS : mz_ext S 342) (hR : mz_rok R 342)  (v3 : Int32) (N : mz_N) {C0 : (mz_N) → Prop} (hr : ∀ (N2 : mz_N), C0 N2 → Q (.inl none) (mz_k S R N2 b t)) (hp : cp_424_151 v3 N) (hC : C0 (cf_424_151 v3 N)) : mz_G (d, mz_X0 L xs, none, [], mk_424, 5, Q) 151 mt_424_151 [(0, .ref 232), (3, .int v3)] [] false (mz_k S R N b t) := by
  unfold cf_424_151 at hC
  unfold cp_424_151 at hp
  refine g_aload_n rfl (g_aload_n rfl (g_getR (mz_at hS (Nat.le_of_ble_eq_true rfl) mzcS_232) mzcf_12_131 (mz_rb hR (Nat.le_of_ble_eq_true rfl) rfl mzcR_232_131) (g_iload_n rfl (g_bipush mzb_12 (g_iadd (g_bipush mzb_8 ?_))))))
  obtain ⟨h1, hp⟩ := hp
  refine g_s3v (Nat.le_of_ble_eq_true rfl) (fun _ hq => cs_423 (Nat.le_trans (Nat.le_of_ble_eq_true rfl) hd) (hS.le (Nat.le_of_ble_eq_true rfl)) (hR.le (Nat.le_of_ble_eq_true rfl)) 331 3780 (mz_at hS (Nat.le_of_ble_eq_true rfl) mzcS_331) (v3 + 12) 8 N h1 hq) (g_putL (mz_at hS (Nat.le_of_ble_eq_true rfl) mzcS_232) mzcf_12_123 (g_aload_n rfl (g_aload_n rfl (g_iload_n rfl (g_bipush mzb_20 ?_)))))
  obtain ⟨h2, hp⟩ := hp
  refine g_v3v (Nat.le_of_ble_eq_true rfl) (mz_at hS (Nat.le_of_ble_eq_true rfl) mzcS_232) (fun _ hq => cs_425 (Nat.le_trans (Nat.le_of_ble_eq_true rfl) hd) (hS.le (Nat.le_of_ble_eq_true rfl)) (hR.le (Nat.le_of_ble_eq_true rfl))  v3 20 (mz_pL N 232 123 (cf_423_0 331 3780 (v3 + 12) 8 N)) h2 hq) (g_i2l (g_putL (mz_at hS (Nat.le_of_ble_eq_true rfl) mzcS_232) mzcf_12_124 ?_))
  refine g_weak ?_ (g_cl (cg_424_180 hd hS hR v3 (mz_pL (mz_pL N 232 123 (cf_423_0 331 3780 (v3 + 12) 8 N)) 232 124 ((cf_425_0 v3 20 (mz_pL N 232 123 (cf_423_0 331 3780 (v3 + 12) 8 N))).toInt64)) hr hp hC))
  exact ⟨rfl, rfl, trivial⟩
theorem cb_424_237 (hd : 2 ≤ d) (hS : mz_ext S 342) (hR : mz_rok R 342)  (v3 : Int32) (s : Int32 × mz_N) {C0 : (mz_N) → Prop} (hr : ∀ (N2 : mz_N), C0 N2 → Q (.inl none) (mz_k S R N2 b t)) {C1 : ((Int32 × mz_N) ⊕ (mz_N)) → Prop} (hc1 : ∀ s2, C1 (.inl s2) → mz_G (d, mz_X0 L xs, none, [], mk_424, 5, Q) 237 mt_424_237 [(0, .ref 232), (3, .int v3), (4, .int s2.1)] [] false (mz_k S R s2.2 b t)) (hx1 : ∀ z, C1 (.inr z) → C0 z) (hp : cd_424_237 v3 s) (hC : C1 (cq_424_237 v3 s)) : mz_G (d, mz_X0 L xs, none, [], mk_424, 5, Q) 237 mt_424_237 [(0, .ref 232), (3, .int v3), (4, .int s.1)] [] false (mz_k S R s.2 b t) := by
  unfold cq_424_237 at hC
  unfold cd_424_237 at hp
  refine g_iload rfl (g_iconst mzi_3 ?_)
  refine g_icge (tg := 268) rfl ms_424_268 hC (fun h1 hC => ?_) (fun h1 hC => ?_)
  · have hp := hp.1 h1
    refine g_aload_n rfl (g_getR (mz_at hS (Nat.le_of_ble_eq_true rfl) mzcS_232) mzcf_12_22 (mz_rb hR (Nat.le_of_ble_eq_true rfl) rfl mzcR_232_22) (g_iload rfl (g_aload_n rfl (g_iload_n rfl (g_bipush mzb_12 (g_iconst mzi_4 (g_iload rfl ?_)))))))
    refine g_imul (g_iadd ?_)
    obtain ⟨h2, hp⟩ := hp
    refine g_v3v (Nat.le_of_ble_eq_true rfl) (mz_at hS (Nat.le_of_ble_eq_true rfl) mzcS_232) (fun _ hq => cs_425 (Nat.le_trans (Nat.le_of_ble_eq_true rfl) hd) (hS.le (Nat.le_of_ble_eq_true rfl)) (hR.le (Nat.le_of_ble_eq_true rfl))  v3 (12 + (4 * s.1)) s.2 h2 hq) ?_
    have h3 := hp
    refine g_iast (mz_at hS (Nat.le_of_ble_eq_true rfl) mzcS_249) h3 (g_iinc rfl mzi_1 (Nat.le_of_ble_eq_true rfl) rfl (g_goto (tg := 237) rfl ms_424_237 ?_))
    refine g_weak ?_ (g_cl (hc1 ((s.1 + 1), mz_wI s.2 249 s.1 (cf_425_0 v3 (12 + (4 * s.1)) s.2)) hC))
    exact ⟨rfl, rfl, rfl, trivial⟩
  · have hp := hp.2 h1
    refine g_goto (tg := 560) rfl ms_424_560 ?_
    exact g_vret rfl (hr _ (hx1 _ hC))
theorem cg_424_237 (hd : 2 ≤ d) (hS : mz_ext S 342) (hR : mz_rok R 342)  (v3 : Int32) (v4 : Int32) (N : mz_N) {C0 : (mz_N) → Prop} (hr : ∀ (N2 : mz_N), C0 N2 → Q (.inl none) (mz_k S R N2 b t)) (hp : cp_424_237 v3 v4 N) (hC : C0 (cf_424_237 v3 v4 N)) : mz_G (d, mz_X0 L xs, none, [], mk_424, 5, Q) 237 mt_424_237 [(0, .ref 232), (3, .int v3), (4, .int v4)] [] false (mz_k S R N b t) := by
  obtain ⟨n, hn⟩ := hp
  exact g_loop (G := fun s => mz_G (d, mz_X0 L xs, none, [], mk_424, 5, Q) 237 mt_424_237 [(0, .ref 232), (3, .int v3), (4, .int s.1)] [] false (mz_k S R s.2 b t)) (C := C0) (fun C2 hc hx s hP hC => cb_424_237 hd hS hR v3 s hr hc hx hP hC) n (v4, N) hn hC
theorem cg_424_223 (hd : 2 ≤ d) (hS : mz_ext S 342) (hR : mz_rok R 342)  (v3 : Int32) (N : mz_N) {C0 : (mz_N) → Prop} (hr : ∀ (N2 : mz_N), C0 N2 → Q (.inl none) (mz_k S R N2 b t)) (hp : cp_424_223 v3 N) (hC : C0 (cf_424_223 v3 N)) : mz_G (d, mz_X0 L xs, none, [], mk_424, 5, Q) 223 mt_424_223 [(0, .ref 232), (3, .int v3)] [] false (mz_k S R N b t) := by
  unfold cf_424_223 at hC
  unfold cp_424_223 at hp
  refine g_aload_n rfl (g_aload_n rfl (g_iload_n rfl (g_bipush mzb_8 ?_)))
  obtain ⟨h1, hp⟩ := hp
  refine g_v3v (Nat.le_of_ble_eq_true rfl) (mz_at hS (Nat.le_of_ble_eq_true rfl) mzcS_232) (fun _ hq => cs_425 (Nat.le_trans (Nat.le_of_ble_eq_true rfl) hd) (hS.le (Nat.le_of_ble_eq_true rfl)) (hR.le (Nat.le_of_ble_eq_true rfl))  v3 8 N h1 hq) (g_putI (mz_at hS (Nat.le_of_ble_eq_true rfl) mzcS_232) mzcf_12_21 (g_iconst mzi_0 (g_istore (Nat.le_of_ble_eq_true rfl) rfl ?_)))
  refine g_weak ?_ (g_cl (cg_424_237 hd hS hR v3 0 (mz_pI N 232 21 (cf_425_0 v3 8 N)) hr hp hC))
  exact ⟨rfl, rfl, rfl, trivial⟩
theorem cg_424_0 (hd : 2 ≤ d) (hS : mz_ext S 342) (hR : mz_rok R 342)  (v1 : Int32) (v2 : Int32) (v3 : Int32) (N : mz_N) {C0 : (mz_N) → Prop} (hr : ∀ (N2 : mz_N), C0 N2 → Q (.inl none) (mz_k S R N2 b t)) (hp : cp_424_0 v1 v2 v3 N) (hC : C0 (cf_424_0 v1 v2 v3 N)) : mz_G (d, mz_X0 L xs, none, [], mk_424, 5, Q) 0 mk_424 [(0, .ref 232), (1, .int v1), (2, .int v2), (3, .int v3)] [] true (mz_k S R N b t) := by
  unfold cf_424_0 at hC
  unfold cp_424_0 at hp
  refine g_iload_n rfl ?_
  refine mz_cs hC (fun h1 hC => ?_) (fun h1 hC => ?_)
  · have hp := hp.1 h1
    refine g_brn (tg := 44) (by rw [h1]; rfl) (by decide) rfl ?_
    refine g_aload_n rfl (g_getR (mz_at hS (Nat.le_of_ble_eq_true rfl) mzcS_232) mzcf_12_120 (mz_rb hR (Nat.le_of_ble_eq_true rfl) rfl mzcR_232_120) (g_iload_n rfl (g_aload_n rfl (g_getR (mz_at hS (Nat.le_of_ble_eq_true rfl) mzcS_232) mzcf_12_131 (mz_rb hR (Nat.le_of_ble_eq_true rfl) rfl mzcR_232_131) (g_iload_n rfl (g_bipush mzb_8 ?_))))))
    obtain ⟨h27, hp⟩ := hp
    refine g_s3v (Nat.le_of_ble_eq_true rfl) (fun _ hq => cs_423 (Nat.le_trans (Nat.le_of_ble_eq_true rfl) hd) (hS.le (Nat.le_of_ble_eq_true rfl)) (hR.le (Nat.le_of_ble_eq_true rfl)) 331 3780 (mz_at hS (Nat.le_of_ble_eq_true rfl) mzcS_331) v3 8 N h27 hq) ?_
    obtain ⟨h28, hp⟩ := hp
    refine g_last (mz_at hS (Nat.le_of_ble_eq_true rfl) mzcS_324) h28 (g_aload_n rfl (g_getR (mz_at hS (Nat.le_of_ble_eq_true rfl) mzcS_232) mzcf_12_121 (mz_rb hR (Nat.le_of_ble_eq_true rfl) rfl mzcR_232_121) (g_iload_n rfl (g_aload_n rfl (g_getR (mz_at hS (Nat.le_of_ble_eq_true rfl) mzcS_232) mzcf_12_131 (mz_rb hR (Nat.le_of_ble_eq_true rfl) rfl mzcR_232_131) (g_iload_n rfl (g_bipush mzb_8 ?_)))))))
    refine g_iadd (g_bipush mzb_8 ?_)
    obtain ⟨h29, hp⟩ := hp
    refine g_s3v (Nat.le_of_ble_eq_true rfl) (fun _ hq => cs_423 (Nat.le_trans (Nat.le_of_ble_eq_true rfl) hd) (hS.le (Nat.le_of_ble_eq_true rfl)) (hR.le (Nat.le_of_ble_eq_true rfl)) 331 3780 (mz_at hS (Nat.le_of_ble_eq_true rfl) mzcS_331) (v3 + 8) 8 (mz_wL N 324 v2 (cf_423_0 331 3780 v3 8 N)) h29 hq) ?_
    obtain ⟨h30, hp⟩ := hp
    refine g_last (mz_at hS (Nat.le_of_ble_eq_true rfl) mzcS_325) h30 ?_
    refine g_weak ?_ (g_cl (cg_424_79 hd hS hR v2 v3 (mz_wL (mz_wL N 324 v2 (cf_423_0 331 3780 v3 8 N)) 325 v2 (cf_423_0 331 3780 (v3 + 8) 8 (mz_wL N 324 v2 (cf_423_0 331 3780 v3 8 N)))) hr hp hC))
    exact ⟨rfl, rfl, rfl, trivial⟩
  · have hp := hp.2 h1
    refine mz_cs hC (fun h2 hC => ?_) (fun h2 hC => ?_)
    · have hp := hp.1 h2
      refine g_br (tg := 124) (by rw [h2]; rfl) ms_424_124 ?_
      refine g_aload_n rfl (g_aload_n rfl (g_iload_n rfl (g_iconst mzi_0 ?_)))
      obtain ⟨h25, hp⟩ := hp
      refine g_v3v (Nat.le_of_ble_eq_true rfl) (mz_at hS (Nat.le_of_ble_eq_true rfl) mzcS_232) (fun _ hq => cs_425 (Nat.le_trans (Nat.le_of_ble_eq_true rfl) hd) (hS.le (Nat.le_of_ble_eq_true rfl)) (hR.le (Nat.le_of_ble_eq_true rfl))  v3 0 N h25 hq) (g_i2l (g_putL (mz_at hS (Nat.le_of_ble_eq_true rfl) mzcS_232) mzcf_12_2 (g_aload_n rfl (g_aload_n rfl (g_getR (mz_at hS (Nat.le_of_ble_eq_true rfl) mzcS_232) mzcf_12_131 (mz_rb hR (Nat.le_of_ble_eq_true rfl) rfl mzcR_232_131) (g_iload_n rfl (g_iconst mzi_4 ?_)))))))
      refine g_iadd (g_bipush mzb_8 ?_)
      obtain ⟨h26, hp⟩ := hp
      refine g_s3v (Nat.le_of_ble_eq_true rfl) (fun _ hq => cs_423 (Nat.le_trans (Nat.le_of_ble_eq_true rfl) hd) (hS.le (Nat.le_of_ble_eq_true rfl)) (hR.le (Nat.le_of_ble_eq_true rfl)) 331 3780 (mz_at hS (Nat.le_of_ble_eq_true rfl) mzcS_331) (v3 + 4) 8 (mz_pL N 232 2 ((cf_425_0 v3 0 N).toInt64)) h26 hq) (g_putL (mz_at hS (Nat.le_of_ble_eq_true rfl) mzcS_232) mzcf_12_122 ?_)
      refine g_weak ?_ (g_cl (cg_424_151 hd hS hR v3 (mz_pL (mz_pL N 232 2 ((cf_425_0 v3 0 N).toInt64)) 232 122 (cf_423_0 331 3780 (v3 + 4) 8 (mz_pL N 232 2 ((cf_425_0 v3 0 N).toInt64)))) hr hp hC))
      exact ⟨rfl, rfl, trivial⟩
    · have hp := hp.2 h2
      refine mz_cs hC (fun h3 hC => ?_) (fun h3 hC => ?_)
      · have hp := hp.1 h3
        refine g_br (tg := 195) (by rw [h3]; rfl) ms_424_195 ?_
        refine g_aload_n rfl (g_getR (mz_at hS (Nat.le_of_ble_eq_true rfl) mzcS_232) mzcf_12_118 (mz_rb hR (Nat.le_of_ble_eq_true rfl) rfl mzcR_232_118) (g_bipush mzb_10 (g_aload_n rfl (g_iload_n rfl (g_iconst mzi_0 ?_)))))
        obtain ⟨h23, hp⟩ := hp
        refine g_v3v (Nat.le_of_ble_eq_true rfl) (mz_at hS (Nat.le_of_ble_eq_true rfl) mzcS_232) (fun _ hq => cs_425 (Nat.le_trans (Nat.le_of_ble_eq_true rfl) hd) (hS.le (Nat.le_of_ble_eq_true rfl)) (hR.le (Nat.le_of_ble_eq_true rfl))  v3 0 N h23 hq) (g_i2l (g_last (mz_at hS (Nat.le_of_ble_eq_true rfl) mzcS_322) (mz_ibd (by decide)) (g_aload_n rfl (g_getR (mz_at hS (Nat.le_of_ble_eq_true rfl) mzcS_232) mzcf_12_117 (mz_rb hR (Nat.le_of_ble_eq_true rfl) rfl mzcR_232_117) (g_bipush mzb_10 (g_aload_n rfl (g_iload_n rfl ?_)))))))
        refine g_iconst mzi_4 ?_
        obtain ⟨h24, hp⟩ := hp
        refine g_v3v (Nat.le_of_ble_eq_true rfl) (mz_at hS (Nat.le_of_ble_eq_true rfl) mzcS_232) (fun _ hq => cs_425 (Nat.le_trans (Nat.le_of_ble_eq_true rfl) hd) (hS.le (Nat.le_of_ble_eq_true rfl)) (hR.le (Nat.le_of_ble_eq_true rfl))  v3 4 (mz_wL N 322 10 ((cf_425_0 v3 0 N).toInt64)) h24 hq) (g_i2l (g_last (mz_at hS (Nat.le_of_ble_eq_true rfl) mzcS_321) (mz_ibd (by decide)) ?_))
        refine g_weak ?_ (g_cl (cg_424_223 hd hS hR v3 (mz_wL (mz_wL N 322 10 ((cf_425_0 v3 0 N).toInt64)) 321 10 ((cf_425_0 v3 4 (mz_wL N 322 10 ((cf_425_0 v3 0 N).toInt64))).toInt64)) hr hp hC))
        exact ⟨rfl, rfl, trivial⟩
      · have hp := hp.2 h3
        refine mz_cs hC (fun h4 hC => ?_) (fun h4 hC => ?_)
        · have hp := hp.1 h4
          refine g_br (tg := 271) (by rw [h4]; rfl) ms_424_271 ?_
          refine g_aload_n rfl (g_getR (mz_at hS (Nat.le_of_ble_eq_true rfl) mzcS_232) mzcf_12_23 (mz_rb hR (Nat.le_of_ble_eq_true rfl) rfl mzcR_232_23) (g_iload_n rfl (g_aload_n rfl (g_iload_n rfl (g_iconst mzi_0 ?_)))))
          obtain ⟨h19, hp⟩ := hp
          refine g_v3v (Nat.le_of_ble_eq_true rfl) (mz_at hS (Nat.le_of_ble_eq_true rfl) mzcS_232) (fun _ hq => cs_425 (Nat.le_trans (Nat.le_of_ble_eq_true rfl) hd) (hS.le (Nat.le_of_ble_eq_true rfl)) (hR.le (Nat.le_of_ble_eq_true rfl))  v3 0 N h19 hq) ?_
          obtain ⟨h20, hp⟩ := hp
          refine g_iast (mz_at hS (Nat.le_of_ble_eq_true rfl) mzcS_250) h20 (g_aload_n rfl (g_getR (mz_at hS (Nat.le_of_ble_eq_true rfl) mzcS_232) mzcf_12_100 (mz_rb hR (Nat.le_of_ble_eq_true rfl) rfl mzcR_232_100) (g_iload_n rfl (g_aload_n rfl (g_iload_n rfl (g_iconst mzi_4 ?_))))))
          obtain ⟨h21, hp⟩ := hp
          refine g_v3v (Nat.le_of_ble_eq_true rfl) (mz_at hS (Nat.le_of_ble_eq_true rfl) mzcS_232) (fun _ hq => cs_425 (Nat.le_trans (Nat.le_of_ble_eq_true rfl) hd) (hS.le (Nat.le_of_ble_eq_true rfl)) (hR.le (Nat.le_of_ble_eq_true rfl))  v3 4 (mz_wI N 250 v2 (cf_425_0 v3 0 N)) h21 hq) (g_i2l ?_)
          obtain ⟨h22, hp⟩ := hp
          refine g_last (mz_at hS (Nat.le_of_ble_eq_true rfl) mzcS_305) h22 ?_
          refine g_weak ?_ (g_cl (cg_424_296 hd hS hR v2 v3 (mz_wL (mz_wI N 250 v2 (cf_425_0 v3 0 N)) 305 v2 ((cf_425_0 v3 4 (mz_wI N 250 v2 (cf_425_0 v3 0 N))).toInt64)) hr hp hC))
          exact ⟨rfl, rfl, rfl, trivial⟩
        · have hp := hp.2 h4
          refine mz_cs hC (fun h5 hC => ?_) (fun h5 hC => ?_)
          · have hp := hp.1 h5
            refine g_br (tg := 334) (by rw [h5]; rfl) ms_424_334 ?_
            refine g_aload_n rfl (g_getR (mz_at hS (Nat.le_of_ble_eq_true rfl) mzcS_232) mzcf_12_80 (mz_rb hR (Nat.le_of_ble_eq_true rfl) rfl mzcR_232_80) (g_iload_n rfl (g_aload_n rfl (g_iload_n rfl (g_iconst mzi_0 ?_)))))
            obtain ⟨h17, hp⟩ := hp
            refine g_v3v (Nat.le_of_ble_eq_true rfl) (mz_at hS (Nat.le_of_ble_eq_true rfl) mzcS_232) (fun _ hq => cs_422 (Nat.le_trans (Nat.le_of_ble_eq_true rfl) hd) (hS.le (Nat.le_of_ble_eq_true rfl)) (hR.le (Nat.le_of_ble_eq_true rfl))  v3 0 N h17 hq) (g_iconst mzi_1 ?_)
            refine g_icne (tg := 353) rfl ms_424_353 hC (fun h18 hC => ?_) (fun h18 hC => ?_)
            · have hp := hp.1 h18
              refine g_iconst mzi_1 (g_goto (tg := 354) rfl ms_424_354 ?_)
              refine g_weak ?_ (g_cl (cg_424_354 hd hS hR v2 true v2 v3 N hr hp hC))
              exact ⟨rfl, rfl, rfl, trivial⟩
            · have hp := hp.2 h18
              refine g_iconst mzi_0 ?_
              refine g_weak ?_ (g_cl (cg_424_354 hd hS hR v2 false v2 v3 N hr hp hC))
              exact ⟨rfl, rfl, rfl, trivial⟩
          · have hp := hp.2 h5
            refine mz_cs hC (fun h6 hC => ?_) (fun h6 hC => ?_)
            · have hp := hp.1 h6
              refine g_br (tg := 428) (by rw [h6]; rfl) ms_424_428 ?_
              refine g_aload_n rfl (g_getR (mz_at hS (Nat.le_of_ble_eq_true rfl) mzcS_232) mzcf_12_103 (mz_rb hR (Nat.le_of_ble_eq_true rfl) rfl mzcR_232_103) (g_iload_n rfl (g_iconst mzi_1 ?_)))
              obtain ⟨h14, hp⟩ := hp
              refine g_zast (z := true) (mz_at hS (Nat.le_of_ble_eq_true rfl) mzcS_308) h14 (g_aload_n rfl (g_getR (mz_at hS (Nat.le_of_ble_eq_true rfl) mzcS_232) mzcf_12_104 (mz_rb hR (Nat.le_of_ble_eq_true rfl) rfl mzcR_232_104) (g_iload_n rfl (g_aload_n rfl (g_iload_n rfl (g_iconst mzi_1 ?_))))))
              obtain ⟨h15, hp⟩ := hp
              refine g_v3v (Nat.le_of_ble_eq_true rfl) (mz_at hS (Nat.le_of_ble_eq_true rfl) mzcS_232) (fun _ hq => cs_422 (Nat.le_trans (Nat.le_of_ble_eq_true rfl) hd) (hS.le (Nat.le_of_ble_eq_true rfl)) (hR.le (Nat.le_of_ble_eq_true rfl))  v3 1 (mz_wI N 308 v2 (mz_b01 true)) h15 hq) ?_
              obtain ⟨h16, hp⟩ := hp
              refine g_iast (mz_at hS (Nat.le_of_ble_eq_true rfl) mzcS_309) h16 ?_
              refine g_weak ?_ (g_cl (cg_424_447 hd hS hR v2 v3 (mz_wI (mz_wI N 308 v2 (mz_b01 true)) 309 v2 (cf_422_0 v3 1 (mz_wI N 308 v2 (mz_b01 true)))) hr hp hC))
              exact ⟨rfl, rfl, rfl, trivial⟩
            · have hp := hp.2 h6
              refine mz_cs hC (fun h7 hC => ?_) (fun h7 hC => ?_)
              · have hp := hp.1 h7
                refine g_br (tg := 462) (by rw [h7]; rfl) ms_424_462 ?_
                refine g_aload_n rfl (g_getR (mz_at hS (Nat.le_of_ble_eq_true rfl) mzcS_232) mzcf_12_106 (mz_rb hR (Nat.le_of_ble_eq_true rfl) rfl mzcR_232_106) (g_iload_n rfl (g_iconst mzi_1 ?_)))
                obtain ⟨h11, hp⟩ := hp
                refine g_zast (z := true) (mz_at hS (Nat.le_of_ble_eq_true rfl) mzcS_311) h11 (g_aload_n rfl (g_getR (mz_at hS (Nat.le_of_ble_eq_true rfl) mzcS_232) mzcf_12_108 (mz_rb hR (Nat.le_of_ble_eq_true rfl) rfl mzcR_232_108) (g_iload_n rfl (g_aload_n rfl (g_iload_n rfl (g_iconst mzi_1 ?_))))))
                obtain ⟨h12, hp⟩ := hp
                refine g_v3v (Nat.le_of_ble_eq_true rfl) (mz_at hS (Nat.le_of_ble_eq_true rfl) mzcS_232) (fun _ hq => cs_422 (Nat.le_trans (Nat.le_of_ble_eq_true rfl) hd) (hS.le (Nat.le_of_ble_eq_true rfl)) (hR.le (Nat.le_of_ble_eq_true rfl))  v3 1 (mz_wI N 311 v2 (mz_b01 true)) h12 hq) ?_
                obtain ⟨h13, hp⟩ := hp
                refine g_iast (mz_at hS (Nat.le_of_ble_eq_true rfl) mzcS_313) h13 ?_
                refine g_weak ?_ (g_cl (cg_424_481 hd hS hR v2 v3 (mz_wI (mz_wI N 311 v2 (mz_b01 true)) 313 v2 (cf_422_0 v3 1 (mz_wI N 311 v2 (mz_b01 true)))) hr hp hC))
                exact ⟨rfl, rfl, rfl, trivial⟩
              · have hp := hp.2 h7
                refine g_br (tg := 529) ((mz_tsw_d (l := [8, 9, 10, 11, 12, 13, 14]) (mz_rng 8 6) ⟨h1, h2, h3, h4, h5, h6, h7, trivial⟩).trans (mz_tg_t rfl)) ms_424_529 ?_
                refine g_aload_n rfl (g_getR (mz_at hS (Nat.le_of_ble_eq_true rfl) mzcS_232) mzcf_12_75 (mz_rb hR (Nat.le_of_ble_eq_true rfl) rfl mzcR_232_75) (g_iload_n rfl (g_iconst mzi_1 ?_)))
                obtain ⟨h8, hp⟩ := hp
                refine g_zast (z := true) (mz_at hS (Nat.le_of_ble_eq_true rfl) mzcS_282) h8 (g_aload_n rfl (g_getR (mz_at hS (Nat.le_of_ble_eq_true rfl) mzcS_232) mzcf_12_76 (mz_rb hR (Nat.le_of_ble_eq_true rfl) rfl mzcR_232_76) (g_iload_n rfl (g_aload_n rfl (g_iload_n rfl (g_iconst mzi_1 ?_))))))
                obtain ⟨h9, hp⟩ := hp
                refine g_v3v (Nat.le_of_ble_eq_true rfl) (mz_at hS (Nat.le_of_ble_eq_true rfl) mzcS_232) (fun _ hq => cs_422 (Nat.le_trans (Nat.le_of_ble_eq_true rfl) hd) (hS.le (Nat.le_of_ble_eq_true rfl)) (hR.le (Nat.le_of_ble_eq_true rfl))  v3 1 (mz_wI N 282 v2 (mz_b01 true)) h9 hq) ?_
                obtain ⟨h10, hp⟩ := hp
                refine g_iast (mz_at hS (Nat.le_of_ble_eq_true rfl) mzcS_283) h10 ?_
                refine g_weak ?_ (g_cl (cg_424_548 hd hS hR v2 v3 (mz_wI (mz_wI N 282 v2 (mz_b01 true)) 283 v2 (cf_422_0 v3 1 (mz_wI N 282 v2 (mz_b01 true)))) hr hp hC))
                exact ⟨rfl, rfl, rfl, trivial⟩
theorem cs_424 (hd : 3 ≤ d) (hS : mz_ext S 342) (hR : mz_rok R 342)  (v1 : Int32) (v2 : Int32) (v3 : Int32) (N : mz_N) (hp : cp_424_0 v1 v2 v3 N) (hq : Q (.inl none) (mz_k S R (cf_424_0 v1 v2 v3 N) b t)) : mz_Ed (mz_X0 L xs) d 424 [.ref 232, .int v1, .int v2, .int v3] (mz_k S R N b t) Q :=
  by
  refine g_in mzq_424 (Nat.le_of_ble_eq_true rfl) (Nat.le_of_ble_eq_true rfl) (Nat.le_trans (Nat.le_of_ble_eq_true rfl) hd) ?_
  refine g_weak ?_ (cg_424_0 (d := d - 1) (by omega) hS hR v1 v2 v3 N (C0 := fun z => Q (.inl none) (mz_k S R z b t)) (fun _ h => h) hp hq)
  exact ⟨rfl, rfl, rfl, rfl, trivial⟩
end Fn20
