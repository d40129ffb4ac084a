/-! THE FUNCTIONS: written by program: each method comes to its function. -/
section Fn25
variable {L : Nat} {xs : Nat → Int32} {d : Nat} {S : mz_S} {R : Nat → Nat → Option Nat} {Q : mz_Q} {N : mz_N} {b : Bool} {t : Nat}
/-! 476 KeptHouseModel.make (I)V -/
theorem ms_476_0 : mz_sf mk_476 0 = mk_476 := mz_sf_zero _
theorem ms_476_2 : mz_sf mk_476 2 = mt_476_2 := mz_sf_add ms_476_0 (t := 2) rfl rfl
theorem ms_476_21 : mz_sf mk_476 21 = mt_476_21 := mz_sf_add ms_476_2 (t := 19) rfl rfl
theorem ms_476_79 : mz_sf mk_476 79 = mt_476_79 := mz_sf_add ms_476_21 (t := 58) rfl rfl
theorem ms_476_119 : mz_sf mk_476 119 = mt_476_119 := mz_sf_add ms_476_79 (t := 40) rfl rfl
theorem ms_476_125 : mz_sf mk_476 125 = mt_476_125 := mz_sf_add ms_476_119 (t := 6) rfl rfl
theorem ms_476_128 : mz_sf mk_476 128 = mt_476_128 := mz_sf_add ms_476_125 (t := 3) rfl rfl
theorem ms_476_131 : mz_sf mk_476 131 = mt_476_131 := mz_sf_add ms_476_128 (t := 3) rfl rfl
theorem ms_476_171 : mz_sf mk_476 171 = mt_476_171 := mz_sf_add ms_476_131 (t := 40) rfl rfl
theorem ms_476_177 : mz_sf mk_476 177 = mt_476_177 := mz_sf_add ms_476_171 (t := 6) rfl rfl
theorem ms_476_180 : mz_sf mk_476 180 = mt_476_180 := mz_sf_add ms_476_177 (t := 3) rfl rfl
theorem ms_476_183 : mz_sf mk_476 183 = mt_476_183 := mz_sf_add ms_476_180 (t := 3) rfl rfl
theorem ms_476_210 : mz_sf mk_476 210 = mt_476_210 := mz_sf_add ms_476_183 (t := 27) rfl rfl
theorem ms_476_216 : mz_sf mk_476 216 = mt_476_216 := mz_sf_add ms_476_210 (t := 6) rfl rfl
theorem ms_476_219 : mz_sf mk_476 219 = mt_476_219 := mz_sf_add ms_476_216 (t := 3) rfl rfl
theorem ms_476_222 : mz_sf mk_476 222 = mt_476_222 := mz_sf_add ms_476_219 (t := 3) rfl rfl
theorem ms_476_251 : mz_sf mk_476 251 = mt_476_251 := mz_sf_add ms_476_222 (t := 29) rfl rfl
theorem ms_476_257 : mz_sf mk_476 257 = mt_476_257 := mz_sf_add ms_476_251 (t := 6) rfl rfl
theorem ms_476_260 : mz_sf mk_476 260 = mt_476_260 := mz_sf_add ms_476_257 (t := 3) rfl rfl
theorem ms_476_263 : mz_sf mk_476 263 = mt_476_263 := mz_sf_add ms_476_260 (t := 3) rfl rfl
theorem ms_476_290 : mz_sf mk_476 290 = mt_476_290 := mz_sf_add ms_476_263 (t := 27) rfl rfl
theorem ms_476_296 : mz_sf mk_476 296 = mt_476_296 := mz_sf_add ms_476_290 (t := 6) rfl rfl
theorem ms_476_299 : mz_sf mk_476 299 = mt_476_299 := mz_sf_add ms_476_296 (t := 3) rfl rfl
theorem ms_476_302 : mz_sf mk_476 302 = mt_476_302 := mz_sf_add ms_476_299 (t := 3) rfl rfl
theorem ms_476_335 : mz_sf mk_476 335 = mt_476_335 := mz_sf_add ms_476_302 (t := 33) rfl rfl
theorem ms_476_341 : mz_sf mk_476 341 = mt_476_341 := mz_sf_add ms_476_335 (t := 6) rfl rfl
theorem ms_476_360 : mz_sf mk_476 360 = mt_476_360 := mz_sf_add ms_476_341 (t := 19) rfl rfl
theorem ms_476_366 : mz_sf mk_476 366 = mt_476_366 := mz_sf_add ms_476_360 (t := 6) rfl rfl
theorem ms_476_370 : mz_sf mk_476 370 = mt_476_370 := mz_sf_add ms_476_366 (t := 4) rfl rfl
theorem ms_476_373 : mz_sf mk_476 373 = mt_476_373 := mz_sf_add ms_476_370 (t := 3) rfl rfl
theorem ms_476_392 : mz_sf mk_476 392 = mt_476_392 := mz_sf_add ms_476_373 (t := 19) rfl rfl
theorem ms_476_394 : mz_sf mk_476 394 = mt_476_394 := mz_sf_add ms_476_392 (t := 2) rfl rfl
theorem ms_476_402 : mz_sf mk_476 402 = mt_476_402 := mz_sf_add ms_476_394 (t := 8) rfl rfl
theorem ms_476_403 : mz_sf mk_476 403 = mt_476_403 := mz_sf_add ms_476_402 (t := 1) rfl rfl
theorem ms_476_418 : mz_sf mk_476 418 = mt_476_418 := mz_sf_add ms_476_403 (t := 15) rfl rfl
theorem ms_476_426 : mz_sf mk_476 426 = mt_476_426 := mz_sf_add ms_476_418 (t := 8) rfl rfl
theorem ms_476_435 : mz_sf mk_476 435 = mt_476_435 := mz_sf_add ms_476_426 (t := 9) rfl rfl
theorem ms_476_438 : mz_sf mk_476 438 = mt_476_438 := mz_sf_add ms_476_435 (t := 3) rfl rfl
theorem ms_476_444 : mz_sf mk_476 444 = mt_476_444 := mz_sf_add ms_476_438 (t := 6) rfl rfl
set_option maxRecDepth 100000 in
theorem mzq_476 : mz_PG0 476 = some (12, ⟨"KeptHouseModel", "make", "(I)V"⟩, prog_14_method_166_code, 5, none, [], mk_476, []) := rfl
theorem cg_476_171 (hd : 2 ≤ d) (hS : mz_extR S 342) (hR : mz_rok R 342)  (v3 : Int32) (v4 : Int32) (N : mz_N) {C0 : (mz_N) → Prop} (hr : ∀ (N2 : mz_N), C0 N2 → Q (.inl none) (mz_k S R N2 b t)) {C1 : ((Int32 × mz_N) ⊕ (mz_N)) → Prop} (hc1 : ∀ s2, C1 (.inl s2) → mz_G (d, mz_X0 L xs, none, [], mk_476, 5, Q) 131 mt_476_131 [(0, .ref 232), (3, .int v3), (4, .int s2.1)] [] false (mz_k S R s2.2 b t)) (hx1 : ∀ z, C1 (.inr z) → C0 z) (hp : cp_476_171 v3 v4 N) (hC : C1 (cf_476_171 v3 v4 N)) : mz_G (d, mz_X0 L xs, none, [], mk_476, 5, Q) 171 mt_476_171 [(0, .ref 232), (3, .int v3), (4, .int v4)] [] false (mz_k S R N b t) := by
  unfold cf_476_171 at hC
  unfold cp_476_171 at hp
  refine g_iinc rfl mzi_1 (Nat.le_of_ble_eq_true rfl) rfl (g_goto (tg := 131) rfl ms_476_131 ?_)
  refine g_weak ?_ (g_cl (hc1 ((v4 + 1), N) hC))
  exact ⟨rfl, rfl, rfl, trivial⟩
theorem cb_476_131 (hd : 2 ≤ d) (hS : mz_extR S 342) (hR : mz_rok R 342)  (v3 : Int32) (s : Int32 × mz_N) {C0 : (mz_N) → Prop} (hr : ∀ (N2 : mz_N), C0 N2 → Q (.inl none) (mz_k S R N2 b t)) {C1 : ((Int32 × mz_N) ⊕ (mz_N)) → Prop} (hc1 : ∀ s2, C1 (.inl s2) → mz_G (d, mz_X0 L xs, none, [], mk_476, 5, Q) 131 mt_476_131 [(0, .ref 232), (3, .int v3), (4, .int s2.1)] [] false (mz_k S R s2.2 b t)) (hx1 : ∀ z, C1 (.inr z) → C0 z) (hp : cd_476_131 v3 s) (hC : C1 (cq_476_131 v3 s)) : mz_G (d, mz_X0 L xs, none, [], mk_476, 5, Q) 131 mt_476_131 [(0, .ref 232), (3, .int v3), (4, .int s.1)] [] false (mz_k S R s.2 b t) := by
  unfold cq_476_131 at hC
  unfold cd_476_131 at hp
  refine g_iload rfl (g_bipush mzb_48 ?_)
  refine g_icge (tg := 177) rfl ms_476_177 hC (fun h1 hC => ?_) (fun h1 hC => ?_)
  · have hp := hp.1 h1
    refine g_aload_n rfl (g_getR (mz_at hS (Nat.le_of_ble_eq_true rfl) mzcS_232) mzcf_12_132 (mz_rb hR (Nat.le_of_ble_eq_true rfl) rfl mzcR_232_132) (g_iload rfl (g_iconst mzi_2 (g_idiv (by decide) (g_dup2 rfl rfl ?_)))))
    obtain ⟨h2, hp⟩ := hp
    refine g_bald (mz_at hS (Nat.le_of_ble_eq_true rfl) mzcS_332) h2 (g_aload_n rfl (g_getR (mz_at hS (Nat.le_of_ble_eq_true rfl) mzcS_232) mzcf_12_5 (mz_rb hR (Nat.le_of_ble_eq_true rfl) rfl mzcR_232_5) (g_bipush mzb_48 (g_iload_n rfl (g_imul (g_iload rfl (g_iadd ?_)))))))
    obtain ⟨h3, hp⟩ := hp
    refine g_iald hS.1 (mz_at hS (Nat.le_of_ble_eq_true rfl) mzcS_234) h3 (g_iconst mzi_4 (g_iload rfl (g_iconst mzi_2 (g_irem (by decide) (g_imul (g_ishl (g_i2b ?_)))))))
    refine g_ior (g_i2b ?_)
    obtain ⟨h4, hp⟩ := hp
    refine g_bast (mz_at hS (Nat.le_of_ble_eq_true rfl) mzcS_332) h4 ?_
    refine g_weak ?_ (g_cl (cg_476_171 hd hS hR v3 s.1 (mz_wI s.2 332 (s.1 / 2) (mz_nb (mz_i2b ((mz_gI s.2 332 (s.1 / 2)) ||| (mz_i2b (mz_ishl (mz_gI s.2 234 ((48 * v3) + s.1)) (4 * (mz_irem s.1 2)))))))) hr hc1 hx1 hp hC))
    exact ⟨rfl, rfl, rfl, trivial⟩
  · have hp := hp.2 h1
    refine g_goto (tg := 444) rfl ms_476_444 ?_
    exact g_vret rfl (hr _ (hx1 _ hC))
theorem cg_476_131 (hd : 2 ≤ d) (hS : mz_extR S 342) (hR : mz_rok R 342)  (v3 : Int32) (v4 : Int32) (N : mz_N) {C0 : (mz_N) → Prop} (hr : ∀ (N2 : mz_N), C0 N2 → Q (.inl none) (mz_k S R N2 b t)) (hp : cp_476_131 v3 v4 N) (hC : C0 (cf_476_131 v3 v4 N)) : mz_G (d, mz_X0 L xs, none, [], mk_476, 5, Q) 131 mt_476_131 [(0, .ref 232), (3, .int v3), (4, .int v4)] [] false (mz_k S R N b t) := by
  obtain ⟨n, hn⟩ := hp
  exact g_loop (G := fun s => mz_G (d, mz_X0 L xs, none, [], mk_476, 5, Q) 131 mt_476_131 [(0, .ref 232), (3, .int v3), (4, .int s.1)] [] false (mz_k S R s.2 b t)) (C := C0) (fun C2 hc hx s hP hC => cb_476_131 hd hS hR v3 s hr hc hx hP hC) n (v4, N) hn hC
theorem cb_476_263 (hd : 2 ≤ d) (hS : mz_extR S 342) (hR : mz_rok R 342)  (v3 : Int32) (s : Int32 × mz_N) {C0 : (mz_N) → Prop} (hr : ∀ (N2 : mz_N), C0 N2 → Q (.inl none) (mz_k S R N2 b t)) {C1 : ((Int32 × mz_N) ⊕ (mz_N)) → Prop} (hc1 : ∀ s2, C1 (.inl s2) → mz_G (d, mz_X0 L xs, none, [], mk_476, 5, Q) 263 mt_476_263 [(0, .ref 232), (3, .int v3), (4, .int s2.1)] [] false (mz_k S R s2.2 b t)) (hx1 : ∀ z, C1 (.inr z) → C0 z) (hp : cd_476_263 v3 s) (hC : C1 (cq_476_263 v3 s)) : mz_G (d, mz_X0 L xs, none, [], mk_476, 5, Q) 263 mt_476_263 [(0, .ref 232), (3, .int v3), (4, .int s.1)] [] false (mz_k S R s.2 b t) := by
  unfold cq_476_263 at hC
  unfold cd_476_263 at hp
  refine g_iload rfl (g_bipush mzb_24 ?_)
  refine g_icge (tg := 296) rfl ms_476_296 hC (fun h1 hC => ?_) (fun h1 hC => ?_)
  · have hp := hp.1 h1
    refine g_aload_n rfl (g_getR (mz_at hS (Nat.le_of_ble_eq_true rfl) mzcS_232) mzcf_12_132 (mz_rb hR (Nat.le_of_ble_eq_true rfl) rfl mzcR_232_132) (g_iload rfl (g_aload_n rfl (g_getR (mz_at hS (Nat.le_of_ble_eq_true rfl) mzcS_232) mzcf_12_18 (mz_rb hR (Nat.le_of_ble_eq_true rfl) rfl mzcR_232_18) (g_bipush mzb_24 (g_iload_n rfl (g_imul ?_)))))))
    refine g_iload rfl (g_iadd ?_)
    obtain ⟨h2, hp⟩ := hp
    refine g_iald hS.1 (mz_at hS (Nat.le_of_ble_eq_true rfl) mzcS_246) h2 (g_i2b ?_)
    have h3 := hp
    refine g_bast (mz_at hS (Nat.le_of_ble_eq_true rfl) mzcS_332) h3 (g_iinc rfl mzi_1 (Nat.le_of_ble_eq_true rfl) rfl (g_goto (tg := 263) rfl ms_476_263 ?_))
    refine g_weak ?_ (g_cl (hc1 ((s.1 + 1), mz_wI s.2 332 s.1 (mz_nb (mz_i2b (mz_gI s.2 246 ((24 * v3) + s.1))))) hC))
    exact ⟨rfl, rfl, rfl, trivial⟩
  · have hp := hp.2 h1
    refine g_goto (tg := 444) rfl ms_476_444 ?_
    exact g_vret rfl (hr _ (hx1 _ hC))
theorem cg_476_263 (hd : 2 ≤ d) (hS : mz_extR S 342) (hR : mz_rok R 342)  (v3 : Int32) (v4 : Int32) (N : mz_N) {C0 : (mz_N) → Prop} (hr : ∀ (N2 : mz_N), C0 N2 → Q (.inl none) (mz_k S R N2 b t)) (hp : cp_476_263 v3 v4 N) (hC : C0 (cf_476_263 v3 v4 N)) : mz_G (d, mz_X0 L xs, none, [], mk_476, 5, Q) 263 mt_476_263 [(0, .ref 232), (3, .int v3), (4, .int v4)] [] false (mz_k S R N b t) := by
  obtain ⟨n, hn⟩ := hp
  exact g_loop (G := fun s => mz_G (d, mz_X0 L xs, none, [], mk_476, 5, Q) 263 mt_476_263 [(0, .ref 232), (3, .int v3), (4, .int s.1)] [] false (mz_k S R s.2 b t)) (C := C0) (fun C2 hc hx s hP hC => cb_476_263 hd hS hR v3 s hr hc hx hP hC) n (v4, N) hn hC
theorem cg_476_366 (hd : 2 ≤ d) (hS : mz_extR S 342) (hR : mz_rok R 342)  (s1 : Int32) (s2 : Int32) (N : mz_N) {C0 : (mz_N) → Prop} (hr : ∀ (N2 : mz_N), C0 N2 → Q (.inl none) (mz_k S R N2 b t)) (hp : cp_476_366 s1 s2 N) (hC : C0 (cf_476_366 s1 s2 N)) : mz_G (d, mz_X0 L xs, none, [], mk_476, 5, Q) 366 mt_476_366 [] [.int s2, .int s1, .ref 332] false (mz_k S R N b t) := by
  unfold cf_476_366 at hC
  unfold cp_476_366 at hp
  have h1 := hp
  refine g_bast (mz_at hS (Nat.le_of_ble_eq_true rfl) mzcS_332) h1 (g_goto (tg := 444) rfl ms_476_444 ?_)
  exact g_vret rfl (hr _ hC)
theorem cg_476_341 (hd : 2 ≤ d) (hS : mz_extR S 342) (hR : mz_rok R 342)  (v3 : Int32) (N : mz_N) {C0 : (mz_N) → Prop} (hr : ∀ (N2 : mz_N), C0 N2 → Q (.inl none) (mz_k S R N2 b t)) (hp : cp_476_341 v3 N) (hC : C0 (cf_476_341 v3 N)) : mz_G (d, mz_X0 L xs, none, [], mk_476, 5, Q) 341 mt_476_341 [(0, .ref 232), (3, .int v3)] [] false (mz_k S R N b t) := by
  unfold cf_476_341 at hC
  unfold cp_476_341 at hp
  refine g_aload_n rfl (g_getR (mz_at hS (Nat.le_of_ble_eq_true rfl) mzcS_232) mzcf_12_132 (mz_rb hR (Nat.le_of_ble_eq_true rfl) rfl mzcR_232_132) (g_iconst mzi_0 (g_iload_n rfl (g_bipush mzb_7 ?_))))
  refine g_icne (tg := 360) rfl ms_476_360 hC (fun h1 hC => ?_) (fun h1 hC => ?_)
  · have hp := hp.1 h1
    refine g_aload_n rfl (g_getI (mz_at hS (Nat.le_of_ble_eq_true rfl) mzcS_232) mzcf_12_27 (g_i2b (g_goto (tg := 366) rfl ms_476_366 ?_)))
    refine g_weak ?_ (g_cl (cg_476_366 hd hS hR 0 (mz_i2b (N.1 232 27)) N hr hp hC))
    exact trivial
  · have hp := hp.2 h1
    refine g_aload_n rfl (g_getR (mz_at hS (Nat.le_of_ble_eq_true rfl) mzcS_232) mzcf_12_132 (mz_rb hR (Nat.le_of_ble_eq_true rfl) rfl mzcR_232_132) (g_iconst mzi_0 (g_bald (mz_at hS (Nat.le_of_ble_eq_true rfl) mzcS_332) (mz_ibd (by decide)) ?_)))
    refine g_weak ?_ (g_cl (cg_476_366 hd hS hR 0 (mz_gI N 332 0) N hr hp hC))
    exact trivial
theorem cb_476_302 (hd : 2 ≤ d) (hS : mz_extR S 342) (hR : mz_rok R 342)  (v3 : Int32) (s : Int32 × mz_N) {C0 : (mz_N) → Prop} (hr : ∀ (N2 : mz_N), C0 N2 → Q (.inl none) (mz_k S R N2 b t)) {C1 : ((Int32 × mz_N) ⊕ (mz_N)) → Prop} (hc1 : ∀ s2, C1 (.inl s2) → mz_G (d, mz_X0 L xs, none, [], mk_476, 5, Q) 302 mt_476_302 [(0, .ref 232), (3, .int v3), (4, .int s2.1)] [] false (mz_k S R s2.2 b t)) (hx1 : ∀ z, C1 (.inr z) → C0 z) (hp : cd_476_302 v3 s) (hC : C1 (cq_476_302 v3 s)) : mz_G (d, mz_X0 L xs, none, [], mk_476, 5, Q) 302 mt_476_302 [(0, .ref 232), (3, .int v3), (4, .int s.1)] [] false (mz_k S R s.2 b t) := by
  unfold cq_476_302 at hC
  unfold cd_476_302 at hp
  refine g_iload rfl (g_bipush mzb_28 ?_)
  refine g_icge (tg := 341) rfl ms_476_341 hC (fun h1 hC => ?_) (fun h1 hC => ?_)
  · have hp := hp.1 h1
    refine g_iload_n rfl (g_bipush mzb_7 ?_)
    refine g_icge (tg := 341) rfl ms_476_341 hC (fun h2 hC => ?_) (fun h2 hC => ?_)
    · have hp := hp.1 h2
      refine g_aload_n rfl (g_getR (mz_at hS (Nat.le_of_ble_eq_true rfl) mzcS_232) mzcf_12_132 (mz_rb hR (Nat.le_of_ble_eq_true rfl) rfl mzcR_232_132) (g_iload rfl (g_aload_n rfl (g_getR (mz_at hS (Nat.le_of_ble_eq_true rfl) mzcS_232) mzcf_12_26 (mz_rb hR (Nat.le_of_ble_eq_true rfl) rfl mzcR_232_26) (g_bipush mzb_28 (g_iload_n rfl (g_imul ?_)))))))
      refine g_iload rfl (g_iadd ?_)
      obtain ⟨h3, hp⟩ := hp
      refine g_iald hS.1 (mz_at hS (Nat.le_of_ble_eq_true rfl) mzcS_252) h3 (g_i2b ?_)
      have h4 := hp
      refine g_bast (mz_at hS (Nat.le_of_ble_eq_true rfl) mzcS_332) h4 (g_iinc rfl mzi_1 (Nat.le_of_ble_eq_true rfl) rfl (g_goto (tg := 302) rfl ms_476_302 ?_))
      refine g_weak ?_ (g_cl (hc1 ((s.1 + 1), mz_wI s.2 332 s.1 (mz_nb (mz_i2b (mz_gI s.2 252 ((28 * v3) + s.1))))) hC))
      exact ⟨rfl, rfl, rfl, trivial⟩
    · have hp := hp.2 h2
      refine g_weak ?_ (g_cl (cg_476_341 hd hS hR v3 s.2 hr hp (hx1 _ hC)))
      exact ⟨rfl, rfl, trivial⟩
  · have hp := hp.2 h1
    refine g_weak ?_ (g_cl (cg_476_341 hd hS hR v3 s.2 hr hp (hx1 _ hC)))
    exact ⟨rfl, rfl, trivial⟩
theorem cg_476_302 (hd : 2 ≤ d) (hS : mz_extR S 342) (hR : mz_rok R 342)  (v3 : Int32) (v4 : Int32) (N : mz_N) {C0 : (mz_N) → Prop} (hr : ∀ (N2 : mz_N), C0 N2 → Q (.inl none) (mz_k S R N2 b t)) (hp : cp_476_302 v3 v4 N) (hC : C0 (cf_476_302 v3 v4 N)) : mz_G (d, mz_X0 L xs, none, [], mk_476, 5, Q) 302 mt_476_302 [(0, .ref 232), (3, .int v3), (4, .int v4)] [] false (mz_k S R N b t) := by
  obtain ⟨n, hn⟩ := hp
  exact g_loop (G := fun s => mz_G (d, mz_X0 L xs, none, [], mk_476, 5, Q) 302 mt_476_302 [(0, .ref 232), (3, .int v3), (4, .int s.1)] [] false (mz_k S R s.2 b t)) (C := C0) (fun C2 hc hx s hP hC => cb_476_302 hd hS hR v3 s hr hc hx hP hC) n (v4, N) hn hC
theorem cg_476_119 (hd : 2 ≤ d) (hS : mz_extR S 342) (hR : mz_rok R 342)  (v3 : Int32) (v4 : Int32) (N : mz_N) {C0 : (mz_N) → Prop} (hr : ∀ (N2 : mz_N), C0 N2 → Q (.inl none) (mz_k S R N2 b t)) {C1 : ((Int32 × mz_N) ⊕ (mz_N)) → Prop} (hc1 : ∀ s2, C1 (.inl s2) → mz_G (d, mz_X0 L xs, none, [], mk_476, 5, Q) 79 mt_476_79 [(0, .ref 232), (3, .int v3), (4, .int s2.1)] [] false (mz_k S R s2.2 b t)) (hx1 : ∀ z, C1 (.inr z) → C0 z) (hp : cp_476_119 v3 v4 N) (hC : C1 (cf_476_119 v3 v4 N)) : mz_G (d, mz_X0 L xs, none, [], mk_476, 5, Q) 119 mt_476_119 [(0, .ref 232), (3, .int v3), (4, .int v4)] [] false (mz_k S R N b t) := by
  unfold cf_476_119 at hC
  unfold cp_476_119 at hp
  refine g_iinc rfl mzi_1 (Nat.le_of_ble_eq_true rfl) rfl (g_goto (tg := 79) rfl ms_476_79 ?_)
  refine g_weak ?_ (g_cl (hc1 ((v4 + 1), N) hC))
  exact ⟨rfl, rfl, rfl, trivial⟩
theorem cb_476_79 (hd : 2 ≤ d) (hS : mz_extR S 342) (hR : mz_rok R 342)  (v3 : Int32) (s : Int32 × mz_N) {C0 : (mz_N) → Prop} (hr : ∀ (N2 : mz_N), C0 N2 → Q (.inl none) (mz_k S R N2 b t)) {C1 : ((Int32 × mz_N) ⊕ (mz_N)) → Prop} (hc1 : ∀ s2, C1 (.inl s2) → mz_G (d, mz_X0 L xs, none, [], mk_476, 5, Q) 79 mt_476_79 [(0, .ref 232), (3, .int v3), (4, .int s2.1)] [] false (mz_k S R s2.2 b t)) (hx1 : ∀ z, C1 (.inr z) → C0 z) (hp : cd_476_79 v3 s) (hC : C1 (cq_476_79 v3 s)) : mz_G (d, mz_X0 L xs, none, [], mk_476, 5, Q) 79 mt_476_79 [(0, .ref 232), (3, .int v3), (4, .int s.1)] [] false (mz_k S R s.2 b t) := by
  unfold cq_476_79 at hC
  unfold cd_476_79 at hp
  refine g_iload rfl (g_bipush mzb_110 ?_)
  refine g_icge (tg := 125) rfl ms_476_125 hC (fun h1 hC => ?_) (fun h1 hC => ?_)
  · have hp := hp.1 h1
    refine g_aload_n rfl (g_getR (mz_at hS (Nat.le_of_ble_eq_true rfl) mzcS_232) mzcf_12_132 (mz_rb hR (Nat.le_of_ble_eq_true rfl) rfl mzcR_232_132) (g_iload rfl (g_iconst mzi_4 (g_idiv (by decide) (g_dup2 rfl rfl ?_)))))
    obtain ⟨h2, hp⟩ := hp
    refine g_bald (mz_at hS (Nat.le_of_ble_eq_true rfl) mzcS_332) h2 (g_aload_n rfl (g_getR (mz_at hS (Nat.le_of_ble_eq_true rfl) mzcS_232) mzcf_12_3 (mz_rb hR (Nat.le_of_ble_eq_true rfl) rfl mzcR_232_3) (g_bipush mzb_110 (g_iload_n rfl (g_imul (g_iload rfl (g_iadd ?_)))))))
    obtain ⟨h3, hp⟩ := hp
    refine g_iald hS.1 (mz_at hS (Nat.le_of_ble_eq_true rfl) mzcS_233) h3 (g_iconst mzi_2 (g_iload rfl (g_iconst mzi_4 (g_irem (by decide) (g_imul (g_ishl (g_i2b ?_)))))))
    refine g_ior (g_i2b ?_)
    obtain ⟨h4, hp⟩ := hp
    refine g_bast (mz_at hS (Nat.le_of_ble_eq_true rfl) mzcS_332) h4 ?_
    refine g_weak ?_ (g_cl (cg_476_119 hd hS hR v3 s.1 (mz_wI s.2 332 (s.1 / 4) (mz_nb (mz_i2b ((mz_gI s.2 332 (s.1 / 4)) ||| (mz_i2b (mz_ishl (mz_gI s.2 233 ((110 * v3) + s.1)) (2 * (mz_irem s.1 4)))))))) hr hc1 hx1 hp hC))
    exact ⟨rfl, rfl, rfl, trivial⟩
  · have hp := hp.2 h1
    refine g_goto (tg := 444) rfl ms_476_444 ?_
    exact g_vret rfl (hr _ (hx1 _ hC))
theorem cg_476_79 (hd : 2 ≤ d) (hS : mz_extR S 342) (hR : mz_rok R 342)  (v3 : Int32) (v4 : Int32) (N : mz_N) {C0 : (mz_N) → Prop} (hr : ∀ (N2 : mz_N), C0 N2 → Q (.inl none) (mz_k S R N2 b t)) (hp : cp_476_79 v3 v4 N) (hC : C0 (cf_476_79 v3 v4 N)) : mz_G (d, mz_X0 L xs, none, [], mk_476, 5, Q) 79 mt_476_79 [(0, .ref 232), (3, .int v3), (4, .int v4)] [] false (mz_k S R N b t) := by
  obtain ⟨n, hn⟩ := hp
  exact g_loop (G := fun s => mz_G (d, mz_X0 L xs, none, [], mk_476, 5, Q) 79 mt_476_79 [(0, .ref 232), (3, .int v3), (4, .int s.1)] [] false (mz_k S R s.2 b t)) (C := C0) (fun C2 hc hx s hP hC => cb_476_79 hd hS hR v3 s hr hc hx hP hC) n (v4, N) hn hC
theorem cg_476_426 (hd : 2 ≤ d) (hS : mz_extR S 342) (hR : mz_rok R 342)  (s1 : Int32) (s2 : Int32) (s3 : Int64) (v3 : Int32) (v4 : Int32) (N : mz_N) {C0 : (mz_N) → Prop} (hr : ∀ (N2 : mz_N), C0 N2 → Q (.inl none) (mz_k S R N2 b t)) {C1 : ((Int32 × mz_N) ⊕ (mz_N)) → Prop} (hc1 : ∀ s2, C1 (.inl s2) → mz_G (d, mz_X0 L xs, none, [], mk_476, 5, Q) 373 mt_476_373 [(0, .ref 232), (3, .int v3), (4, .int s2.1)] [] false (mz_k S R s2.2 b t)) (hx1 : ∀ z, C1 (.inr z) → C0 z) (hp : cp_476_426 s1 s2 s3 v3 v4 N) (hC : C1 (cf_476_426 s1 s2 s3 v3 v4 N)) : mz_G (d, mz_X0 L xs, none, [], mk_476, 5, Q) 426 mt_476_426 [(0, .ref 232), (3, .int v3), (4, .int v4)] [.long s3, .int s2, .int s1, .ref 232] false (mz_k S R N b t) := by
  unfold cf_476_426 at hC
  unfold cp_476_426 at hp
  have h1 := hp
  refine g_v4n (Nat.le_of_ble_eq_true rfl) (mz_at hS (Nat.le_of_ble_eq_true rfl) mzcS_232) (fun _ hq => cs_410 (Nat.le_trans (Nat.le_of_ble_eq_true rfl) hd) (hS.le (Nat.le_of_ble_eq_true rfl)) (hR.le (Nat.le_of_ble_eq_true rfl))  s1 s2 s3 N h1 hq) (g_iinc rfl mzi_1 (Nat.le_of_ble_eq_true rfl) rfl (g_goto (tg := 373) rfl ms_476_373 ?_))
  refine g_weak ?_ (g_cl (hc1 ((v4 + 1), (cf_410_0 s1 s2 s3 N)) hC))
  exact ⟨rfl, rfl, rfl, trivial⟩
theorem cg_476_403 (hd : 2 ≤ d) (hS : mz_extR S 342) (hR : mz_rok R 342)  (s1 : Int32) (s2 : Int32) (v3 : Int32) (v4 : Int32) (N : mz_N) {C0 : (mz_N) → Prop} (hr : ∀ (N2 : mz_N), C0 N2 → Q (.inl none) (mz_k S R N2 b t)) {C1 : ((Int32 × mz_N) ⊕ (mz_N)) → Prop} (hc1 : ∀ s2, C1 (.inl s2) → mz_G (d, mz_X0 L xs, none, [], mk_476, 5, Q) 373 mt_476_373 [(0, .ref 232), (3, .int v3), (4, .int s2.1)] [] false (mz_k S R s2.2 b t)) (hx1 : ∀ z, C1 (.inr z) → C0 z) (hp : cp_476_403 s1 s2 v3 v4 N) (hC : C1 (cf_476_403 s1 s2 v3 v4 N)) : mz_G (d, mz_X0 L xs, none, [], mk_476, 5, Q) 403 mt_476_403 [(0, .ref 232), (3, .int v3), (4, .int v4)] [.int s2, .int s1, .ref 232] false (mz_k S R N b t) := by
  unfold cf_476_403 at hC
  unfold cp_476_403 at hp
  refine g_iload_n rfl ?_
  refine g_ifne (tg := 418) rfl ms_476_418 hC (fun h1 hC => ?_) (fun h1 hC => ?_)
  · have hp := hp.1 h1
    refine g_aload_n rfl (g_getR (mz_at hS (Nat.le_of_ble_eq_true rfl) mzcS_232) mzcf_12_19 (mz_rb hR (Nat.le_of_ble_eq_true rfl) rfl mzcR_232_19) (g_iload rfl ?_))
    obtain ⟨h2, hp⟩ := hp
    refine g_iald hS.1 (mz_at hS (Nat.le_of_ble_eq_true rfl) mzcS_247) h2 (g_i2l (g_goto (tg := 426) rfl ms_476_426 ?_))
    refine g_weak ?_ (g_cl (cg_476_426 hd hS hR s1 s2 ((mz_gI N 247 v4).toInt64) v3 v4 N hr hc1 hx1 hp hC))
    exact ⟨rfl, rfl, rfl, trivial⟩
  · have hp := hp.2 h1
    refine g_aload_n rfl (g_getR (mz_at hS (Nat.le_of_ble_eq_true rfl) mzcS_232) mzcf_12_20 (mz_rb hR (Nat.le_of_ble_eq_true rfl) rfl mzcR_232_20) (g_iload rfl ?_))
    obtain ⟨h3, hp⟩ := hp
    refine g_iald hS.1 (mz_at hS (Nat.le_of_ble_eq_true rfl) mzcS_248) h3 (g_i2l ?_)
    refine g_weak ?_ (g_cl (cg_476_426 hd hS hR s1 s2 ((mz_gI N 248 v4).toInt64) v3 v4 N hr hc1 hx1 hp hC))
    exact ⟨rfl, rfl, rfl, trivial⟩
theorem cg_476_394 (hd : 2 ≤ d) (hS : mz_extR S 342) (hR : mz_rok R 342)  (s1 : Int32) (v3 : Int32) (v4 : Int32) (N : mz_N) {C0 : (mz_N) → Prop} (hr : ∀ (N2 : mz_N), C0 N2 → Q (.inl none) (mz_k S R N2 b t)) {C1 : ((Int32 × mz_N) ⊕ (mz_N)) → Prop} (hc1 : ∀ s2, C1 (.inl s2) → mz_G (d, mz_X0 L xs, none, [], mk_476, 5, Q) 373 mt_476_373 [(0, .ref 232), (3, .int v3), (4, .int s2.1)] [] false (mz_k S R s2.2 b t)) (hx1 : ∀ z, C1 (.inr z) → C0 z) (hp : cp_476_394 s1 v3 v4 N) (hC : C1 (cf_476_394 s1 v3 v4 N)) : mz_G (d, mz_X0 L xs, none, [], mk_476, 5, Q) 394 mt_476_394 [(0, .ref 232), (3, .int v3), (4, .int v4)] [.int s1, .ref 232] false (mz_k S R N b t) := by
  unfold cf_476_394 at hC
  unfold cp_476_394 at hp
  refine g_iload_n rfl ?_
  refine g_ifne (tg := 402) rfl ms_476_402 hC (fun h1 hC => ?_) (fun h1 hC => ?_)
  · have hp := hp.1 h1
    refine g_iconst mzi_2 (g_goto (tg := 403) rfl ms_476_403 ?_)
    refine g_weak ?_ (g_cl (cg_476_403 hd hS hR s1 2 v3 v4 N hr hc1 hx1 hp hC))
    exact ⟨rfl, rfl, rfl, trivial⟩
  · have hp := hp.2 h1
    refine g_iconst mzi_1 ?_
    refine g_weak ?_ (g_cl (cg_476_403 hd hS hR s1 1 v3 v4 N hr hc1 hx1 hp hC))
    exact ⟨rfl, rfl, rfl, trivial⟩
theorem cb_476_373 (hd : 2 ≤ d) (hS : mz_extR S 342) (hR : mz_rok R 342)  (v3 : Int32) (s : Int32 × mz_N) {C0 : (mz_N) → Prop} (hr : ∀ (N2 : mz_N), C0 N2 → Q (.inl none) (mz_k S R N2 b t)) {C1 : ((Int32 × mz_N) ⊕ (mz_N)) → Prop} (hc1 : ∀ s2, C1 (.inl s2) → mz_G (d, mz_X0 L xs, none, [], mk_476, 5, Q) 373 mt_476_373 [(0, .ref 232), (3, .int v3), (4, .int s2.1)] [] false (mz_k S R s2.2 b t)) (hx1 : ∀ z, C1 (.inr z) → C0 z) (hp : cd_476_373 v3 s) (hC : C1 (cq_476_373 v3 s)) : mz_G (d, mz_X0 L xs, none, [], mk_476, 5, Q) 373 mt_476_373 [(0, .ref 232), (3, .int v3), (4, .int s.1)] [] false (mz_k S R s.2 b t) := by
  unfold cq_476_373 at hC
  unfold cd_476_373 at hp
  refine g_iload rfl (g_bipush mzb_11 ?_)
  refine g_icge (tg := 435) rfl ms_476_435 hC (fun h1 hC => ?_) (fun h1 hC => ?_)
  · have hp := hp.1 h1
    refine g_aload_n rfl (g_iload_n rfl ?_)
    refine g_ifne (tg := 392) rfl ms_476_392 hC (fun h2 hC => ?_) (fun h2 hC => ?_)
    · have hp := hp.1 h2
      refine g_iconst mzi_2 (g_iload rfl (g_imul (g_goto (tg := 394) rfl ms_476_394 ?_)))
      refine g_weak ?_ (g_cl (cg_476_394 hd hS hR (2 * s.1) v3 s.1 s.2 hr hc1 hx1 hp hC))
      exact ⟨rfl, rfl, rfl, trivial⟩
    · have hp := hp.2 h2
      refine g_iload rfl ?_
      refine g_weak ?_ (g_cl (cg_476_394 hd hS hR s.1 v3 s.1 s.2 hr hc1 hx1 hp hC))
      exact ⟨rfl, rfl, rfl, trivial⟩
  · have hp := hp.2 h1
    refine g_goto (tg := 444) rfl ms_476_444 ?_
    exact g_vret rfl (hr _ (hx1 _ hC))
theorem cg_476_373 (hd : 2 ≤ d) (hS : mz_extR S 342) (hR : mz_rok R 342)  (v3 : Int32) (v4 : Int32) (N : mz_N) {C0 : (mz_N) → Prop} (hr : ∀ (N2 : mz_N), C0 N2 → Q (.inl none) (mz_k S R N2 b t)) (hp : cp_476_373 v3 v4 N) (hC : C0 (cf_476_373 v3 v4 N)) : mz_G (d, mz_X0 L xs, none, [], mk_476, 5, Q) 373 mt_476_373 [(0, .ref 232), (3, .int v3), (4, .int v4)] [] false (mz_k S R N b t) := by
  obtain ⟨n, hn⟩ := hp
  exact g_loop (G := fun s => mz_G (d, mz_X0 L xs, none, [], mk_476, 5, Q) 373 mt_476_373 [(0, .ref 232), (3, .int v3), (4, .int s.1)] [] false (mz_k S R s.2 b t)) (C := C0) (fun C2 hc hx s hP hC => cb_476_373 hd hS hR v3 s hr hc hx hP hC) n (v4, N) hn hC
theorem cb_476_183 (hd : 2 ≤ d) (hS : mz_extR S 342) (hR : mz_rok R 342)  (v3 : Int32) (s : Int32 × mz_N) {C0 : (mz_N) → Prop} (hr : ∀ (N2 : mz_N), C0 N2 → Q (.inl none) (mz_k S R N2 b t)) {C1 : ((Int32 × mz_N) ⊕ (mz_N)) → Prop} (hc1 : ∀ s2, C1 (.inl s2) → mz_G (d, mz_X0 L xs, none, [], mk_476, 5, Q) 183 mt_476_183 [(0, .ref 232), (3, .int v3), (4, .int s2.1)] [] false (mz_k S R s2.2 b t)) (hx1 : ∀ z, C1 (.inr z) → C0 z) (hp : cd_476_183 v3 s) (hC : C1 (cq_476_183 v3 s)) : mz_G (d, mz_X0 L xs, none, [], mk_476, 5, Q) 183 mt_476_183 [(0, .ref 232), (3, .int v3), (4, .int s.1)] [] false (mz_k S R s.2 b t) := by
  unfold cq_476_183 at hC
  unfold cd_476_183 at hp
  refine g_iload rfl (g_bipush mzb_24 ?_)
  refine g_icge (tg := 216) rfl ms_476_216 hC (fun h1 hC => ?_) (fun h1 hC => ?_)
  · have hp := hp.1 h1
    refine g_aload_n rfl (g_getR (mz_at hS (Nat.le_of_ble_eq_true rfl) mzcS_232) mzcf_12_132 (mz_rb hR (Nat.le_of_ble_eq_true rfl) rfl mzcR_232_132) (g_iload rfl (g_aload_n rfl (g_getR (mz_at hS (Nat.le_of_ble_eq_true rfl) mzcS_232) mzcf_12_16 (mz_rb hR (Nat.le_of_ble_eq_true rfl) rfl mzcR_232_16) (g_bipush mzb_24 (g_iload_n rfl (g_imul ?_)))))))
    refine g_iload rfl (g_iadd ?_)
    obtain ⟨h2, hp⟩ := hp
    refine g_iald hS.1 (mz_at hS (Nat.le_of_ble_eq_true rfl) mzcS_244) h2 (g_i2b ?_)
    have h3 := hp
    refine g_bast (mz_at hS (Nat.le_of_ble_eq_true rfl) mzcS_332) h3 (g_iinc rfl mzi_1 (Nat.le_of_ble_eq_true rfl) rfl (g_goto (tg := 183) rfl ms_476_183 ?_))
    refine g_weak ?_ (g_cl (hc1 ((s.1 + 1), mz_wI s.2 332 s.1 (mz_nb (mz_i2b (mz_gI s.2 244 ((24 * v3) + s.1))))) hC))
    exact ⟨rfl, rfl, rfl, trivial⟩
  · have hp := hp.2 h1
    refine g_goto (tg := 444) rfl ms_476_444 ?_
    exact g_vret rfl (hr _ (hx1 _ hC))
theorem cg_476_183 (hd : 2 ≤ d) (hS : mz_extR S 342) (hR : mz_rok R 342)  (v3 : Int32) (v4 : Int32) (N : mz_N) {C0 : (mz_N) → Prop} (hr : ∀ (N2 : mz_N), C0 N2 → Q (.inl none) (mz_k S R N2 b t)) (hp : cp_476_183 v3 v4 N) (hC : C0 (cf_476_183 v3 v4 N)) : mz_G (d, mz_X0 L xs, none, [], mk_476, 5, Q) 183 mt_476_183 [(0, .ref 232), (3, .int v3), (4, .int v4)] [] false (mz_k S R N b t) := by
  obtain ⟨n, hn⟩ := hp
  exact g_loop (G := fun s => mz_G (d, mz_X0 L xs, none, [], mk_476, 5, Q) 183 mt_476_183 [(0, .ref 232), (3, .int v3), (4, .int s.1)] [] false (mz_k S R s.2 b t)) (C := C0) (fun C2 hc hx s hP hC => cb_476_183 hd hS hR v3 s hr hc hx hP hC) n (v4, N) hn hC
theorem cb_476_222 (hd : 2 ≤ d) (hS : mz_extR S 342) (hR : mz_rok R 342)  (v3 : Int32) (s : Int32 × mz_N) {C0 : (mz_N) → Prop} (hr : ∀ (N2 : mz_N), C0 N2 → Q (.inl none) (mz_k S R N2 b t)) {C1 : ((Int32 × mz_N) ⊕ (mz_N)) → Prop} (hc1 : ∀ s2, C1 (.inl s2) → mz_G (d, mz_X0 L xs, none, [], mk_476, 5, Q) 222 mt_476_222 [(0, .ref 232), (3, .int v3), (4, .int s2.1)] [] false (mz_k S R s2.2 b t)) (hx1 : ∀ z, C1 (.inr z) → C0 z) (hp : cd_476_222 v3 s) (hC : C1 (cq_476_222 v3 s)) : mz_G (d, mz_X0 L xs, none, [], mk_476, 5, Q) 222 mt_476_222 [(0, .ref 232), (3, .int v3), (4, .int s.1)] [] false (mz_k S R s.2 b t) := by
  unfold cq_476_222 at hC
  unfold cd_476_222 at hp
  refine g_iload rfl (g_bipush mzb_12 ?_)
  refine g_icge (tg := 257) rfl ms_476_257 hC (fun h1 hC => ?_) (fun h1 hC => ?_)
  · have hp := hp.1 h1
    refine g_aload_n rfl (g_iconst mzi_2 (g_iload rfl (g_imul (g_iconst mzi_2 (g_aload_n rfl (g_getR (mz_at hS (Nat.le_of_ble_eq_true rfl) mzcS_232) mzcf_12_17 (mz_rb hR (Nat.le_of_ble_eq_true rfl) rfl mzcR_232_17) (g_bipush mzb_12 ?_)))))))
    refine g_iload_n rfl (g_imul (g_iload rfl (g_iadd ?_)))
    obtain ⟨h2, hp⟩ := hp
    refine g_iald hS.1 (mz_at hS (Nat.le_of_ble_eq_true rfl) mzcS_245) h2 (g_i2l ?_)
    have h3 := hp
    refine g_v4n (Nat.le_of_ble_eq_true rfl) (mz_at hS (Nat.le_of_ble_eq_true rfl) mzcS_232) (fun _ hq => cs_410 (Nat.le_trans (Nat.le_of_ble_eq_true rfl) hd) (hS.le (Nat.le_of_ble_eq_true rfl)) (hR.le (Nat.le_of_ble_eq_true rfl))  (2 * s.1) 2 ((mz_gI s.2 245 ((12 * v3) + s.1)).toInt64) s.2 h3 hq) (g_iinc rfl mzi_1 (Nat.le_of_ble_eq_true rfl) rfl (g_goto (tg := 222) rfl ms_476_222 ?_))
    refine g_weak ?_ (g_cl (hc1 ((s.1 + 1), (cf_410_0 (2 * s.1) 2 ((mz_gI s.2 245 ((12 * v3) + s.1)).toInt64) s.2)) hC))
    exact ⟨rfl, rfl, rfl, trivial⟩
  · have hp := hp.2 h1
    refine g_goto (tg := 444) rfl ms_476_444 ?_
    exact g_vret rfl (hr _ (hx1 _ hC))
theorem cg_476_222 (hd : 2 ≤ d) (hS : mz_extR S 342) (hR : mz_rok R 342)  (v3 : Int32) (v4 : Int32) (N : mz_N) {C0 : (mz_N) → Prop} (hr : ∀ (N2 : mz_N), C0 N2 → Q (.inl none) (mz_k S R N2 b t)) (hp : cp_476_222 v3 v4 N) (hC : C0 (cf_476_222 v3 v4 N)) : mz_G (d, mz_X0 L xs, none, [], mk_476, 5, Q) 222 mt_476_222 [(0, .ref 232), (3, .int v3), (4, .int v4)] [] false (mz_k S R N b t) := by
  obtain ⟨n, hn⟩ := hp
  exact g_loop (G := fun s => mz_G (d, mz_X0 L xs, none, [], mk_476, 5, Q) 222 mt_476_222 [(0, .ref 232), (3, .int v3), (4, .int s.1)] [] false (mz_k S R s.2 b t)) (C := C0) (fun C2 hc hx s hP hC => cb_476_222 hd hS hR v3 s hr hc hx hP hC) n (v4, N) hn hC
theorem cb_476_2 (hd : 2 ≤ d) (hS : mz_extR S 342) (hR : mz_rok R 342)  (v1 : Int32) (s : Int32 × mz_N) {C0 : (mz_N) → Prop} (hr : ∀ (N2 : mz_N), C0 N2 → Q (.inl none) (mz_k S R N2 b t)) {C1 : ((Int32 × mz_N) ⊕ (mz_N)) → Prop} (hc1 : ∀ s2, C1 (.inl s2) → mz_G (d, mz_X0 L xs, none, [], mk_476, 5, Q) 2 mt_476_2 [(0, .ref 232), (1, .int v1), (2, .int s2.1)] [] false (mz_k S R s2.2 b t)) (hx1 : ∀ z, C1 (.inr z) → C0 z) (hp : cd_476_2 v1 s) (hC : C1 (cq_476_2 v1 s)) : mz_G (d, mz_X0 L xs, none, [], mk_476, 5, Q) 2 mt_476_2 [(0, .ref 232), (1, .int v1), (2, .int s.1)] [] false (mz_k S R s.2 b t) := by
  unfold cq_476_2 at hC
  unfold cd_476_2 at hp
  refine g_iload_n rfl (g_bipush mzb_28 ?_)
  refine g_icge (tg := 21) rfl ms_476_21 hC (fun h1 hC => ?_) (fun h1 hC => ?_)
  · have hp := hp.1 h1
    refine g_aload_n rfl (g_getR (mz_at hS (Nat.le_of_ble_eq_true rfl) mzcS_232) mzcf_12_132 (mz_rb hR (Nat.le_of_ble_eq_true rfl) rfl mzcR_232_132) (g_iload_n rfl (g_iconst mzi_0 ?_)))
    have h2 := hp
    refine g_bast (mz_at hS (Nat.le_of_ble_eq_true rfl) mzcS_332) h2 (g_iinc rfl mzi_1 (Nat.le_of_ble_eq_true rfl) rfl (g_goto (tg := 2) rfl ms_476_2 ?_))
    refine g_weak ?_ (g_cl (hc1 ((s.1 + 1), mz_wI s.2 332 s.1 (mz_nb 0)) hC))
    exact ⟨rfl, rfl, rfl, trivial⟩
  · have hp := hp.2 h1
    refine g_iload_n rfl ?_
    obtain ⟨h3, hp⟩ := hp
    refine g_s1v (Nat.le_of_ble_eq_true rfl) (fun _ hq => cs_419 (Nat.le_trans (Nat.le_of_ble_eq_true rfl) hd) (hS.le (Nat.le_of_ble_eq_true rfl)) (hR.le (Nat.le_of_ble_eq_true rfl))  v1 h3 hq) (g_istore_n (Nat.le_of_ble_eq_true rfl) rfl (g_iload_n rfl (g_iload_n rfl ?_)))
    refine g_s1v (Nat.le_of_ble_eq_true rfl) (fun _ hq => cs_420 (Nat.le_trans (Nat.le_of_ble_eq_true rfl) hd) (hS.le (Nat.le_of_ble_eq_true rfl)) (hR.le (Nat.le_of_ble_eq_true rfl))  (cf_419_0 v1) trivial hq) (g_isub (g_istore_n (Nat.le_of_ble_eq_true rfl) rfl (g_iload_n rfl ?_)))
    refine mz_cs hC (fun h5 hC => ?_) (fun h5 hC => ?_)
    · have hp := hp.1 h5
      refine g_brn (tg := 76) (by rw [h5]; rfl) (by decide) rfl ?_
      refine g_iconst mzi_0 (g_istore (Nat.le_of_ble_eq_true rfl) rfl ?_)
      refine g_weak ?_ (g_cl (cg_476_79 hd hS hR (v1 - (cf_420_0 (cf_419_0 v1))) 0 s.2 hr hp (hx1 _ hC)))
      exact ⟨rfl, rfl, rfl, trivial⟩
    · have hp := hp.2 h5
      refine mz_cs hC (fun h6 hC => ?_) (fun h6 hC => ?_)
      · have hp := hp.1 h6
        refine g_br (tg := 128) (by rw [h6]; rfl) ms_476_128 ?_
        refine g_iconst mzi_0 (g_istore (Nat.le_of_ble_eq_true rfl) rfl ?_)
        refine g_weak ?_ (g_cl (cg_476_131 hd hS hR (v1 - (cf_420_0 (cf_419_0 v1))) 0 s.2 hr hp (hx1 _ hC)))
        exact ⟨rfl, rfl, rfl, trivial⟩
      · have hp := hp.2 h6
        refine mz_cs hC (fun h7 hC => ?_) (fun h7 hC => ?_)
        · have hp := hp.1 h7
          refine g_br (tg := 180) (by rw [h7]; rfl) ms_476_180 ?_
          refine g_iconst mzi_0 (g_istore (Nat.le_of_ble_eq_true rfl) rfl ?_)
          refine g_weak ?_ (g_cl (cg_476_183 hd hS hR (v1 - (cf_420_0 (cf_419_0 v1))) 0 s.2 hr hp (hx1 _ hC)))
          exact ⟨rfl, rfl, rfl, trivial⟩
        · have hp := hp.2 h7
          refine mz_cs hC (fun h8 hC => ?_) (fun h8 hC => ?_)
          · have hp := hp.1 h8
            refine g_br (tg := 219) (by rw [h8]; rfl) ms_476_219 ?_
            refine g_iconst mzi_0 (g_istore (Nat.le_of_ble_eq_true rfl) rfl ?_)
            refine g_weak ?_ (g_cl (cg_476_222 hd hS hR (v1 - (cf_420_0 (cf_419_0 v1))) 0 s.2 hr hp (hx1 _ hC)))
            exact ⟨rfl, rfl, rfl, trivial⟩
          · have hp := hp.2 h8
            refine mz_cs hC (fun h9 hC => ?_) (fun h9 hC => ?_)
            · have hp := hp.1 h9
              refine g_br (tg := 260) (by rw [h9]; rfl) ms_476_260 ?_
              refine g_iconst mzi_0 (g_istore (Nat.le_of_ble_eq_true rfl) rfl ?_)
              refine g_weak ?_ (g_cl (cg_476_263 hd hS hR (v1 - (cf_420_0 (cf_419_0 v1))) 0 s.2 hr hp (hx1 _ hC)))
              exact ⟨rfl, rfl, rfl, trivial⟩
            · have hp := hp.2 h9
              refine mz_cs hC (fun h10 hC => ?_) (fun h10 hC => ?_)
              · have hp := hp.1 h10
                refine g_br (tg := 299) (by rw [h10]; rfl) ms_476_299 ?_
                refine g_iconst mzi_0 (g_istore (Nat.le_of_ble_eq_true rfl) rfl ?_)
                refine g_weak ?_ (g_cl (cg_476_302 hd hS hR (v1 - (cf_420_0 (cf_419_0 v1))) 0 s.2 hr hp (hx1 _ hC)))
                exact ⟨rfl, rfl, rfl, trivial⟩
              · have hp := hp.2 h10
                refine mz_cs hC (fun h11 hC => ?_) (fun h11 hC => ?_)
                · have hp := hp.1 h11
                  refine g_br (tg := 370) (by rw [h11]; rfl) ms_476_370 ?_
                  refine g_iconst mzi_0 (g_istore (Nat.le_of_ble_eq_true rfl) rfl ?_)
                  refine g_weak ?_ (g_cl (cg_476_373 hd hS hR (v1 - (cf_420_0 (cf_419_0 v1))) 0 s.2 hr hp (hx1 _ hC)))
                  exact ⟨rfl, rfl, rfl, trivial⟩
                · have hp := hp.2 h11
                  refine g_br (tg := 438) ((mz_tsw_d (l := [1, 2, 3, 4, 5, 6, 7]) (mz_rng 1 6) ⟨h5, h6, h7, h8, h9, h10, h11, trivial⟩).trans (mz_tg_t rfl)) ms_476_438 ?_
                  refine g_aload_n rfl (g_iload_n rfl (g_iload_n rfl ?_))
                  have h12 := hp
                  refine g_v3n (Nat.le_of_ble_eq_true rfl) (mz_at hS (Nat.le_of_ble_eq_true rfl) mzcS_232) (fun _ hq => cs_477 (Nat.le_trans (Nat.le_of_ble_eq_true rfl) hd) (hS.le (Nat.le_of_ble_eq_true rfl)) (hR.le (Nat.le_of_ble_eq_true rfl))  (cf_419_0 v1) (v1 - (cf_420_0 (cf_419_0 v1))) s.2 h12 hq) ?_
                  exact g_vret rfl (hr _ (hx1 _ hC))
theorem cg_476_2 (hd : 2 ≤ d) (hS : mz_extR S 342) (hR : mz_rok R 342)  (v1 : Int32) (v2 : Int32) (N : mz_N) {C0 : (mz_N) → Prop} (hr : ∀ (N2 : mz_N), C0 N2 → Q (.inl none) (mz_k S R N2 b t)) (hp : cp_476_2 v1 v2 N) (hC : C0 (cf_476_2 v1 v2 N)) : mz_G (d, mz_X0 L xs, none, [], mk_476, 5, Q) 2 mt_476_2 [(0, .ref 232), (1, .int v1), (2, .int v2)] [] false (mz_k S R N b t) := by
  obtain ⟨n, hn⟩ := hp
  exact g_loop (G := fun s => mz_G (d, mz_X0 L xs, none, [], mk_476, 5, Q) 2 mt_476_2 [(0, .ref 232), (1, .int v1), (2, .int s.1)] [] false (mz_k S R s.2 b t)) (C := C0) (fun C2 hc hx s hP hC => cb_476_2 hd hS hR v1 s hr hc hx hP hC) n (v2, N) hn hC
theorem cg_476_0 (hd : 2 ≤ d) (hS : mz_extR S 342) (hR : mz_rok R 342)  (v1 : Int32) (N : mz_N) {C0 : (mz_N) → Prop} (hr : ∀ (N2 : mz_N), C0 N2 → Q (.inl none) (mz_k S R N2 b t)) (hp : cp_476_0 v1 N) (hC : C0 (cf_476_0 v1 N)) : mz_G (d, mz_X0 L xs, none, [], mk_476, 5, Q) 0 mk_476 [(0, .ref 232), (1, .int v1)] [] true (mz_k S R N b t) := by
  unfold cf_476_0 at hC
  unfold cp_476_0 at hp
  refine g_iconst mzi_0 (g_istore_n (Nat.le_of_ble_eq_true rfl) rfl ?_)
  refine g_weak ?_ (g_cl (cg_476_2 hd hS hR v1 0 N hr hp hC))
  exact ⟨rfl, rfl, rfl, trivial⟩
theorem cs_476 (hd : 3 ≤ d) (hS : mz_extR S 342) (hR : mz_rok R 342)  (v1 : Int32) (N : mz_N) (hp : cp_476_0 v1 N) (hq : Q (.inl none) (mz_k S R (cf_476_0 v1 N) b t)) : mz_Ed (mz_X0 L xs) d 476 [.ref 232, .int v1] (mz_k S R N b t) Q :=
  by
  refine g_in mzq_476 (Nat.le_of_ble_eq_true rfl) (Nat.le_of_ble_eq_true rfl) (Nat.le_trans (Nat.le_of_ble_eq_true rfl) hd) ?_
  refine g_weak ?_ (cg_476_0 (d := d - 1) (by omega) hS hR v1 N (C0 := fun z => Q (.inl none) (mz_k S R z b t)) (fun _ h => h) hp hq)
  exact ⟨rfl, rfl, trivial⟩
/-! 474 KeptHouseModel.writeGroup ()Z -/
theorem ms_474_0 : mz_sf mk_474 0 = mk_474 := mz_sf_zero _
theorem ms_474_30 : mz_sf mk_474 30 = mt_474_30 := mz_sf_add ms_474_0 (t := 30) rfl rfl
theorem ms_474_32 : mz_sf mk_474 32 = mt_474_32 := mz_sf_add ms_474_30 (t := 2) rfl rfl
theorem ms_474_34 : mz_sf mk_474 34 = mt_474_34 := mz_sf_add ms_474_32 (t := 2) rfl rfl
theorem ms_474_54 : mz_sf mk_474 54 = mt_474_54 := mz_sf_add ms_474_34 (t := 20) rfl rfl
theorem ms_474_92 : mz_sf mk_474 92 = mt_474_92 := mz_sf_add ms_474_54 (t := 38) rfl rfl
theorem ms_474_93 : mz_sf mk_474 93 = mt_474_93 := mz_sf_add ms_474_92 (t := 1) rfl rfl
theorem ms_474_105 : mz_sf mk_474 105 = mt_474_105 := mz_sf_add ms_474_93 (t := 12) rfl rfl
theorem ms_474_114 : mz_sf mk_474 114 = mt_474_114 := mz_sf_add ms_474_105 (t := 9) rfl rfl
theorem ms_474_137 : mz_sf mk_474 137 = mt_474_137 := mz_sf_add ms_474_114 (t := 23) rfl rfl
theorem ms_474_143 : mz_sf mk_474 143 = mt_474_143 := mz_sf_add ms_474_137 (t := 6) rfl rfl
theorem ms_474_149 : mz_sf mk_474 149 = mt_474_149 := mz_sf_add ms_474_143 (t := 6) rfl rfl
set_option maxRecDepth 100000 in
theorem mzq_474 : mz_PG0 474 = some (12, ⟨"KeptHouseModel", "writeGroup", "()Z"⟩, prog_14_method_174_code, 4, some .boolean, [], mk_474, []) := rfl
theorem cb_474_114 (hd : 4 ≤ d) (hS : mz_extR S 342) (hR : mz_rok R 342)  (v1 : Int32) (v2 : Int32) (s : Int32 × mz_N) {C0 : (Bool × mz_N) → Prop} (hr : ∀ (w : Bool) (N2 : mz_N), C0 (w, N2) → Q (.inl (some (.int (mz_b01 w)))) (mz_k S R N2 b t)) {C1 : ((Int32 × mz_N) ⊕ (Bool × mz_N)) → Prop} (hc1 : ∀ s2, C1 (.inl s2) → mz_G (d, mz_X0 L xs, some .boolean, [], mk_474, 4, Q) 34 mt_474_34 [(0, .ref 232), (1, .int s2.1)] [] false (mz_k S R s2.2 b t)) (hx1 : ∀ z, C1 (.inr z) → C0 z) {C2 : ((Int32 × mz_N) ⊕ ((Int32 × mz_N) ⊕ (Bool × mz_N))) → Prop} (hc2 : ∀ s2, C2 (.inl s2) → mz_G (d, mz_X0 L xs, some .boolean, [], mk_474, 4, Q) 114 mt_474_114 [(0, .ref 232), (1, .int v1), (2, .int v2), (3, .int s2.1)] [] false (mz_k S R s2.2 b t)) (hx2 : ∀ z, C2 (.inr z) → C1 z) (hp : cd_474_114 v1 v2 s) (hC : C2 (cq_474_114 v1 v2 s)) : mz_G (d, mz_X0 L xs, some .boolean, [], mk_474, 4, Q) 114 mt_474_114 [(0, .ref 232), (1, .int v1), (2, .int v2), (3, .int s.1)] [] false (mz_k S R s.2 b t) := by
  unfold cq_474_114 at hC
  unfold cd_474_114 at hp
  refine g_iload_n rfl (g_bipush mzb_28 ?_)
  refine g_icge (tg := 143) rfl ms_474_143 hC (fun h1 hC => ?_) (fun h1 hC => ?_)
  · have hp := hp.1 h1
    refine g_aload_n rfl (g_getR (mz_at hS (Nat.le_of_ble_eq_true rfl) mzcS_232) mzcf_12_131 (mz_rb hR (Nat.le_of_ble_eq_true rfl) rfl mzcR_232_131) (g_bipush mzb_28 (g_iload_n rfl (g_imul (g_iload_n rfl (g_iadd (g_aload_n rfl ?_)))))))
    refine g_getR (mz_at hS (Nat.le_of_ble_eq_true rfl) mzcS_232) mzcf_12_132 (mz_rb hR (Nat.le_of_ble_eq_true rfl) rfl mzcR_232_132) (g_iload_n rfl ?_)
    obtain ⟨h2, hp⟩ := hp
    refine g_bald (mz_at hS (Nat.le_of_ble_eq_true rfl) mzcS_332) h2 ?_
    have h3 := hp
    refine g_bast (mz_at hS (Nat.le_of_ble_eq_true rfl) mzcS_331) h3 (g_iinc rfl mzi_1 (Nat.le_of_ble_eq_true rfl) rfl (g_goto (tg := 114) rfl ms_474_114 ?_))
    refine g_weak ?_ (g_cl (hc2 ((s.1 + 1), mz_wI s.2 331 ((28 * v2) + s.1) (mz_nb (mz_gI s.2 332 s.1))) hC))
    exact ⟨rfl, rfl, rfl, rfl, trivial⟩
  · have hp := hp.2 h1
    refine g_iinc rfl mzi_1 (Nat.le_of_ble_eq_true rfl) rfl (g_goto (tg := 34) rfl ms_474_34 ?_)
    refine g_weak ?_ (g_cl (hc1 ((v1 + 1), s.2) (hx2 _ hC)))
    exact ⟨rfl, rfl, trivial⟩
theorem cg_474_114 (hd : 4 ≤ d) (hS : mz_extR S 342) (hR : mz_rok R 342)  (v1 : Int32) (v2 : Int32) (v3 : Int32) (N : mz_N) {C0 : (Bool × mz_N) → Prop} (hr : ∀ (w : Bool) (N2 : mz_N), C0 (w, N2) → Q (.inl (some (.int (mz_b01 w)))) (mz_k S R N2 b t)) {C1 : ((Int32 × mz_N) ⊕ (Bool × mz_N)) → Prop} (hc1 : ∀ s2, C1 (.inl s2) → mz_G (d, mz_X0 L xs, some .boolean, [], mk_474, 4, Q) 34 mt_474_34 [(0, .ref 232), (1, .int s2.1)] [] false (mz_k S R s2.2 b t)) (hx1 : ∀ z, C1 (.inr z) → C0 z) (hp : cp_474_114 v1 v2 v3 N) (hC : C1 (cf_474_114 v1 v2 v3 N)) : mz_G (d, mz_X0 L xs, some .boolean, [], mk_474, 4, Q) 114 mt_474_114 [(0, .ref 232), (1, .int v1), (2, .int v2), (3, .int v3)] [] false (mz_k S R N b t) := by
  obtain ⟨n, hn⟩ := hp
  exact g_loop (G := fun s => mz_G (d, mz_X0 L xs, some .boolean, [], mk_474, 4, Q) 114 mt_474_114 [(0, .ref 232), (1, .int v1), (2, .int v2), (3, .int s.1)] [] false (mz_k S R s.2 b t)) (C := C1) (fun C2 hc hx s hP hC => cb_474_114 hd hS hR v1 v2 s hr hc1 hx1 hc hx hP hC) n (v3, N) hn hC
theorem cg_474_93 (hd : 4 ≤ d) (hS : mz_extR S 342) (hR : mz_rok R 342)  (s1 : Int32) (s2 : Int32) (s3 : Int32) (s4 : Int32) (s5 : Bool) (v1 : Int32) (v2 : Int32) (N : mz_N) {C0 : (Bool × mz_N) → Prop} (hr : ∀ (w : Bool) (N2 : mz_N), C0 (w, N2) → Q (.inl (some (.int (mz_b01 w)))) (mz_k S R N2 b t)) {C1 : ((Int32 × mz_N) ⊕ (Bool × mz_N)) → Prop} (hc1 : ∀ s2, C1 (.inl s2) → mz_G (d, mz_X0 L xs, some .boolean, [], mk_474, 4, Q) 34 mt_474_34 [(0, .ref 232), (1, .int s2.1)] [] false (mz_k S R s2.2 b t)) (hx1 : ∀ z, C1 (.inr z) → C0 z) (hp : cp_474_93 s1 s2 s3 s4 s5 v1 v2 N) (hC : C1 (cf_474_93 s1 s2 s3 s4 s5 v1 v2 N)) : mz_G (d, mz_X0 L xs, some .boolean, [], mk_474, 4, Q) 93 mt_474_93 [(0, .ref 232), (1, .int v1), (2, .int v2)] [.int (mz_b01 s5), .int s4, .int s3, .int s2, .int s1, .ref 232] false (mz_k S R N b t) := by
  unfold cf_474_93 at hC
  unfold cp_474_93 at hp
  refine g_aload_n rfl (g_getL (mz_at hS (Nat.le_of_ble_eq_true rfl) mzcS_232) mzcf_12_134 ?_)
  obtain ⟨h1, hp⟩ := hp
  refine g_v7v (Nat.le_of_ble_eq_true rfl) (mz_at hS (Nat.le_of_ble_eq_true rfl) mzcS_232) (fun _ hq => cs_411 (Nat.le_trans (Nat.le_of_ble_eq_true rfl) hd) (hS.le (Nat.le_of_ble_eq_true rfl)) (hR.le (Nat.le_of_ble_eq_true rfl))  s1 s2 s3 s4 s5 (N.2 232 134) N h1 hq) ?_
  refine g_zne (tg := 105) rfl ms_474_105 hC (fun h2 hC => ?_) (fun h2 hC => ?_)
  · have hp := hp.1 h2
    refine g_aload_n rfl (g_getR (mz_at hS (Nat.le_of_ble_eq_true rfl) mzcS_232) mzcf_12_130 (mz_rb hR (Nat.le_of_ble_eq_true rfl) rfl mzcR_232_130) (g_iload_n rfl (g_iconst mzi_1 ?_)))
    obtain ⟨h3, hp⟩ := hp
    refine g_zast (z := true) (mz_at hS (Nat.le_of_ble_eq_true rfl) mzcS_330) h3 (g_iconst mzi_0 (g_istore_n (Nat.le_of_ble_eq_true rfl) rfl ?_))
    refine g_weak ?_ (g_cl (cg_474_114 hd hS hR v1 v2 0 (mz_wI ((cf_411_0 s1 s2 s3 s4 s5 (N.2 232 134) N).2) 330 v2 (mz_b01 true)) hr hc1 hx1 hp hC))
    exact ⟨rfl, rfl, rfl, rfl, trivial⟩
  · have hp := hp.2 h2
    refine g_iconst mzi_0 ?_
    exact g_zret (z := false) rfl (hr _ _ (hx1 _ hC))
theorem cb_474_34 (hd : 4 ≤ d) (hS : mz_extR S 342) (hR : mz_rok R 342)   (s : Int32 × mz_N) {C0 : (Bool × mz_N) → Prop} (hr : ∀ (w : Bool) (N2 : mz_N), C0 (w, N2) → Q (.inl (some (.int (mz_b01 w)))) (mz_k S R N2 b t)) {C1 : ((Int32 × mz_N) ⊕ (Bool × mz_N)) → Prop} (hc1 : ∀ s2, C1 (.inl s2) → mz_G (d, mz_X0 L xs, some .boolean, [], mk_474, 4, Q) 34 mt_474_34 [(0, .ref 232), (1, .int s2.1)] [] false (mz_k S R s2.2 b t)) (hx1 : ∀ z, C1 (.inr z) → C0 z) (hp : cd_474_34  s) (hC : C1 (cq_474_34  s)) : mz_G (d, mz_X0 L xs, some .boolean, [], mk_474, 4, Q) 34 mt_474_34 [(0, .ref 232), (1, .int s.1)] [] false (mz_k S R s.2 b t) := by
  unfold cq_474_34 at hC
  unfold cd_474_34 at hp
  refine g_iload_n rfl (g_aload_n rfl (g_getI (mz_at hS (Nat.le_of_ble_eq_true rfl) mzcS_232) mzcf_12_139 ?_))
  refine g_icge (tg := 149) rfl ms_474_149 hC (fun h1 hC => ?_) (fun h1 hC => ?_)
  · have hp := hp.1 h1
    refine g_aload_n rfl (g_getR (mz_at hS (Nat.le_of_ble_eq_true rfl) mzcS_232) mzcf_12_138 (mz_rb hR (Nat.le_of_ble_eq_true rfl) rfl mzcR_232_138) (g_iload_n rfl ?_))
    obtain ⟨h2, hp⟩ := hp
    refine g_iald hS.1 (mz_at hS (Nat.le_of_ble_eq_true rfl) mzcS_333) h2 (g_istore_n (Nat.le_of_ble_eq_true rfl) rfl (g_aload_n rfl (g_iload_n rfl ?_)))
    obtain ⟨h3, hp⟩ := hp
    refine g_v2n (Nat.le_of_ble_eq_true rfl) (mz_at hS (Nat.le_of_ble_eq_true rfl) mzcS_232) (fun _ hq => cs_476 (Nat.le_trans (Nat.le_of_ble_eq_true rfl) hd) (hS.le (Nat.le_of_ble_eq_true rfl)) (hR.le (Nat.le_of_ble_eq_true rfl))  (mz_gI s.2 333 s.1) s.2 h3 hq) (g_aload_n rfl (g_aload_n rfl (g_getI (mz_at hS (Nat.le_of_ble_eq_true rfl) mzcS_232) mzcf_12_133 (g_aload_n rfl (g_getI (mz_at hS (Nat.le_of_ble_eq_true rfl) mzcS_232) mzcf_12_135 (g_iload_n rfl (g_iadd ?_)))))))
    refine g_iload_n rfl ?_
    obtain ⟨h4, hp⟩ := hp
    refine g_s1v (Nat.le_of_ble_eq_true rfl) (fun _ hq => cs_419 (Nat.le_trans (Nat.le_of_ble_eq_true rfl) hd) (hS.le (Nat.le_of_ble_eq_true rfl)) (hR.le (Nat.le_of_ble_eq_true rfl))  (mz_gI s.2 333 s.1) h4 hq) (g_iload_n rfl (g_iload_n rfl ?_))
    obtain ⟨h5, hp⟩ := hp
    refine g_s1v (Nat.le_of_ble_eq_true rfl) (fun _ hq => cs_419 (Nat.le_trans (Nat.le_of_ble_eq_true rfl) hd) (hS.le (Nat.le_of_ble_eq_true rfl)) (hR.le (Nat.le_of_ble_eq_true rfl))  (mz_gI s.2 333 s.1) h5 hq) ?_
    refine g_s1v (Nat.le_of_ble_eq_true rfl) (fun _ hq => cs_420 (Nat.le_trans (Nat.le_of_ble_eq_true rfl) hd) (hS.le (Nat.le_of_ble_eq_true rfl)) (hR.le (Nat.le_of_ble_eq_true rfl))  (cf_419_0 (mz_gI s.2 333 s.1)) trivial hq) (g_isub (g_iload_n rfl (g_aload_n rfl (g_getI (mz_at hS (Nat.le_of_ble_eq_true rfl) mzcS_232) mzcf_12_139 (g_iconst mzi_1 (g_isub ?_))))))
    refine g_icne (tg := 92) rfl ms_474_92 hC (fun h7 hC => ?_) (fun h7 hC => ?_)
    · have hp := hp.1 h7
      refine g_iconst mzi_1 (g_goto (tg := 93) rfl ms_474_93 ?_)
      refine g_weak ?_ (g_cl (cg_474_93 hd hS hR ((cf_476_0 (mz_gI s.2 333 s.1) s.2).1 232 133) (((cf_476_0 (mz_gI s.2 333 s.1) s.2).1 232 135) + s.1) (cf_419_0 (mz_gI s.2 333 s.1)) ((mz_gI s.2 333 s.1) - (cf_420_0 (cf_419_0 (mz_gI s.2 333 s.1)))) true s.1 (mz_gI s.2 333 s.1) (cf_476_0 (mz_gI s.2 333 s.1) s.2) hr hc1 hx1 hp hC))
      exact ⟨rfl, rfl, rfl, trivial⟩
    · have hp := hp.2 h7
      refine g_iconst mzi_0 ?_
      refine g_weak ?_ (g_cl (cg_474_93 hd hS hR ((cf_476_0 (mz_gI s.2 333 s.1) s.2).1 232 133) (((cf_476_0 (mz_gI s.2 333 s.1) s.2).1 232 135) + s.1) (cf_419_0 (mz_gI s.2 333 s.1)) ((mz_gI s.2 333 s.1) - (cf_420_0 (cf_419_0 (mz_gI s.2 333 s.1)))) false s.1 (mz_gI s.2 333 s.1) (cf_476_0 (mz_gI s.2 333 s.1) s.2) hr hc1 hx1 hp hC))
      exact ⟨rfl, rfl, rfl, trivial⟩
  · have hp := hp.2 h1
    refine g_aload_n rfl (g_dup rfl (g_getI (mz_at hS (Nat.le_of_ble_eq_true rfl) mzcS_232) mzcf_12_135 (g_aload_n rfl (g_getI (mz_at hS (Nat.le_of_ble_eq_true rfl) mzcS_232) mzcf_12_139 (g_iadd (g_putI (mz_at hS (Nat.le_of_ble_eq_true rfl) mzcS_232) mzcf_12_135 (g_iconst mzi_1 ?_)))))))
    exact g_zret (z := true) rfl (hr _ _ (hx1 _ hC))
theorem cg_474_34 (hd : 4 ≤ d) (hS : mz_extR S 342) (hR : mz_rok R 342)  (v1 : Int32) (N : mz_N) {C0 : (Bool × mz_N) → Prop} (hr : ∀ (w : Bool) (N2 : mz_N), C0 (w, N2) → Q (.inl (some (.int (mz_b01 w)))) (mz_k S R N2 b t)) (hp : cp_474_34 v1 N) (hC : C0 (cf_474_34 v1 N)) : mz_G (d, mz_X0 L xs, some .boolean, [], mk_474, 4, Q) 34 mt_474_34 [(0, .ref 232), (1, .int v1)] [] false (mz_k S R N b t) := by
  obtain ⟨n, hn⟩ := hp
  exact g_loop (G := fun s => mz_G (d, mz_X0 L xs, some .boolean, [], mk_474, 4, Q) 34 mt_474_34 [(0, .ref 232), (1, .int s.1)] [] false (mz_k S R s.2 b t)) (C := C0) (fun C2 hc hx s hP hC => cb_474_34 hd hS hR  s hr hc hx hP hC) n (v1, N) hn hC
theorem cg_474_32 (hd : 4 ≤ d) (hS : mz_extR S 342) (hR : mz_rok R 342)  (N : mz_N) {C0 : (Bool × mz_N) → Prop} (hr : ∀ (w : Bool) (N2 : mz_N), C0 (w, N2) → Q (.inl (some (.int (mz_b01 w)))) (mz_k S R N2 b t)) (hp : cp_474_32 N) (hC : C0 (cf_474_32 N)) : mz_G (d, mz_X0 L xs, some .boolean, [], mk_474, 4, Q) 32 mt_474_32 [(0, .ref 232)] [] false (mz_k S R N b t) := by
  unfold cf_474_32 at hC
  unfold cp_474_32 at hp
  refine g_iconst mzi_0 (g_istore_n (Nat.le_of_ble_eq_true rfl) rfl ?_)
  refine g_weak ?_ (g_cl (cg_474_34 hd hS hR 0 N hr hp hC))
  exact ⟨rfl, rfl, trivial⟩
theorem cg_474_0 (hd : 4 ≤ d) (hS : mz_extR S 342) (hR : mz_rok R 342)  (N : mz_N) {C0 : (Bool × mz_N) → Prop} (hr : ∀ (w : Bool) (N2 : mz_N), C0 (w, N2) → Q (.inl (some (.int (mz_b01 w)))) (mz_k S R N2 b t)) (hp : cp_474_0 N) (hC : C0 (cf_474_0 N)) : mz_G (d, mz_X0 L xs, some .boolean, [], mk_474, 4, Q) 0 mk_474 [(0, .ref 232)] [] true (mz_k S R N b t) := by
  unfold cf_474_0 at hC
  unfold cp_474_0 at hp
  refine g_aload_n rfl (g_getI (mz_at hS (Nat.le_of_ble_eq_true rfl) mzcS_232) mzcf_12_135 (g_aload_n rfl (g_getI (mz_at hS (Nat.le_of_ble_eq_true rfl) mzcS_232) mzcf_12_139 (g_iadd (g_sipush mzs_200 ?_)))))
  refine g_icle (tg := 32) rfl ms_474_32 hC (fun h1 hC => ?_) (fun h1 hC => ?_)
  · have hp := hp.1 h1
    refine g_aload_n rfl (g_aload_n rfl (g_getR (mz_at hS (Nat.le_of_ble_eq_true rfl) mzcS_232) mzcf_12_130 (mz_rb hR (Nat.le_of_ble_eq_true rfl) rfl mzcR_232_130) (g_aload_n rfl (g_getR (mz_at hS (Nat.le_of_ble_eq_true rfl) mzcS_232) mzcf_12_131 (mz_rb hR (Nat.le_of_ble_eq_true rfl) rfl mzcR_232_131) ?_))))
    obtain ⟨h2, hp⟩ := hp
    refine g_v3v (Nat.le_of_ble_eq_true rfl) (mz_at hS (Nat.le_of_ble_eq_true rfl) mzcS_232) (fun _ hq => cs_475 (Nat.le_trans (Nat.le_of_ble_eq_true rfl) hd) (hS.le (Nat.le_of_ble_eq_true rfl)) (hR.le (Nat.le_of_ble_eq_true rfl)) 330 331 (mz_at hS (Nat.le_of_ble_eq_true rfl) mzcS_330) (mz_at hS (Nat.le_of_ble_eq_true rfl) mzcS_331) N h2 hq) ?_
    refine g_zne (tg := 32) rfl ms_474_32 hC (fun h3 hC => ?_) (fun h3 hC => ?_)
    · have hp := hp.1 h3
      refine g_weak ?_ (g_cl (cg_474_32 hd hS hR ((cf_475_0 330 331 N).2) hr hp hC))
      exact ⟨rfl, trivial⟩
    · have hp := hp.2 h3
      refine g_iconst mzi_0 ?_
      exact g_zret (z := false) rfl (hr _ _ hC)
  · have hp := hp.2 h1
    refine g_weak ?_ (g_cl (cg_474_32 hd hS hR N hr hp hC))
    exact ⟨rfl, trivial⟩
theorem cs_474 (hd : 5 ≤ d) (hS : mz_extR S 342) (hR : mz_rok R 342)  (N : mz_N) (hp : cp_474_0 N) (hq : Q (.inl (some (.int (mz_b01 ((cf_474_0 N).1))))) (mz_k S R ((cf_474_0 N).2) b t)) : mz_Ed (mz_X0 L xs) d 474 [.ref 232] (mz_k S R N b t) Q :=
  by
  refine g_in mzq_474 (Nat.le_of_ble_eq_true rfl) (Nat.le_of_ble_eq_true rfl) (Nat.le_trans (Nat.le_of_ble_eq_true rfl) hd) ?_
  refine g_weak ?_ (cg_474_0 (d := d - 1) (by omega) hS hR N (C0 := fun z => Q (.inl (some (.int (mz_b01 z.1)))) (mz_k S R z.2 b t)) (fun _ _ h => h) hp hq)
  exact ⟨rfl, trivial⟩
/-! 467 KeptHouseModel.merge (I)I -/
theorem ms_467_0 : mz_sf mk_467 0 = mk_467 := mz_sf_zero _
theorem ms_467_14 : mz_sf mk_467 14 = mt_467_14 := mz_sf_add ms_467_0 (t := 14) rfl rfl
theorem ms_467_27 : mz_sf mk_467 27 = mt_467_27 := mz_sf_add ms_467_14 (t := 13) rfl rfl
theorem ms_467_29 : mz_sf mk_467 29 = mt_467_29 := mz_sf_add ms_467_27 (t := 2) rfl rfl
theorem ms_467_71 : mz_sf mk_467 71 = mt_467_71 := mz_sf_add ms_467_29 (t := 42) rfl rfl
theorem ms_467_77 : mz_sf mk_467 77 = mt_467_77 := mz_sf_add ms_467_71 (t := 6) rfl rfl
theorem ms_467_84 : mz_sf mk_467 84 = mt_467_84 := mz_sf_add ms_467_77 (t := 7) rfl rfl
theorem ms_467_108 : mz_sf mk_467 108 = mt_467_108 := mz_sf_add ms_467_84 (t := 24) rfl rfl
theorem ms_467_114 : mz_sf mk_467 114 = mt_467_114 := mz_sf_add ms_467_108 (t := 6) rfl rfl
theorem ms_467_125 : mz_sf mk_467 125 = mt_467_125 := mz_sf_add ms_467_114 (t := 11) rfl rfl
theorem ms_467_168 : mz_sf mk_467 168 = mt_467_168 := mz_sf_add ms_467_125 (t := 43) rfl rfl
theorem ms_467_172 : mz_sf mk_467 172 = mt_467_172 := mz_sf_add ms_467_168 (t := 4) rfl rfl
theorem ms_467_173 : mz_sf mk_467 173 = mt_467_173 := mz_sf_add ms_467_172 (t := 1) rfl rfl
theorem ms_467_181 : mz_sf mk_467 181 = mt_467_181 := mz_sf_add ms_467_173 (t := 8) rfl rfl
theorem ms_467_192 : mz_sf mk_467 192 = mt_467_192 := mz_sf_add ms_467_181 (t := 11) rfl rfl
theorem ms_467_198 : mz_sf mk_467 198 = mt_467_198 := mz_sf_add ms_467_192 (t := 6) rfl rfl
theorem ms_467_221 : mz_sf mk_467 221 = mt_467_221 := mz_sf_add ms_467_198 (t := 23) rfl rfl
theorem ms_467_249 : mz_sf mk_467 249 = mt_467_249 := mz_sf_add ms_467_221 (t := 28) rfl rfl
theorem ms_467_252 : mz_sf mk_467 252 = mt_467_252 := mz_sf_add ms_467_249 (t := 3) rfl rfl
set_option maxRecDepth 100000 in
theorem mzq_467 : mz_PG0 467 = some (12, ⟨"KeptHouseModel", "merge", "(I)I"⟩, prog_14_method_29_code, 6, some .int, [], mk_467, []) := rfl
theorem cg_467_249 (hd : 5 ≤ d) (hS : mz_extR S 342) (hR : mz_rok R 342)  (N : mz_N) {C0 : (Int32 × mz_N) → Prop} (hr : ∀ (w : Int32) (N2 : mz_N), C0 (w, N2) → Q (.inl (some (.int w))) (mz_k S R N2 b t)) (hp : cp_467_249 N) (hC : C0 (cf_467_249 N)) : mz_G (d, mz_X0 L xs, some .int, [], mk_467, 6, Q) 249 mt_467_249 [] [] false (mz_k S R N b t) := by
  unfold cf_467_249 at hC
  unfold cp_467_249 at hp
  refine g_sipush mzs_m1001 ?_
  exact g_iret rfl (hr _ _ hC)
theorem cg_467_173 (hd : 5 ≤ d) (hS : mz_extR S 342) (hR : mz_rok R 342)  (s0 : Bool) (v1 : Int32) (v3 : Int32) (v5 : Int32) (N : mz_N) {C0 : (Int32 × mz_N) → Prop} (hr : ∀ (w : Int32) (N2 : mz_N), C0 (w, N2) → Q (.inl (some (.int w))) (mz_k S R N2 b t)) {C1 : ((Int32 × mz_N) ⊕ (Int32 × mz_N)) → Prop} (hc1 : ∀ s2, C1 (.inl s2) → mz_G (d, mz_X0 L xs, some .int, [], mk_467, 6, Q) 114 mt_467_114 [(0, .ref 232), (1, .int v1), (3, .int s2.1)] [] false (mz_k S R s2.2 b t)) (hx1 : ∀ z, C1 (.inr z) → C0 z) {C2 : ((Bool × Int32) ⊕ ((Int32 × mz_N) ⊕ (Int32 × mz_N))) → Prop} (hc2 : ∀ s2, C2 (.inl s2) → mz_G (d, mz_X0 L xs, some .int, [], mk_467, 6, Q) 125 mt_467_125 [(0, .ref 232), (1, .int v1), (3, .int v3), (4, .int (mz_b01 s2.1)), (5, .int s2.2)] [] false (mz_k S R N b t)) (hx2 : ∀ z, C2 (.inr z) → C1 z) (hp : cp_467_173 s0 v1 v3 v5 N) (hC : C2 (cf_467_173 s0 v1 v3 v5 N)) : mz_G (d, mz_X0 L xs, some .int, [], mk_467, 6, Q) 173 mt_467_173 [(0, .ref 232), (1, .int v1), (3, .int v3), (5, .int v5)] [.int (mz_b01 s0)] false (mz_k S R N b t) := by
  unfold cf_467_173 at hC
  unfold cp_467_173 at hp
  refine g_istore (Nat.le_of_ble_eq_true rfl) rfl (g_iinc rfl mzi_1 (Nat.le_of_ble_eq_true rfl) rfl (g_goto (tg := 125) rfl ms_467_125 ?_))
  refine g_weak ?_ (g_cl (hc2 (s0, (v5 + 1)) hC))
  exact ⟨rfl, rfl, rfl, rfl, rfl, trivial⟩
theorem cg_467_168 (hd : 5 ≤ d) (hS : mz_extR S 342) (hR : mz_rok R 342)  (v1 : Int32) (v3 : Int32) (v5 : Int32) (N : mz_N) {C0 : (Int32 × mz_N) → Prop} (hr : ∀ (w : Int32) (N2 : mz_N), C0 (w, N2) → Q (.inl (some (.int w))) (mz_k S R N2 b t)) {C1 : ((Int32 × mz_N) ⊕ (Int32 × mz_N)) → Prop} (hc1 : ∀ s2, C1 (.inl s2) → mz_G (d, mz_X0 L xs, some .int, [], mk_467, 6, Q) 114 mt_467_114 [(0, .ref 232), (1, .int v1), (3, .int s2.1)] [] false (mz_k S R s2.2 b t)) (hx1 : ∀ z, C1 (.inr z) → C0 z) {C2 : ((Bool × Int32) ⊕ ((Int32 × mz_N) ⊕ (Int32 × mz_N))) → Prop} (hc2 : ∀ s2, C2 (.inl s2) → mz_G (d, mz_X0 L xs, some .int, [], mk_467, 6, Q) 125 mt_467_125 [(0, .ref 232), (1, .int v1), (3, .int v3), (4, .int (mz_b01 s2.1)), (5, .int s2.2)] [] false (mz_k S R N b t)) (hx2 : ∀ z, C2 (.inr z) → C1 z) (hp : cp_467_168 v1 v3 v5 N) (hC : C2 (cf_467_168 v1 v3 v5 N)) : mz_G (d, mz_X0 L xs, some .int, [], mk_467, 6, Q) 168 mt_467_168 [(0, .ref 232), (1, .int v1), (3, .int v3), (5, .int v5)] [] false (mz_k S R N b t) := by
  unfold cf_467_168 at hC
  unfold cp_467_168 at hp
  refine g_iconst mzi_1 (g_goto (tg := 173) rfl ms_467_173 ?_)
  refine g_weak ?_ (g_cl (cg_467_173 hd hS hR true v1 v3 v5 N hr hc1 hx1 hc2 hx2 hp hC))
  exact ⟨rfl, rfl, rfl, rfl, trivial⟩
theorem cg_467_192 (hd : 5 ≤ d) (hS : mz_extR S 342) (hR : mz_rok R 342)  (v1 : Int32) (v3 : Int32) (N : mz_N) {C0 : (Int32 × mz_N) → Prop} (hr : ∀ (w : Int32) (N2 : mz_N), C0 (w, N2) → Q (.inl (some (.int w))) (mz_k S R N2 b t)) {C1 : ((Int32 × mz_N) ⊕ (Int32 × mz_N)) → Prop} (hc1 : ∀ s2, C1 (.inl s2) → mz_G (d, mz_X0 L xs, some .int, [], mk_467, 6, Q) 114 mt_467_114 [(0, .ref 232), (1, .int v1), (3, .int s2.1)] [] false (mz_k S R s2.2 b t)) (hx1 : ∀ z, C1 (.inr z) → C0 z) (hp : cp_467_192 v1 v3 N) (hC : C1 (cf_467_192 v1 v3 N)) : mz_G (d, mz_X0 L xs, some .int, [], mk_467, 6, Q) 192 mt_467_192 [(0, .ref 232), (1, .int v1), (3, .int v3)] [] false (mz_k S R N b t) := by
  unfold cf_467_192 at hC
  unfold cp_467_192 at hp
  refine g_iinc rfl mzi_1 (Nat.le_of_ble_eq_true rfl) rfl (g_goto (tg := 114) rfl ms_467_114 ?_)
  refine g_weak ?_ (g_cl (hc1 ((v3 + 1), N) hC))
  exact ⟨rfl, rfl, rfl, trivial⟩
theorem cb_467_125 (hd : 5 ≤ d) (hS : mz_extR S 342) (hR : mz_rok R 342)  (v1 : Int32) (v3 : Int32) (N : mz_N) (s : Bool × Int32) {C0 : (Int32 × mz_N) → Prop} (hr : ∀ (w : Int32) (N2 : mz_N), C0 (w, N2) → Q (.inl (some (.int w))) (mz_k S R N2 b t)) {C1 : ((Int32 × mz_N) ⊕ (Int32 × mz_N)) → Prop} (hc1 : ∀ s2, C1 (.inl s2) → mz_G (d, mz_X0 L xs, some .int, [], mk_467, 6, Q) 114 mt_467_114 [(0, .ref 232), (1, .int v1), (3, .int s2.1)] [] false (mz_k S R s2.2 b t)) (hx1 : ∀ z, C1 (.inr z) → C0 z) {C2 : ((Bool × Int32) ⊕ ((Int32 × mz_N) ⊕ (Int32 × mz_N))) → Prop} (hc2 : ∀ s2, C2 (.inl s2) → mz_G (d, mz_X0 L xs, some .int, [], mk_467, 6, Q) 125 mt_467_125 [(0, .ref 232), (1, .int v1), (3, .int v3), (4, .int (mz_b01 s2.1)), (5, .int s2.2)] [] false (mz_k S R N b t)) (hx2 : ∀ z, C2 (.inr z) → C1 z) (hp : cd_467_125 v1 v3 N s) (hC : C2 (cq_467_125 v1 v3 N s)) : mz_G (d, mz_X0 L xs, some .int, [], mk_467, 6, Q) 125 mt_467_125 [(0, .ref 232), (1, .int v1), (3, .int v3), (4, .int (mz_b01 s.1)), (5, .int s.2)] [] false (mz_k S R N b t) := by
  unfold cq_467_125 at hC
  unfold cd_467_125 at hp
  refine g_iload rfl (g_bipush mzb_110 ?_)
  refine g_icge (tg := 181) rfl ms_467_181 hC (fun h1 hC => ?_) (fun h1 hC => ?_)
  · have hp := hp.1 h1
    refine g_iload rfl ?_
    refine g_zne (tg := 168) rfl ms_467_168 hC (fun h2 hC => ?_) (fun h2 hC => ?_)
    · have hp := hp.1 h2
      refine g_weak ?_ (g_cl (cg_467_168 hd hS hR v1 v3 s.2 N hr hc1 hx1 hc2 hx2 hp hC))
      exact ⟨rfl, rfl, rfl, rfl, trivial⟩
    · have hp := hp.2 h2
      refine g_aload_n rfl (g_getR (mz_at hS (Nat.le_of_ble_eq_true rfl) mzcS_232) mzcf_12_3 (mz_rb hR (Nat.le_of_ble_eq_true rfl) rfl mzcR_232_3) (g_sipush mzs_3850 (g_bipush mzb_110 (g_iload_n rfl (g_imul (g_iadd (g_iload rfl ?_)))))))
      refine g_iadd ?_
      obtain ⟨h3, hp⟩ := hp
      refine g_iald hS.1 (mz_at hS (Nat.le_of_ble_eq_true rfl) mzcS_233) h3 (g_aload_n rfl (g_getR (mz_at hS (Nat.le_of_ble_eq_true rfl) mzcS_232) mzcf_12_3 (mz_rb hR (Nat.le_of_ble_eq_true rfl) rfl mzcR_232_3) (g_bipush mzb_110 (g_iload_n rfl (g_imul (g_iload rfl (g_iadd ?_)))))))
      obtain ⟨h4, hp⟩ := hp
      refine g_iald hS.1 (mz_at hS (Nat.le_of_ble_eq_true rfl) mzcS_233) h4 ?_
      refine g_iceq (tg := 172) rfl ms_467_172 hC (fun h5 hC => ?_) (fun h5 hC => ?_)
      · have hp := hp.1 h5
        refine g_iconst mzi_0 ?_
        refine g_weak ?_ (g_cl (cg_467_173 hd hS hR false v1 v3 s.2 N hr hc1 hx1 hc2 hx2 hp hC))
        exact ⟨rfl, rfl, rfl, rfl, trivial⟩
      · have hp := hp.2 h5
        refine g_weak ?_ (g_cl (cg_467_168 hd hS hR v1 v3 s.2 N hr hc1 hx1 hc2 hx2 hp hC))
        exact ⟨rfl, rfl, rfl, rfl, trivial⟩
  · have hp := hp.2 h1
    refine g_iload rfl ?_
    refine g_zeq (tg := 192) rfl ms_467_192 hC (fun h6 hC => ?_) (fun h6 hC => ?_)
    · have hp := hp.1 h6
      refine g_aload_n rfl (g_iconst mzi_1 (g_iload_n rfl ?_))
      obtain ⟨h7, hp⟩ := hp
      refine g_v3n (Nat.le_of_ble_eq_true rfl) (mz_at hS (Nat.le_of_ble_eq_true rfl) mzcS_232) (fun _ hq => cs_472 (Nat.le_trans (Nat.le_of_ble_eq_true rfl) hd) (hS.le (Nat.le_of_ble_eq_true rfl)) (hR.le (Nat.le_of_ble_eq_true rfl))  1 v3 N h7 hq) ?_
      refine g_weak ?_ (g_cl (cg_467_192 hd hS hR v1 v3 (cf_472_0 1 v3 N) hr hc1 hx1 hp (hx2 _ hC)))
      exact ⟨rfl, rfl, rfl, trivial⟩
    · have hp := hp.2 h6
      refine g_weak ?_ (g_cl (cg_467_192 hd hS hR v1 v3 N hr hc1 hx1 hp (hx2 _ hC)))
      exact ⟨rfl, rfl, rfl, trivial⟩
theorem cg_467_125 (hd : 5 ≤ d) (hS : mz_extR S 342) (hR : mz_rok R 342)  (v1 : Int32) (v3 : Int32) (v4 : Bool) (v5 : Int32) (N : mz_N) {C0 : (Int32 × mz_N) → Prop} (hr : ∀ (w : Int32) (N2 : mz_N), C0 (w, N2) → Q (.inl (some (.int w))) (mz_k S R N2 b t)) {C1 : ((Int32 × mz_N) ⊕ (Int32 × mz_N)) → Prop} (hc1 : ∀ s2, C1 (.inl s2) → mz_G (d, mz_X0 L xs, some .int, [], mk_467, 6, Q) 114 mt_467_114 [(0, .ref 232), (1, .int v1), (3, .int s2.1)] [] false (mz_k S R s2.2 b t)) (hx1 : ∀ z, C1 (.inr z) → C0 z) (hp : cp_467_125 v1 v3 v4 v5 N) (hC : C1 (cf_467_125 v1 v3 v4 v5 N)) : mz_G (d, mz_X0 L xs, some .int, [], mk_467, 6, Q) 125 mt_467_125 [(0, .ref 232), (1, .int v1), (3, .int v3), (4, .int (mz_b01 v4)), (5, .int v5)] [] false (mz_k S R N b t) := by
  obtain ⟨n, hn⟩ := hp
  exact g_loop (G := fun s => mz_G (d, mz_X0 L xs, some .int, [], mk_467, 6, Q) 125 mt_467_125 [(0, .ref 232), (1, .int v1), (3, .int v3), (4, .int (mz_b01 s.1)), (5, .int s.2)] [] false (mz_k S R N b t)) (C := C1) (fun C2 hc hx s hP hC => cb_467_125 hd hS hR v1 v3 N s hr hc1 hx1 hc hx hP hC) n (v4, v5) hn hC
theorem cb_467_114 (hd : 5 ≤ d) (hS : mz_extR S 342) (hR : mz_rok R 342)  (v1 : Int32) (s : Int32 × mz_N) {C0 : (Int32 × mz_N) → Prop} (hr : ∀ (w : Int32) (N2 : mz_N), C0 (w, N2) → Q (.inl (some (.int w))) (mz_k S R N2 b t)) {C1 : ((Int32 × mz_N) ⊕ (Int32 × mz_N)) → Prop} (hc1 : ∀ s2, C1 (.inl s2) → mz_G (d, mz_X0 L xs, some .int, [], mk_467, 6, Q) 114 mt_467_114 [(0, .ref 232), (1, .int v1), (3, .int s2.1)] [] false (mz_k S R s2.2 b t)) (hx1 : ∀ z, C1 (.inr z) → C0 z) (hp : cd_467_114 v1 s) (hC : C1 (cq_467_114 v1 s)) : mz_G (d, mz_X0 L xs, some .int, [], mk_467, 6, Q) 114 mt_467_114 [(0, .ref 232), (1, .int v1), (3, .int s.1)] [] false (mz_k S R s.2 b t) := by
  unfold cq_467_114 at hC
  unfold cd_467_114 at hp
  refine g_iload_n rfl (g_iconst mzi_5 ?_)
  refine g_icge (tg := 198) rfl ms_467_198 hC (fun h1 hC => ?_) (fun h1 hC => ?_)
  · have hp := hp.1 h1
    refine g_iconst mzi_0 (g_istore (Nat.le_of_ble_eq_true rfl) rfl (g_iconst mzi_0 (g_istore (Nat.le_of_ble_eq_true rfl) rfl ?_)))
    refine g_weak ?_ (g_cl (cg_467_125 hd hS hR v1 s.1 false 0 s.2 hr hc1 hx1 hp hC))
    exact ⟨rfl, rfl, rfl, rfl, rfl, trivial⟩
  · have hp := hp.2 h1
    refine g_aload_n rfl (g_bipush mzb_7 (g_iconst mzi_0 ?_))
    obtain ⟨h2, hp⟩ := hp
    refine g_v3n (Nat.le_of_ble_eq_true rfl) (mz_at hS (Nat.le_of_ble_eq_true rfl) mzcS_232) (fun _ hq => cs_426 (Nat.le_trans (Nat.le_of_ble_eq_true rfl) hd) (hS.le (Nat.le_of_ble_eq_true rfl)) (hR.le (Nat.le_of_ble_eq_true rfl))  7 0 s.2 h2 hq) (g_aload_n rfl (g_iconst mzi_0 (g_iconst mzi_1 (g_iload_n rfl (g_iadd ?_)))))
    obtain ⟨h3, hp⟩ := hp
    refine g_v3n (Nat.le_of_ble_eq_true rfl) (mz_at hS (Nat.le_of_ble_eq_true rfl) mzcS_232) (fun _ hq => cs_426 (Nat.le_trans (Nat.le_of_ble_eq_true rfl) hd) (hS.le (Nat.le_of_ble_eq_true rfl)) (hR.le (Nat.le_of_ble_eq_true rfl))  0 (1 + v1) (cf_426_0 7 0 s.2) h3 hq) (g_aload_n rfl (g_iconst mzi_0 (g_iconst mzi_4 (g_iload_n rfl (g_iadd ?_)))))
    obtain ⟨h4, hp⟩ := hp
    refine g_v3n (Nat.le_of_ble_eq_true rfl) (mz_at hS (Nat.le_of_ble_eq_true rfl) mzcS_232) (fun _ hq => cs_426 (Nat.le_trans (Nat.le_of_ble_eq_true rfl) hd) (hS.le (Nat.le_of_ble_eq_true rfl)) (hR.le (Nat.le_of_ble_eq_true rfl))  0 (4 + v1) (cf_426_0 0 (1 + v1) (cf_426_0 7 0 s.2)) h4 hq) (g_aload_n rfl (g_dup rfl (g_getI (mz_at hS (Nat.le_of_ble_eq_true rfl) mzcS_232) mzcf_12_4 (g_iconst mzi_1 (g_iadd (g_putI (mz_at hS (Nat.le_of_ble_eq_true rfl) mzcS_232) mzcf_12_4 (g_aload_n rfl ?_)))))))
    obtain ⟨h5, hp⟩ := hp
    refine g_v1n (Nat.le_of_ble_eq_true rfl) (mz_at hS (Nat.le_of_ble_eq_true rfl) mzcS_232) (fun _ hq => cs_427 (Nat.le_trans (Nat.le_of_ble_eq_true rfl) hd) (hS.le (Nat.le_of_ble_eq_true rfl)) (hR.le (Nat.le_of_ble_eq_true rfl))  (mz_pI (cf_426_0 0 (4 + v1) (cf_426_0 0 (1 + v1) (cf_426_0 7 0 s.2))) 232 4 (((cf_426_0 0 (4 + v1) (cf_426_0 0 (1 + v1) (cf_426_0 7 0 s.2))).1 232 4) + 1)) h5 hq) (g_aload_n rfl ?_)
    obtain ⟨h6, hp⟩ := hp
    refine g_v1v (Nat.le_of_ble_eq_true rfl) (mz_at hS (Nat.le_of_ble_eq_true rfl) mzcS_232) (fun _ hq => cs_474 (Nat.le_trans (Nat.le_of_ble_eq_true rfl) hd) (hS.le (Nat.le_of_ble_eq_true rfl)) (hR.le (Nat.le_of_ble_eq_true rfl))  (cf_427_0 (mz_pI (cf_426_0 0 (4 + v1) (cf_426_0 0 (1 + v1) (cf_426_0 7 0 s.2))) 232 4 (((cf_426_0 0 (4 + v1) (cf_426_0 0 (1 + v1) (cf_426_0 7 0 s.2))).1 232 4) + 1))) h6 hq) ?_
    refine g_zeq (tg := 249) rfl ms_467_249 hC (fun h7 hC => ?_) (fun h7 hC => ?_)
    · have hp := hp.1 h7
      refine g_aload_n rfl (g_getI (mz_at hS (Nat.le_of_ble_eq_true rfl) mzcS_232) mzcf_12_4 (g_goto (tg := 252) rfl ms_467_252 ?_))
      exact g_iret rfl (hr _ _ (hx1 _ hC))
    · have hp := hp.2 h7
      refine g_weak ?_ (g_cl (cg_467_249 hd hS hR ((cf_474_0 (cf_427_0 (mz_pI (cf_426_0 0 (4 + v1) (cf_426_0 0 (1 + v1) (cf_426_0 7 0 s.2))) 232 4 (((cf_426_0 0 (4 + v1) (cf_426_0 0 (1 + v1) (cf_426_0 7 0 s.2))).1 232 4) + 1)))).2) hr hp (hx1 _ hC)))
      exact trivial
theorem cg_467_114 (hd : 5 ≤ d) (hS : mz_extR S 342) (hR : mz_rok R 342)  (v1 : Int32) (v3 : Int32) (N : mz_N) {C0 : (Int32 × mz_N) → Prop} (hr : ∀ (w : Int32) (N2 : mz_N), C0 (w, N2) → Q (.inl (some (.int w))) (mz_k S R N2 b t)) (hp : cp_467_114 v1 v3 N) (hC : C0 (cf_467_114 v1 v3 N)) : mz_G (d, mz_X0 L xs, some .int, [], mk_467, 6, Q) 114 mt_467_114 [(0, .ref 232), (1, .int v1), (3, .int v3)] [] false (mz_k S R N b t) := by
  obtain ⟨n, hn⟩ := hp
  exact g_loop (G := fun s => mz_G (d, mz_X0 L xs, some .int, [], mk_467, 6, Q) 114 mt_467_114 [(0, .ref 232), (1, .int v1), (3, .int s.1)] [] false (mz_k S R s.2 b t)) (C := C0) (fun C2 hc hx s hP hC => cb_467_114 hd hS hR v1 s hr hc hx hP hC) n (v3, N) hn hC
theorem cg_467_77 (hd : 5 ≤ d) (hS : mz_extR S 342) (hR : mz_rok R 342)  (s1 : Int32) (s2 : Int32) (v1 : Int32) (v3 : Int32) (N : mz_N) {C0 : (Int32 × mz_N) → Prop} (hr : ∀ (w : Int32) (N2 : mz_N), C0 (w, N2) → Q (.inl (some (.int w))) (mz_k S R N2 b t)) {C1 : ((Int32 × mz_N) ⊕ (Int32 × mz_N)) → Prop} (hc1 : ∀ s2, C1 (.inl s2) → mz_G (d, mz_X0 L xs, some .int, [], mk_467, 6, Q) 29 mt_467_29 [(0, .ref 232), (1, .int v1), (3, .int s2.1)] [] false (mz_k S R s2.2 b t)) (hx1 : ∀ z, C1 (.inr z) → C0 z) (hp : cp_467_77 s1 s2 v1 v3 N) (hC : C1 (cf_467_77 s1 s2 v1 v3 N)) : mz_G (d, mz_X0 L xs, some .int, [], mk_467, 6, Q) 77 mt_467_77 [(0, .ref 232), (1, .int v1), (3, .int v3)] [.int s2, .int s1, .ref 233] false (mz_k S R N b t) := by
  unfold cf_467_77 at hC
  unfold cp_467_77 at hp
  have h1 := hp
  refine g_iast (mz_at hS (Nat.le_of_ble_eq_true rfl) mzcS_233) h1 (g_iinc rfl mzi_1 (Nat.le_of_ble_eq_true rfl) rfl (g_goto (tg := 29) rfl ms_467_29 ?_))
  refine g_weak ?_ (g_cl (hc1 ((v3 + 1), mz_wI N 233 s1 s2) hC))
  exact ⟨rfl, rfl, rfl, trivial⟩
theorem cb_467_29 (hd : 5 ≤ d) (hS : mz_extR S 342) (hR : mz_rok R 342)  (v1 : Int32) (s : Int32 × mz_N) {C0 : (Int32 × mz_N) → Prop} (hr : ∀ (w : Int32) (N2 : mz_N), C0 (w, N2) → Q (.inl (some (.int w))) (mz_k S R N2 b t)) {C1 : ((Int32 × mz_N) ⊕ (Int32 × mz_N)) → Prop} (hc1 : ∀ s2, C1 (.inl s2) → mz_G (d, mz_X0 L xs, some .int, [], mk_467, 6, Q) 29 mt_467_29 [(0, .ref 232), (1, .int v1), (3, .int s2.1)] [] false (mz_k S R s2.2 b t)) (hx1 : ∀ z, C1 (.inr z) → C0 z) (hp : cd_467_29 v1 s) (hC : C1 (cq_467_29 v1 s)) : mz_G (d, mz_X0 L xs, some .int, [], mk_467, 6, Q) 29 mt_467_29 [(0, .ref 232), (1, .int v1), (3, .int s.1)] [] false (mz_k S R s.2 b t) := by
  unfold cq_467_29 at hC
  unfold cd_467_29 at hp
  refine g_iload_n rfl (g_sipush mzs_550 ?_)
  refine g_icge (tg := 84) rfl ms_467_84 hC (fun h1 hC => ?_) (fun h1 hC => ?_)
  · have hp := hp.1 h1
    refine g_aload_n rfl (g_getR (mz_at hS (Nat.le_of_ble_eq_true rfl) mzcS_232) mzcf_12_3 (mz_rb hR (Nat.le_of_ble_eq_true rfl) rfl mzcR_232_3) (g_sipush mzs_3850 (g_iload_n rfl (g_iadd (g_aload_n rfl (g_iload_n rfl (g_iload_n rfl ?_)))))))
    obtain ⟨h2, hp⟩ := hp
    refine g_v3v (Nat.le_of_ble_eq_true rfl) (mz_at hS (Nat.le_of_ble_eq_true rfl) mzcS_232) (fun _ hq => cs_470 (Nat.le_trans (Nat.le_of_ble_eq_true rfl) hd) (hS.le (Nat.le_of_ble_eq_true rfl)) (hR.le (Nat.le_of_ble_eq_true rfl))  v1 s.1 s.2 h2 hq) ?_
    refine g_zeq (tg := 71) rfl ms_467_71 hC (fun h3 hC => ?_) (fun h3 hC => ?_)
    · have hp := hp.1 h3
      refine g_aload_n rfl (g_getR (mz_at hS (Nat.le_of_ble_eq_true rfl) mzcS_232) mzcf_12_3 (mz_rb hR (Nat.le_of_ble_eq_true rfl) rfl mzcR_232_3) (g_sipush mzs_550 (g_iconst mzi_1 (g_iload_n rfl (g_iadd (g_imul (g_iload_n rfl ?_)))))))
      refine g_iadd ?_
      obtain ⟨h4, hp⟩ := hp
      refine g_iald hS.1 (mz_at hS (Nat.le_of_ble_eq_true rfl) mzcS_233) h4 (g_goto (tg := 77) rfl ms_467_77 ?_)
      refine g_weak ?_ (g_cl (cg_467_77 hd hS hR (3850 + s.1) (mz_gI s.2 233 ((550 * (1 + v1)) + s.1)) v1 s.1 s.2 hr hc1 hx1 hp hC))
      exact ⟨rfl, rfl, rfl, trivial⟩
    · have hp := hp.2 h3
      refine g_aload_n rfl (g_getR (mz_at hS (Nat.le_of_ble_eq_true rfl) mzcS_232) mzcf_12_3 (mz_rb hR (Nat.le_of_ble_eq_true rfl) rfl mzcR_232_3) (g_iload_n rfl ?_))
      obtain ⟨h5, hp⟩ := hp
      refine g_iald hS.1 (mz_at hS (Nat.le_of_ble_eq_true rfl) mzcS_233) h5 ?_
      refine g_weak ?_ (g_cl (cg_467_77 hd hS hR (3850 + s.1) (mz_gI s.2 233 s.1) v1 s.1 s.2 hr hc1 hx1 hp hC))
      exact ⟨rfl, rfl, rfl, trivial⟩
  · have hp := hp.2 h1
    refine g_aload_n rfl (g_bipush mzb_7 ?_)
    obtain ⟨h6, hp⟩ := hp
    refine g_v2n (Nat.le_of_ble_eq_true rfl) (mz_at hS (Nat.le_of_ble_eq_true rfl) mzcS_232) (fun _ hq => cs_428 (Nat.le_trans (Nat.le_of_ble_eq_true rfl) hd) (hS.le (Nat.le_of_ble_eq_true rfl)) (hR.le (Nat.le_of_ble_eq_true rfl))  7 s.2 h6 hq) (g_aload_n rfl (g_getI (mz_at hS (Nat.le_of_ble_eq_true rfl) mzcS_232) mzcf_12_7 (g_bipush mzb_40 ?_)))
    refine g_icle (tg := 108) rfl ms_467_108 hC (fun h7 hC => ?_) (fun h7 hC => ?_)
    · have hp := hp.1 h7
      refine g_aload_n rfl (g_iconst mzi_0 ?_)
      have h8 := hp
      refine g_v2n (Nat.le_of_ble_eq_true rfl) (mz_at hS (Nat.le_of_ble_eq_true rfl) mzcS_232) (fun _ hq => cs_428 (Nat.le_trans (Nat.le_of_ble_eq_true rfl) hd) (hS.le (Nat.le_of_ble_eq_true rfl)) (hR.le (Nat.le_of_ble_eq_true rfl))  0 (cf_428_0 7 s.2) h8 hq) (g_sipush mzs_m1002 ?_)
      exact g_iret rfl (hr _ _ (hx1 _ hC))
    · have hp := hp.2 h7
      refine g_aload_n rfl ?_
      refine g_v1n (Nat.le_of_ble_eq_true rfl) (mz_at hS (Nat.le_of_ble_eq_true rfl) mzcS_232) (fun _ hq => cs_471 (Nat.le_trans (Nat.le_of_ble_eq_true rfl) hd) (hS.le (Nat.le_of_ble_eq_true rfl)) (hR.le (Nat.le_of_ble_eq_true rfl))  (cf_428_0 7 s.2) trivial hq) (g_iconst mzi_0 (g_istore_n (Nat.le_of_ble_eq_true rfl) rfl ?_))
      refine g_weak ?_ (g_cl (cg_467_114 hd hS hR v1 0 (cf_471_0 (cf_428_0 7 s.2)) hr hp (hx1 _ hC)))
      exact ⟨rfl, rfl, rfl, trivial⟩
theorem cg_467_29 (hd : 5 ≤ d) (hS : mz_extR S 342) (hR : mz_rok R 342)  (v1 : Int32) (v3 : Int32) (N : mz_N) {C0 : (Int32 × mz_N) → Prop} (hr : ∀ (w : Int32) (N2 : mz_N), C0 (w, N2) → Q (.inl (some (.int w))) (mz_k S R N2 b t)) (hp : cp_467_29 v1 v3 N) (hC : C0 (cf_467_29 v1 v3 N)) : mz_G (d, mz_X0 L xs, some .int, [], mk_467, 6, Q) 29 mt_467_29 [(0, .ref 232), (1, .int v1), (3, .int v3)] [] false (mz_k S R N b t) := by
  obtain ⟨n, hn⟩ := hp
  exact g_loop (G := fun s => mz_G (d, mz_X0 L xs, some .int, [], mk_467, 6, Q) 29 mt_467_29 [(0, .ref 232), (1, .int v1), (3, .int s.1)] [] false (mz_k S R s.2 b t)) (C := C0) (fun C2 hc hx s hP hC => cb_467_29 hd hS hR v1 s hr hc hx hP hC) n (v3, N) hn hC
theorem cg_467_0 (hd : 5 ≤ d) (hS : mz_extR S 342) (hR : mz_rok R 342)  (v1 : Int32) (N : mz_N) {C0 : (Int32 × mz_N) → Prop} (hr : ∀ (w : Int32) (N2 : mz_N), C0 (w, N2) → Q (.inl (some (.int w))) (mz_k S R N2 b t)) (hp : cp_467_0 v1 N) (hC : C0 (cf_467_0 v1 N)) : mz_G (d, mz_X0 L xs, some .int, [], mk_467, 6, Q) 0 mk_467 [(0, .ref 232), (1, .int v1)] [] true (mz_k S R N b t) := by
  unfold cf_467_0 at hC
  unfold cp_467_0 at hp
  refine g_aload_n rfl (g_iload_n rfl ?_)
  refine g_s1v (Nat.le_of_ble_eq_true rfl) (fun _ hq => cs_461 (Nat.le_trans (Nat.le_of_ble_eq_true rfl) hd) (hS.le (Nat.le_of_ble_eq_true rfl)) (hR.le (Nat.le_of_ble_eq_true rfl))  v1 trivial hq) (g_iconst mzi_1 ?_)
  obtain ⟨h2, hp⟩ := hp
  refine g_v3v (Nat.le_of_ble_eq_true rfl) (mz_at hS (Nat.le_of_ble_eq_true rfl) mzcS_232) (fun _ hq => cs_462 (Nat.le_trans (Nat.le_of_ble_eq_true rfl) hd) (hS.le (Nat.le_of_ble_eq_true rfl)) (hR.le (Nat.le_of_ble_eq_true rfl))  (cf_461_0 v1) true N h2 hq) ?_
  refine g_zeq (tg := 14) rfl ms_467_14 hC (fun h3 hC => ?_) (fun h3 hC => ?_)
  · have hp := hp.1 h3
    refine g_iconst mzi_0 ?_
    exact g_iret rfl (hr _ _ hC)
  · have hp := hp.2 h3
    refine g_aload_n rfl (g_iload_n rfl ?_)
    obtain ⟨h4, hp⟩ := hp
    refine g_v2v (Nat.le_of_ble_eq_true rfl) (mz_at hS (Nat.le_of_ble_eq_true rfl) mzcS_232) (fun _ hq => cs_468 (Nat.le_trans (Nat.le_of_ble_eq_true rfl) hd) (hS.le (Nat.le_of_ble_eq_true rfl)) (hR.le (Nat.le_of_ble_eq_true rfl))  v1 ((cf_462_0 (cf_461_0 v1) true N).2) h4 hq) (g_istore_n (Nat.le_of_ble_eq_true rfl) rfl (g_iload_n rfl ?_))
    refine g_ifle (tg := 27) rfl ms_467_27 hC (fun h5 hC => ?_) (fun h5 hC => ?_)
    · have hp := hp.1 h5
      refine g_iload_n rfl (g_ineg ?_)
      exact g_iret rfl (hr _ _ hC)
    · have hp := hp.2 h5
      refine g_iconst mzi_0 (g_istore_n (Nat.le_of_ble_eq_true rfl) rfl ?_)
      refine g_weak ?_ (g_cl (cg_467_29 hd hS hR v1 0 ((cf_462_0 (cf_461_0 v1) true N).2) hr hp hC))
      exact ⟨rfl, rfl, rfl, trivial⟩
theorem cs_467 (hd : 6 ≤ d) (hS : mz_extR S 342) (hR : mz_rok R 342)  (v1 : Int32) (N : mz_N) (hp : cp_467_0 v1 N) (hq : Q (.inl (some (.int ((cf_467_0 v1 N).1)))) (mz_k S R ((cf_467_0 v1 N).2) b t)) : mz_Ed (mz_X0 L xs) d 467 [.ref 232, .int v1] (mz_k S R N b t) Q :=
  by
  refine g_in mzq_467 (Nat.le_of_ble_eq_true rfl) (Nat.le_of_ble_eq_true rfl) (Nat.le_trans (Nat.le_of_ble_eq_true rfl) hd) ?_
  refine g_weak ?_ (cg_467_0 (d := d - 1) (by omega) hS hR v1 N (C0 := fun z => Q (.inl (some (.int z.1))) (mz_k S R z.2 b t)) (fun _ _ h => h) hp hq)
  exact ⟨rfl, rfl, trivial⟩
/-! 479 KeptHouseModel.conflictAt (II)I -/
theorem ms_479_0 : mz_sf mk_479 0 = mk_479 := mz_sf_zero _
theorem ms_479_5 : mz_sf mk_479 5 = mt_479_5 := mz_sf_add ms_479_0 (t := 5) rfl rfl
theorem ms_479_31 : mz_sf mk_479 31 = mt_479_31 := mz_sf_add ms_479_5 (t := 26) rfl rfl
theorem ms_479_34 : mz_sf mk_479 34 = mt_479_34 := mz_sf_add ms_479_31 (t := 3) rfl rfl
theorem ms_479_40 : mz_sf mk_479 40 = mt_479_40 := mz_sf_add ms_479_34 (t := 6) rfl rfl
set_option maxRecDepth 100000 in
theorem mzq_479 : mz_PG0 479 = some (12, ⟨"KeptHouseModel", "conflictAt", "(II)I"⟩, prog_14_method_28_code, 5, some .int, [], mk_479, []) := rfl
theorem cg_479_34 (hd : 2 ≤ d) (hS : mz_extR S 342) (hR : mz_rok R 342)  (v1 : Int32) (v2 : Int32) (v3 : Int32) (v4 : Int32) (N : mz_N) {C0 : (Int32) → Prop} (hr : ∀ (w : Int32), C0 w → Q (.inl (some (.int w))) (mz_k S R N b t)) {C1 : ((Int32 × Int32) ⊕ (Int32)) → Prop} (hc1 : ∀ s2, C1 (.inl s2) → mz_G (d, mz_X0 L xs, some .int, [], mk_479, 5, Q) 5 mt_479_5 [(0, .ref 232), (1, .int v1), (2, .int v2), (3, .int s2.1), (4, .int s2.2)] [] false (mz_k S R N b t)) (hx1 : ∀ z, C1 (.inr z) → C0 z) (hp : cp_479_34 v1 v2 v3 v4 N) (hC : C1 (cf_479_34 v1 v2 v3 v4 N)) : mz_G (d, mz_X0 L xs, some .int, [], mk_479, 5, Q) 34 mt_479_34 [(0, .ref 232), (1, .int v1), (2, .int v2), (3, .int v3), (4, .int v4)] [] false (mz_k S R N b t) := by
  unfold cf_479_34 at hC
  unfold cp_479_34 at hp
  refine g_iinc rfl mzi_1 (Nat.le_of_ble_eq_true rfl) rfl (g_goto (tg := 5) rfl ms_479_5 ?_)
  refine g_weak ?_ (g_cl (hc1 (v3, (v4 + 1)) hC))
  exact ⟨rfl, rfl, rfl, rfl, rfl, trivial⟩
theorem cb_479_5 (hd : 2 ≤ d) (hS : mz_extR S 342) (hR : mz_rok R 342)  (v1 : Int32) (v2 : Int32) (N : mz_N) (s : Int32 × Int32) {C0 : (Int32) → Prop} (hr : ∀ (w : Int32), C0 w → Q (.inl (some (.int w))) (mz_k S R N b t)) {C1 : ((Int32 × Int32) ⊕ (Int32)) → Prop} (hc1 : ∀ s2, C1 (.inl s2) → mz_G (d, mz_X0 L xs, some .int, [], mk_479, 5, Q) 5 mt_479_5 [(0, .ref 232), (1, .int v1), (2, .int v2), (3, .int s2.1), (4, .int s2.2)] [] false (mz_k S R N b t)) (hx1 : ∀ z, C1 (.inr z) → C0 z) (hp : cd_479_5 v1 v2 N s) (hC : C1 (cq_479_5 v1 v2 N s)) : mz_G (d, mz_X0 L xs, some .int, [], mk_479, 5, Q) 5 mt_479_5 [(0, .ref 232), (1, .int v1), (2, .int v2), (3, .int s.1), (4, .int s.2)] [] false (mz_k S R N b t) := by
  unfold cq_479_5 at hC
  unfold cd_479_5 at hp
  refine g_iload rfl (g_sipush mzs_550 ?_)
  refine g_icge (tg := 40) rfl ms_479_40 hC (fun h1 hC => ?_) (fun h1 hC => ?_)
  · have hp := hp.1 h1
    refine g_aload_n rfl (g_iload_n rfl (g_iload rfl ?_))
    obtain ⟨h2, hp⟩ := hp
    refine g_v3v (Nat.le_of_ble_eq_true rfl) (mz_at hS (Nat.le_of_ble_eq_true rfl) mzcS_232) (fun _ hq => cs_469 (Nat.le_trans (Nat.le_of_ble_eq_true rfl) hd) (hS.le (Nat.le_of_ble_eq_true rfl)) (hR.le (Nat.le_of_ble_eq_true rfl))  v1 s.2 N h2 hq) ?_
    refine g_zeq (tg := 34) rfl ms_479_34 hC (fun h3 hC => ?_) (fun h3 hC => ?_)
    · have hp := hp.1 h3
      refine g_iload_n rfl (g_iload_n rfl ?_)
      refine g_icne (tg := 31) rfl ms_479_31 hC (fun h4 hC => ?_) (fun h4 hC => ?_)
      · have hp := hp.1 h4
        refine g_iload rfl ?_
        exact g_iret rfl (hr _ (hx1 _ hC))
      · have hp := hp.2 h4
        refine g_iinc rfl mzi_1 (Nat.le_of_ble_eq_true rfl) rfl ?_
        refine g_weak ?_ (g_cl (cg_479_34 hd hS hR v1 v2 (s.1 + 1) s.2 N hr hc1 hx1 hp hC))
        exact ⟨rfl, rfl, rfl, rfl, rfl, trivial⟩
    · have hp := hp.2 h3
      refine g_weak ?_ (g_cl (cg_479_34 hd hS hR v1 v2 s.1 s.2 N hr hc1 hx1 hp hC))
      exact ⟨rfl, rfl, rfl, rfl, rfl, trivial⟩
  · have hp := hp.2 h1
    refine g_iconst mzi_m1 ?_
    exact g_iret rfl (hr _ (hx1 _ hC))
theorem cg_479_5 (hd : 2 ≤ d) (hS : mz_extR S 342) (hR : mz_rok R 342)  (v1 : Int32) (v2 : Int32) (v3 : Int32) (v4 : Int32) (N : mz_N) {C0 : (Int32) → Prop} (hr : ∀ (w : Int32), C0 w → Q (.inl (some (.int w))) (mz_k S R N b t)) (hp : cp_479_5 v1 v2 v3 v4 N) (hC : C0 (cf_479_5 v1 v2 v3 v4 N)) : mz_G (d, mz_X0 L xs, some .int, [], mk_479, 5, Q) 5 mt_479_5 [(0, .ref 232), (1, .int v1), (2, .int v2), (3, .int v3), (4, .int v4)] [] false (mz_k S R N b t) := by
  obtain ⟨n, hn⟩ := hp
  exact g_loop (G := fun s => mz_G (d, mz_X0 L xs, some .int, [], mk_479, 5, Q) 5 mt_479_5 [(0, .ref 232), (1, .int v1), (2, .int v2), (3, .int s.1), (4, .int s.2)] [] false (mz_k S R N b t)) (C := C0) (fun C2 hc hx s hP hC => cb_479_5 hd hS hR v1 v2 N s hr hc hx hP hC) n (v3, v4) hn hC
theorem cg_479_0 (hd : 2 ≤ d) (hS : mz_extR S 342) (hR : mz_rok R 342)  (v1 : Int32) (v2 : Int32) (N : mz_N) {C0 : (Int32) → Prop} (hr : ∀ (w : Int32), C0 w → Q (.inl (some (.int w))) (mz_k S R N b t)) (hp : cp_479_0 v1 v2 N) (hC : C0 (cf_479_0 v1 v2 N)) : mz_G (d, mz_X0 L xs, some .int, [], mk_479, 5, Q) 0 mk_479 [(0, .ref 232), (1, .int v1), (2, .int v2)] [] true (mz_k S R N b t) := by
  unfold cf_479_0 at hC
  unfold cp_479_0 at hp
  refine g_iconst mzi_0 (g_istore_n (Nat.le_of_ble_eq_true rfl) rfl (g_iconst mzi_0 (g_istore (Nat.le_of_ble_eq_true rfl) rfl ?_)))
  refine g_weak ?_ (g_cl (cg_479_5 hd hS hR v1 v2 0 0 N hr hp hC))
  exact ⟨rfl, rfl, rfl, rfl, rfl, trivial⟩
theorem cs_479 (hd : 3 ≤ d) (hS : mz_extR S 342) (hR : mz_rok R 342)  (v1 : Int32) (v2 : Int32) (N : mz_N) (hp : cp_479_0 v1 v2 N) (hq : Q (.inl (some (.int (cf_479_0 v1 v2 N)))) (mz_k S R N b t)) : mz_Ed (mz_X0 L xs) d 479 [.ref 232, .int v1, .int v2] (mz_k S R N b t) Q :=
  by
  refine g_in mzq_479 (Nat.le_of_ble_eq_true rfl) (Nat.le_of_ble_eq_true rfl) (Nat.le_trans (Nat.le_of_ble_eq_true rfl) hd) ?_
  refine g_weak ?_ (cg_479_0 (d := d - 1) (by omega) hS hR v1 v2 N (C0 := fun z => Q (.inl (some (.int z))) (mz_k S R N b t)) (fun _ h => h) hp hq)
  exact ⟨rfl, rfl, rfl, trivial⟩
/-! 478 KeptHouseModel.conflict (II)I -/
theorem ms_478_0 : mz_sf mk_478 0 = mk_478 := mz_sf_zero _
theorem ms_478_16 : mz_sf mk_478 16 = mt_478_16 := mz_sf_add ms_478_0 (t := 16) rfl rfl
theorem ms_478_17 : mz_sf mk_478 17 = mt_478_17 := mz_sf_add ms_478_16 (t := 1) rfl rfl
theorem ms_478_26 : mz_sf mk_478 26 = mt_478_26 := mz_sf_add ms_478_17 (t := 9) rfl rfl
theorem ms_478_41 : mz_sf mk_478 41 = mt_478_41 := mz_sf_add ms_478_26 (t := 15) rfl rfl
theorem ms_478_54 : mz_sf mk_478 54 = mt_478_54 := mz_sf_add ms_478_41 (t := 13) rfl rfl
set_option maxRecDepth 100000 in
theorem mzq_478 : mz_PG0 478 = some (12, ⟨"KeptHouseModel", "conflict", "(II)I"⟩, prog_14_method_30_code, 4, some .int, [], mk_478, []) := rfl
theorem cg_478_17 (hd : 3 ≤ d) (hS : mz_extR S 342) (hR : mz_rok R 342)  (s1 : Bool) (v1 : Int32) (v2 : Int32) (N : mz_N) {C0 : (Int32 × mz_N) → Prop} (hr : ∀ (w : Int32) (N2 : mz_N), C0 (w, N2) → Q (.inl (some (.int w))) (mz_k S R N2 b t)) (hp : cp_478_17 s1 v1 v2 N) (hC : C0 (cf_478_17 s1 v1 v2 N)) : mz_G (d, mz_X0 L xs, some .int, [], mk_478, 4, Q) 17 mt_478_17 [(0, .ref 232), (1, .int v1), (2, .int v2)] [.int (mz_b01 s1), .ref 232] false (mz_k S R N b t) := by
  unfold cf_478_17 at hC
  unfold cp_478_17 at hp
  refine g_iconst mzi_1 ?_
  obtain ⟨h1, hp⟩ := hp
  refine g_v3v (Nat.le_of_ble_eq_true rfl) (mz_at hS (Nat.le_of_ble_eq_true rfl) mzcS_232) (fun _ hq => cs_462 (Nat.le_trans (Nat.le_of_ble_eq_true rfl) hd) (hS.le (Nat.le_of_ble_eq_true rfl)) (hR.le (Nat.le_of_ble_eq_true rfl))  s1 true N h1 hq) ?_
  refine g_zeq (tg := 26) rfl ms_478_26 hC (fun h2 hC => ?_) (fun h2 hC => ?_)
  · have hp := hp.1 h2
    refine g_iconst mzi_0 ?_
    exact g_iret rfl (hr _ _ hC)
  · have hp := hp.2 h2
    refine g_aload_n rfl (g_iload_n rfl (g_iload_n rfl ?_))
    have h3 := hp
    refine g_v3v (Nat.le_of_ble_eq_true rfl) (mz_at hS (Nat.le_of_ble_eq_true rfl) mzcS_232) (fun _ hq => cs_479 (Nat.le_trans (Nat.le_of_ble_eq_true rfl) hd) (hS.le (Nat.le_of_ble_eq_true rfl)) (hR.le (Nat.le_of_ble_eq_true rfl))  v1 v2 ((cf_462_0 s1 true N).2) h3 hq) (g_istore_n (Nat.le_of_ble_eq_true rfl) rfl (g_iload_n rfl ?_))
    refine g_ifge (tg := 41) rfl ms_478_41 hC (fun h4 hC => ?_) (fun h4 hC => ?_)
    · refine g_iconst mzi_m1 (g_goto (tg := 54) rfl ms_478_54 ?_)
      exact g_iret rfl (hr _ _ hC)
    · refine g_sipush mzs_128 (g_iload_n rfl (g_bipush mzb_110 (g_idiv (by decide) (g_imul (g_iload_n rfl (g_bipush mzb_110 (g_irem (by decide) ?_)))))))
      refine g_iadd ?_
      exact g_iret rfl (hr _ _ hC)
theorem cg_478_16 (hd : 3 ≤ d) (hS : mz_extR S 342) (hR : mz_rok R 342)  (v1 : Int32) (v2 : Int32) (N : mz_N) {C0 : (Int32 × mz_N) → Prop} (hr : ∀ (w : Int32) (N2 : mz_N), C0 (w, N2) → Q (.inl (some (.int w))) (mz_k S R N2 b t)) (hp : cp_478_16 v1 v2 N) (hC : C0 (cf_478_16 v1 v2 N)) : mz_G (d, mz_X0 L xs, some .int, [], mk_478, 4, Q) 16 mt_478_16 [(0, .ref 232), (1, .int v1), (2, .int v2)] [.ref 232] false (mz_k S R N b t) := by
  unfold cf_478_16 at hC
  unfold cp_478_16 at hp
  refine g_iconst mzi_0 ?_
  refine g_weak ?_ (g_cl (cg_478_17 hd hS hR false v1 v2 N hr hp hC))
  exact ⟨rfl, rfl, rfl, trivial⟩
theorem cg_478_0 (hd : 3 ≤ d) (hS : mz_extR S 342) (hR : mz_rok R 342)  (v1 : Int32) (v2 : Int32) (N : mz_N) {C0 : (Int32 × mz_N) → Prop} (hr : ∀ (w : Int32) (N2 : mz_N), C0 (w, N2) → Q (.inl (some (.int w))) (mz_k S R N2 b t)) (hp : cp_478_0 v1 v2 N) (hC : C0 (cf_478_0 v1 v2 N)) : mz_G (d, mz_X0 L xs, some .int, [], mk_478, 4, Q) 0 mk_478 [(0, .ref 232), (1, .int v1), (2, .int v2)] [] true (mz_k S R N b t) := by
  unfold cf_478_0 at hC
  unfold cp_478_0 at hp
  refine g_aload_n rfl (g_iload_n rfl ?_)
  refine g_s1v (Nat.le_of_ble_eq_true rfl) (fun _ hq => cs_461 (Nat.le_trans (Nat.le_of_ble_eq_true rfl) hd) (hS.le (Nat.le_of_ble_eq_true rfl)) (hR.le (Nat.le_of_ble_eq_true rfl))  v1 trivial hq) ?_
  refine g_zeq (tg := 16) rfl ms_478_16 hC (fun h2 hC => ?_) (fun h2 hC => ?_)
  · have hp := hp.1 h2
    refine g_iload_n rfl ?_
    refine g_iflt (tg := 16) rfl ms_478_16 hC (fun h3 hC => ?_) (fun h3 hC => ?_)
    · have hp := hp.1 h3
      refine g_weak ?_ (g_cl (cg_478_16 hd hS hR v1 v2 N hr hp hC))
      exact ⟨rfl, rfl, rfl, trivial⟩
    · have hp := hp.2 h3
      refine g_iconst mzi_1 (g_goto (tg := 17) rfl ms_478_17 ?_)
      refine g_weak ?_ (g_cl (cg_478_17 hd hS hR true v1 v2 N hr hp hC))
      exact ⟨rfl, rfl, rfl, trivial⟩
  · have hp := hp.2 h2
    refine g_weak ?_ (g_cl (cg_478_16 hd hS hR v1 v2 N hr hp hC))
    exact ⟨rfl, rfl, rfl, trivial⟩
theorem cs_478 (hd : 4 ≤ d) (hS : mz_extR S 342) (hR : mz_rok R 342)  (v1 : Int32) (v2 : Int32) (N : mz_N) (hp : cp_478_0 v1 v2 N) (hq : Q (.inl (some (.int ((cf_478_0 v1 v2 N).1)))) (mz_k S R ((cf_478_0 v1 v2 N).2) b t)) : mz_Ed (mz_X0 L xs) d 478 [.ref 232, .int v1, .int v2] (mz_k S R N b t) Q :=
  by
  refine g_in mzq_478 (Nat.le_of_ble_eq_true rfl) (Nat.le_of_ble_eq_true rfl) (Nat.le_trans (Nat.le_of_ble_eq_true rfl) hd) ?_
  refine g_weak ?_ (cg_478_0 (d := d - 1) (by omega) hS hR v1 v2 N (C0 := fun z => Q (.inl (some (.int z.1))) (mz_k S R z.2 b t)) (fun _ _ h => h) hp hq)
  exact ⟨rfl, rfl, rfl, trivial⟩
/-! 480 KeptHouseModel.settle (IIZ)I -/
theorem ms_480_0 : mz_sf mk_480 0 = mk_480 := mz_sf_zero _
theorem ms_480_16 : mz_sf mk_480 16 = mt_480_16 := mz_sf_add ms_480_0 (t := 16) rfl rfl
theorem ms_480_17 : mz_sf mk_480 17 = mt_480_17 := mz_sf_add ms_480_16 (t := 1) rfl rfl
theorem ms_480_26 : mz_sf mk_480 26 = mt_480_26 := mz_sf_add ms_480_17 (t := 9) rfl rfl
theorem ms_480_41 : mz_sf mk_480 41 = mt_480_41 := mz_sf_add ms_480_26 (t := 15) rfl rfl
theorem ms_480_63 : mz_sf mk_480 63 = mt_480_63 := mz_sf_add ms_480_41 (t := 22) rfl rfl
theorem ms_480_89 : mz_sf mk_480 89 = mt_480_89 := mz_sf_add ms_480_63 (t := 26) rfl rfl
set_option maxRecDepth 100000 in
theorem mzq_480 : mz_PG0 480 = some (12, ⟨"KeptHouseModel", "settle", "(IIZ)I"⟩, prog_14_method_31_code, 5, some .int, [], mk_480, []) := rfl
theorem cg_480_89 (hd : 3 ≤ d) (hS : mz_extR S 342) (hR : mz_rok R 342)  (v1 : Int32) (N : mz_N) {C0 : (Int32 × mz_N) → Prop} (hr : ∀ (w : Int32) (N2 : mz_N), C0 (w, N2) → Q (.inl (some (.int w))) (mz_k S R N2 b t)) (hp : cp_480_89 v1 N) (hC : C0 (cf_480_89 v1 N)) : mz_G (d, mz_X0 L xs, some .int, [], mk_480, 5, Q) 89 mt_480_89 [(0, .ref 232), (1, .int v1)] [] false (mz_k S R N b t) := by
  unfold cf_480_89 at hC
  unfold cp_480_89 at hp
  refine g_aload_n rfl (g_iload_n rfl ?_)
  have h1 := hp
  refine g_v2v (Nat.le_of_ble_eq_true rfl) (mz_at hS (Nat.le_of_ble_eq_true rfl) mzcS_232) (fun _ hq => cs_468 (Nat.le_trans (Nat.le_of_ble_eq_true rfl) hd) (hS.le (Nat.le_of_ble_eq_true rfl)) (hR.le (Nat.le_of_ble_eq_true rfl))  v1 N h1 hq) ?_
  exact g_iret rfl (hr _ _ hC)
theorem cg_480_63 (hd : 3 ≤ d) (hS : mz_extR S 342) (hR : mz_rok R 342)  (v1 : Int32) (v3 : Bool) (v4 : Int32) (N : mz_N) {C0 : (Int32 × mz_N) → Prop} (hr : ∀ (w : Int32) (N2 : mz_N), C0 (w, N2) → Q (.inl (some (.int w))) (mz_k S R N2 b t)) (hp : cp_480_63 v1 v3 v4 N) (hC : C0 (cf_480_63 v1 v3 v4 N)) : mz_G (d, mz_X0 L xs, some .int, [], mk_480, 5, Q) 63 mt_480_63 [(0, .ref 232), (1, .int v1), (3, .int (mz_b01 v3)), (4, .int v4)] [] false (mz_k S R N b t) := by
  unfold cf_480_63 at hC
  unfold cp_480_63 at hp
  refine g_iload_n rfl ?_
  refine g_zne (tg := 89) rfl ms_480_89 hC (fun h1 hC => ?_) (fun h1 hC => ?_)
  · have hp := hp.1 h1
    refine g_weak ?_ (g_cl (cg_480_89 hd hS hR v1 N hr hp hC))
    exact ⟨rfl, rfl, trivial⟩
  · have hp := hp.2 h1
    refine g_aload_n rfl (g_getR (mz_at hS (Nat.le_of_ble_eq_true rfl) mzcS_232) mzcf_12_3 (mz_rb hR (Nat.le_of_ble_eq_true rfl) rfl mzcR_232_3) (g_sipush mzs_550 (g_iconst mzi_1 (g_iload_n rfl (g_iadd (g_imul (g_iload rfl ?_)))))))
    refine g_iadd (g_aload_n rfl (g_getR (mz_at hS (Nat.le_of_ble_eq_true rfl) mzcS_232) mzcf_12_3 (mz_rb hR (Nat.le_of_ble_eq_true rfl) rfl mzcR_232_3) (g_iload rfl ?_)))
    obtain ⟨h2, hp⟩ := hp
    refine g_iald hS.1 (mz_at hS (Nat.le_of_ble_eq_true rfl) mzcS_233) h2 ?_
    obtain ⟨h3, hp⟩ := hp
    refine g_iast (mz_at hS (Nat.le_of_ble_eq_true rfl) mzcS_233) h3 ?_
    refine g_weak ?_ (g_cl (cg_480_89 hd hS hR v1 (mz_wI N 233 ((550 * (1 + v1)) + v4) (mz_gI N 233 v4)) hr hp hC))
    exact ⟨rfl, rfl, trivial⟩
theorem cg_480_17 (hd : 3 ≤ d) (hS : mz_extR S 342) (hR : mz_rok R 342)  (s1 : Bool) (v1 : Int32) (v2 : Int32) (v3 : Bool) (N : mz_N) {C0 : (Int32 × mz_N) → Prop} (hr : ∀ (w : Int32) (N2 : mz_N), C0 (w, N2) → Q (.inl (some (.int w))) (mz_k S R N2 b t)) (hp : cp_480_17 s1 v1 v2 v3 N) (hC : C0 (cf_480_17 s1 v1 v2 v3 N)) : mz_G (d, mz_X0 L xs, some .int, [], mk_480, 5, Q) 17 mt_480_17 [(0, .ref 232), (1, .int v1), (2, .int v2), (3, .int (mz_b01 v3))] [.int (mz_b01 s1), .ref 232] false (mz_k S R N b t) := by
  unfold cf_480_17 at hC
  unfold cp_480_17 at hp
  refine g_iconst mzi_1 ?_
  obtain ⟨h1, hp⟩ := hp
  refine g_v3v (Nat.le_of_ble_eq_true rfl) (mz_at hS (Nat.le_of_ble_eq_true rfl) mzcS_232) (fun _ hq => cs_462 (Nat.le_trans (Nat.le_of_ble_eq_true rfl) hd) (hS.le (Nat.le_of_ble_eq_true rfl)) (hR.le (Nat.le_of_ble_eq_true rfl))  s1 true N h1 hq) ?_
  refine g_zeq (tg := 26) rfl ms_480_26 hC (fun h2 hC => ?_) (fun h2 hC => ?_)
  · have hp := hp.1 h2
    refine g_iconst mzi_0 ?_
    exact g_iret rfl (hr _ _ hC)
  · have hp := hp.2 h2
    refine g_aload_n rfl (g_iload_n rfl (g_iload_n rfl ?_))
    obtain ⟨h3, hp⟩ := hp
    refine g_v3v (Nat.le_of_ble_eq_true rfl) (mz_at hS (Nat.le_of_ble_eq_true rfl) mzcS_232) (fun _ hq => cs_479 (Nat.le_trans (Nat.le_of_ble_eq_true rfl) hd) (hS.le (Nat.le_of_ble_eq_true rfl)) (hR.le (Nat.le_of_ble_eq_true rfl))  v1 v2 ((cf_462_0 s1 true N).2) h3 hq) (g_istore (Nat.le_of_ble_eq_true rfl) rfl (g_iload rfl ?_))
    refine g_ifge (tg := 41) rfl ms_480_41 hC (fun h4 hC => ?_) (fun h4 hC => ?_)
    · have hp := hp.1 h4
      refine g_iconst mzi_m1 ?_
      exact g_iret rfl (hr _ _ hC)
    · have hp := hp.2 h4
      refine g_aload_n rfl (g_getR (mz_at hS (Nat.le_of_ble_eq_true rfl) mzcS_232) mzcf_12_3 (mz_rb hR (Nat.le_of_ble_eq_true rfl) rfl mzcR_232_3) (g_sipush mzs_550 (g_iconst mzi_4 (g_iload_n rfl (g_iadd (g_imul (g_iload rfl ?_)))))))
      refine g_iadd (g_aload_n rfl (g_getR (mz_at hS (Nat.le_of_ble_eq_true rfl) mzcS_232) mzcf_12_3 (mz_rb hR (Nat.le_of_ble_eq_true rfl) rfl mzcR_232_3) (g_iload rfl ?_)))
      obtain ⟨h5, hp⟩ := hp
      refine g_iald hS.1 (mz_at hS (Nat.le_of_ble_eq_true rfl) mzcS_233) h5 ?_
      obtain ⟨h6, hp⟩ := hp
      refine g_iast (mz_at hS (Nat.le_of_ble_eq_true rfl) mzcS_233) h6 ?_
      refine g_weak ?_ (g_cl (cg_480_63 hd hS hR v1 v3 (cf_479_0 v1 v2 ((cf_462_0 s1 true N).2)) (mz_wI ((cf_462_0 s1 true N).2) 233 ((550 * (4 + v1)) + (cf_479_0 v1 v2 ((cf_462_0 s1 true N).2))) (mz_gI ((cf_462_0 s1 true N).2) 233 (cf_479_0 v1 v2 ((cf_462_0 s1 true N).2)))) hr hp hC))
      exact ⟨rfl, rfl, rfl, rfl, trivial⟩
theorem cg_480_16 (hd : 3 ≤ d) (hS : mz_extR S 342) (hR : mz_rok R 342)  (v1 : Int32) (v2 : Int32) (v3 : Bool) (N : mz_N) {C0 : (Int32 × mz_N) → Prop} (hr : ∀ (w : Int32) (N2 : mz_N), C0 (w, N2) → Q (.inl (some (.int w))) (mz_k S R N2 b t)) (hp : cp_480_16 v1 v2 v3 N) (hC : C0 (cf_480_16 v1 v2 v3 N)) : mz_G (d, mz_X0 L xs, some .int, [], mk_480, 5, Q) 16 mt_480_16 [(0, .ref 232), (1, .int v1), (2, .int v2), (3, .int (mz_b01 v3))] [.ref 232] false (mz_k S R N b t) := by
  unfold cf_480_16 at hC
  unfold cp_480_16 at hp
  refine g_iconst mzi_0 ?_
  refine g_weak ?_ (g_cl (cg_480_17 hd hS hR false v1 v2 v3 N hr hp hC))
  exact ⟨rfl, rfl, rfl, rfl, trivial⟩
theorem cg_480_0 (hd : 3 ≤ d) (hS : mz_extR S 342) (hR : mz_rok R 342)  (v1 : Int32) (v2 : Int32) (v3 : Bool) (N : mz_N) {C0 : (Int32 × mz_N) → Prop} (hr : ∀ (w : Int32) (N2 : mz_N), C0 (w, N2) → Q (.inl (some (.int w))) (mz_k S R N2 b t)) (hp : cp_480_0 v1 v2 v3 N) (hC : C0 (cf_480_0 v1 v2 v3 N)) : mz_G (d, mz_X0 L xs, some .int, [], mk_480, 5, Q) 0 mk_480 [(0, .ref 232), (1, .int v1), (2, .int v2), (3, .int (mz_b01 v3))] [] true (mz_k S R N b t) := by
  unfold cf_480_0 at hC
  unfold cp_480_0 at hp
  refine g_aload_n rfl (g_iload_n rfl ?_)
  refine g_s1v (Nat.le_of_ble_eq_true rfl) (fun _ hq => cs_461 (Nat.le_trans (Nat.le_of_ble_eq_true rfl) hd) (hS.le (Nat.le_of_ble_eq_true rfl)) (hR.le (Nat.le_of_ble_eq_true rfl))  v1 trivial hq) ?_
  refine g_zeq (tg := 16) rfl ms_480_16 hC (fun h2 hC => ?_) (fun h2 hC => ?_)
  · have hp := hp.1 h2
    refine g_iload_n rfl ?_
    refine g_iflt (tg := 16) rfl ms_480_16 hC (fun h3 hC => ?_) (fun h3 hC => ?_)
    · have hp := hp.1 h3
      refine g_weak ?_ (g_cl (cg_480_16 hd hS hR v1 v2 v3 N hr hp hC))
      exact ⟨rfl, rfl, rfl, rfl, trivial⟩
    · have hp := hp.2 h3
      refine g_iconst mzi_1 (g_goto (tg := 17) rfl ms_480_17 ?_)
      refine g_weak ?_ (g_cl (cg_480_17 hd hS hR true v1 v2 v3 N hr hp hC))
      exact ⟨rfl, rfl, rfl, rfl, trivial⟩
  · have hp := hp.2 h2
    refine g_weak ?_ (g_cl (cg_480_16 hd hS hR v1 v2 v3 N hr hp hC))
    exact ⟨rfl, rfl, rfl, rfl, trivial⟩
theorem cs_480 (hd : 4 ≤ d) (hS : mz_extR S 342) (hR : mz_rok R 342)  (v1 : Int32) (v2 : Int32) (v3 : Bool) (N : mz_N) (hp : cp_480_0 v1 v2 v3 N) (hq : Q (.inl (some (.int ((cf_480_0 v1 v2 v3 N).1)))) (mz_k S R ((cf_480_0 v1 v2 v3 N).2) b t)) : mz_Ed (mz_X0 L xs) d 480 [.ref 232, .int v1, .int v2, .int (mz_b01 v3)] (mz_k S R N b t) Q :=
  by
  refine g_in mzq_480 (Nat.le_of_ble_eq_true rfl) (Nat.le_of_ble_eq_true rfl) (Nat.le_trans (Nat.le_of_ble_eq_true rfl) hd) ?_
  refine g_weak ?_ (cg_480_0 (d := d - 1) (by omega) hS hR v1 v2 v3 N (C0 := fun z => Q (.inl (some (.int z.1))) (mz_k S R z.2 b t)) (fun _ _ h => h) hp hq)
  exact ⟨rfl, rfl, rfl, rfl, trivial⟩
/-! 481 KeptHouseModel.edge (II)I -/
theorem ms_481_0 : mz_sf mk_481 0 = mk_481 := mz_sf_zero _
theorem ms_481_17 : mz_sf mk_481 17 = mt_481_17 := mz_sf_add ms_481_0 (t := 17) rfl rfl
theorem ms_481_28 : mz_sf mk_481 28 = mt_481_28 := mz_sf_add ms_481_17 (t := 11) rfl rfl
set_option maxRecDepth 100000 in
theorem mzq_481 : mz_PG0 481 = some (12, ⟨"KeptHouseModel", "edge", "(II)I"⟩, prog_14_method_32_code, 3, some .int, [], mk_481, []) := rfl
theorem cg_481_0 (hd : 2 ≤ d) (hS : mz_extR S 342) (hR : mz_rok R 342)  (v1 : Int32) (v2 : Int32) (N : mz_N) {C0 : (Int32 × mz_N) → Prop} (hr : ∀ (w : Int32) (N2 : mz_N), C0 (w, N2) → Q (.inl (some (.int w))) (mz_k S R N2 b t)) (hp : cp_481_0 v1 v2 N) (hC : C0 (cf_481_0 v1 v2 N)) : mz_G (d, mz_X0 L xs, some .int, [], mk_481, 3, Q) 0 mk_481 [(0, .ref 232), (1, .int v1), (2, .int v2)] [] true (mz_k S R N b t) := by
  unfold cf_481_0 at hC
  unfold cp_481_0 at hp
  refine g_aload_n rfl (g_iload_n rfl (g_iload_n rfl ?_))
  refine g_s2v (Nat.le_of_ble_eq_true rfl) (fun _ hq => cs_464 (Nat.le_trans (Nat.le_of_ble_eq_true rfl) hd) (hS.le (Nat.le_of_ble_eq_true rfl)) (hR.le (Nat.le_of_ble_eq_true rfl))  v1 v2 trivial hq) (g_iconst mzi_1 ?_)
  obtain ⟨h2, hp⟩ := hp
  refine g_v3v (Nat.le_of_ble_eq_true rfl) (mz_at hS (Nat.le_of_ble_eq_true rfl) mzcS_232) (fun _ hq => cs_462 (Nat.le_trans (Nat.le_of_ble_eq_true rfl) hd) (hS.le (Nat.le_of_ble_eq_true rfl)) (hR.le (Nat.le_of_ble_eq_true rfl))  (cf_464_0 v1 v2) true N h2 hq) ?_
  refine g_zeq (tg := 17) rfl ms_481_17 hC (fun h3 hC => ?_) (fun h3 hC => ?_)
  · have hp := hp.1 h3
    refine g_iconst mzi_0 (g_goto (tg := 28) rfl ms_481_28 ?_)
    exact g_iret rfl (hr _ _ hC)
  · have hp := hp.2 h3
    refine g_aload_n rfl (g_getR (mz_at hS (Nat.le_of_ble_eq_true rfl) mzcS_232) mzcf_12_3 (mz_rb hR (Nat.le_of_ble_eq_true rfl) rfl mzcR_232_3) (g_bipush mzb_110 (g_iload_n rfl (g_imul (g_iload_n rfl (g_iadd ?_))))))
    have h4 := hp
    refine g_iald hS.1 (mz_at hS (Nat.le_of_ble_eq_true rfl) mzcS_233) h4 ?_
    exact g_iret rfl (hr _ _ hC)
theorem cs_481 (hd : 3 ≤ d) (hS : mz_extR S 342) (hR : mz_rok R 342)  (v1 : Int32) (v2 : Int32) (N : mz_N) (hp : cp_481_0 v1 v2 N) (hq : Q (.inl (some (.int ((cf_481_0 v1 v2 N).1)))) (mz_k S R ((cf_481_0 v1 v2 N).2) b t)) : mz_Ed (mz_X0 L xs) d 481 [.ref 232, .int v1, .int v2] (mz_k S R N b t) Q :=
  by
  refine g_in mzq_481 (Nat.le_of_ble_eq_true rfl) (Nat.le_of_ble_eq_true rfl) (Nat.le_trans (Nat.le_of_ble_eq_true rfl) hd) ?_
  refine g_weak ?_ (cg_481_0 (d := d - 1) (by omega) hS hR v1 v2 N (C0 := fun z => Q (.inl (some (.int z.1))) (mz_k S R z.2 b t)) (fun _ _ h => h) hp hq)
  exact ⟨rfl, rfl, rfl, trivial⟩
/-! 482 KeptHouseModel.draft (III)I -/
theorem ms_482_0 : mz_sf mk_482 0 = mk_482 := mz_sf_zero _
theorem ms_482_20 : mz_sf mk_482 20 = mt_482_20 := mz_sf_add ms_482_0 (t := 20) rfl rfl
theorem ms_482_21 : mz_sf mk_482 21 = mt_482_21 := mz_sf_add ms_482_20 (t := 1) rfl rfl
theorem ms_482_32 : mz_sf mk_482 32 = mt_482_32 := mz_sf_add ms_482_21 (t := 11) rfl rfl
theorem ms_482_51 : mz_sf mk_482 51 = mt_482_51 := mz_sf_add ms_482_32 (t := 19) rfl rfl
set_option maxRecDepth 100000 in
theorem mzq_482 : mz_PG0 482 = some (12, ⟨"KeptHouseModel", "draft", "(III)I"⟩, prog_14_method_33_code, 4, some .int, [], mk_482, []) := rfl
theorem cg_482_21 (hd : 2 ≤ d) (hS : mz_extR S 342) (hR : mz_rok R 342)  (s1 : Bool) (v1 : Int32) (v2 : Int32) (v3 : Int32) (N : mz_N) {C0 : (Int32 × mz_N) → Prop} (hr : ∀ (w : Int32) (N2 : mz_N), C0 (w, N2) → Q (.inl (some (.int w))) (mz_k S R N2 b t)) (hp : cp_482_21 s1 v1 v2 v3 N) (hC : C0 (cf_482_21 s1 v1 v2 v3 N)) : mz_G (d, mz_X0 L xs, some .int, [], mk_482, 4, Q) 21 mt_482_21 [(0, .ref 232), (1, .int v1), (2, .int v2), (3, .int v3)] [.int (mz_b01 s1), .ref 232] false (mz_k S R N b t) := by
  unfold cf_482_21 at hC
  unfold cp_482_21 at hp
  refine g_iconst mzi_1 ?_
  obtain ⟨h1, hp⟩ := hp
  refine g_v3v (Nat.le_of_ble_eq_true rfl) (mz_at hS (Nat.le_of_ble_eq_true rfl) mzcS_232) (fun _ hq => cs_462 (Nat.le_trans (Nat.le_of_ble_eq_true rfl) hd) (hS.le (Nat.le_of_ble_eq_true rfl)) (hR.le (Nat.le_of_ble_eq_true rfl))  s1 true N h1 hq) ?_
  refine g_zeq (tg := 32) rfl ms_482_32 hC (fun h2 hC => ?_) (fun h2 hC => ?_)
  · have hp := hp.1 h2
    refine g_iconst mzi_0 (g_goto (tg := 51) rfl ms_482_51 ?_)
    exact g_iret rfl (hr _ _ hC)
  · have hp := hp.2 h2
    refine g_aload_n rfl (g_getR (mz_at hS (Nat.le_of_ble_eq_true rfl) mzcS_232) mzcf_12_3 (mz_rb hR (Nat.le_of_ble_eq_true rfl) rfl mzcR_232_3) (g_sipush mzs_550 (g_iconst mzi_1 (g_iload_n rfl (g_iadd (g_imul (g_bipush mzb_110 ?_)))))))
    refine g_iload_n rfl (g_imul (g_iadd (g_iload_n rfl (g_iadd ?_))))
    have h3 := hp
    refine g_iald hS.1 (mz_at hS (Nat.le_of_ble_eq_true rfl) mzcS_233) h3 ?_
    exact g_iret rfl (hr _ _ hC)
theorem cg_482_20 (hd : 2 ≤ d) (hS : mz_extR S 342) (hR : mz_rok R 342)  (v1 : Int32) (v2 : Int32) (v3 : Int32) (N : mz_N) {C0 : (Int32 × mz_N) → Prop} (hr : ∀ (w : Int32) (N2 : mz_N), C0 (w, N2) → Q (.inl (some (.int w))) (mz_k S R N2 b t)) (hp : cp_482_20 v1 v2 v3 N) (hC : C0 (cf_482_20 v1 v2 v3 N)) : mz_G (d, mz_X0 L xs, some .int, [], mk_482, 4, Q) 20 mt_482_20 [(0, .ref 232), (1, .int v1), (2, .int v2), (3, .int v3)] [.ref 232] false (mz_k S R N b t) := by
  unfold cf_482_20 at hC
  unfold cp_482_20 at hp
  refine g_iconst mzi_0 ?_
  refine g_weak ?_ (g_cl (cg_482_21 hd hS hR false v1 v2 v3 N hr hp hC))
  exact ⟨rfl, rfl, rfl, rfl, trivial⟩
theorem cg_482_0 (hd : 2 ≤ d) (hS : mz_extR S 342) (hR : mz_rok R 342)  (v1 : Int32) (v2 : Int32) (v3 : Int32) (N : mz_N) {C0 : (Int32 × mz_N) → Prop} (hr : ∀ (w : Int32) (N2 : mz_N), C0 (w, N2) → Q (.inl (some (.int w))) (mz_k S R N2 b t)) (hp : cp_482_0 v1 v2 v3 N) (hC : C0 (cf_482_0 v1 v2 v3 N)) : mz_G (d, mz_X0 L xs, some .int, [], mk_482, 4, Q) 0 mk_482 [(0, .ref 232), (1, .int v1), (2, .int v2), (3, .int v3)] [] true (mz_k S R N b t) := by
  unfold cf_482_0 at hC
  unfold cp_482_0 at hp
  refine g_aload_n rfl (g_iload_n rfl ?_)
  refine g_s1v (Nat.le_of_ble_eq_true rfl) (fun _ hq => cs_461 (Nat.le_trans (Nat.le_of_ble_eq_true rfl) hd) (hS.le (Nat.le_of_ble_eq_true rfl)) (hR.le (Nat.le_of_ble_eq_true rfl))  v1 trivial hq) ?_
  refine g_zeq (tg := 20) rfl ms_482_20 hC (fun h2 hC => ?_) (fun h2 hC => ?_)
  · have hp := hp.1 h2
    refine g_iload_n rfl (g_iload_n rfl ?_)
    refine g_s2v (Nat.le_of_ble_eq_true rfl) (fun _ hq => cs_464 (Nat.le_trans (Nat.le_of_ble_eq_true rfl) hd) (hS.le (Nat.le_of_ble_eq_true rfl)) (hR.le (Nat.le_of_ble_eq_true rfl))  v2 v3 trivial hq) ?_
    refine g_zeq (tg := 20) rfl ms_482_20 hC (fun h4 hC => ?_) (fun h4 hC => ?_)
    · have hp := hp.1 h4
      refine g_iconst mzi_1 (g_goto (tg := 21) rfl ms_482_21 ?_)
      refine g_weak ?_ (g_cl (cg_482_21 hd hS hR true v1 v2 v3 N hr hp hC))
      exact ⟨rfl, rfl, rfl, rfl, trivial⟩
    · have hp := hp.2 h4
      refine g_weak ?_ (g_cl (cg_482_20 hd hS hR v1 v2 v3 N hr hp hC))
      exact ⟨rfl, rfl, rfl, rfl, trivial⟩
  · have hp := hp.2 h2
    refine g_weak ?_ (g_cl (cg_482_20 hd hS hR v1 v2 v3 N hr hp hC))
    exact ⟨rfl, rfl, rfl, rfl, trivial⟩
theorem cs_482 (hd : 3 ≤ d) (hS : mz_extR S 342) (hR : mz_rok R 342)  (v1 : Int32) (v2 : Int32) (v3 : Int32) (N : mz_N) (hp : cp_482_0 v1 v2 v3 N) (hq : Q (.inl (some (.int ((cf_482_0 v1 v2 v3 N).1)))) (mz_k S R ((cf_482_0 v1 v2 v3 N).2) b t)) : mz_Ed (mz_X0 L xs) d 482 [.ref 232, .int v1, .int v2, .int v3] (mz_k S R N b t) Q :=
  by
  refine g_in mzq_482 (Nat.le_of_ble_eq_true rfl) (Nat.le_of_ble_eq_true rfl) (Nat.le_trans (Nat.le_of_ble_eq_true rfl) hd) ?_
  refine g_weak ?_ (cg_482_0 (d := d - 1) (by omega) hS hR v1 v2 v3 N (C0 := fun z => Q (.inl (some (.int z.1))) (mz_k S R z.2 b t)) (fun _ _ h => h) hp hq)
  exact ⟨rfl, rfl, rfl, rfl, trivial⟩
/-! 484 KeptHouseModel.closed ()Z -/
theorem ms_484_0 : mz_sf mk_484 0 = mk_484 := mz_sf_zero _
theorem ms_484_12 : mz_sf mk_484 12 = mt_484_12 := mz_sf_add ms_484_0 (t := 12) rfl rfl
theorem ms_484_13 : mz_sf mk_484 13 = mt_484_13 := mz_sf_add ms_484_12 (t := 1) rfl rfl
set_option maxRecDepth 100000 in
theorem mzq_484 : mz_PG0 484 = some (12, ⟨"KeptHouseModel", "closed", "()Z"⟩, prog_14_method_5_code, 1, some .boolean, [], mk_484, []) := rfl
theorem cg_484_13 (hd : 0 ≤ d) (hS : mz_extR S 342) (hR : mz_rok R 342)  (s1 : Bool) (N : mz_N) {C0 : (Bool × mz_N) → Prop} (hr : ∀ (w : Bool) (N2 : mz_N), C0 (w, N2) → Q (.inl (some (.int (mz_b01 w)))) (mz_k S R N2 b t)) (hp : cp_484_13 s1 N) (hC : C0 (cf_484_13 s1 N)) : mz_G (d, mz_X0 L xs, some .boolean, [], mk_484, 1, Q) 13 mt_484_13 [(0, .ref 232)] [.int (mz_b01 s1), .ref 232] true (mz_k S R N b t) := by
  unfold cf_484_13 at hC
  unfold cp_484_13 at hp
  refine g_putI (mz_at hS (Nat.le_of_ble_eq_true rfl) mzcS_232) mzcf_12_0 (g_aload_n rfl ?_)
  have h1 := hp
  refine g_getZ (mz_at hS (Nat.le_of_ble_eq_true rfl) mzcS_232) mzcf_12_137 h1 ?_
  exact g_zret (z := (mz_fZ (mz_pI N 232 0 (mz_b01 s1)) 232 137)) rfl (hr _ _ hC)
theorem cg_484_0 (hd : 0 ≤ d) (hS : mz_extR S 342) (hR : mz_rok R 342)  (N : mz_N) {C0 : (Bool × mz_N) → Prop} (hr : ∀ (w : Bool) (N2 : mz_N), C0 (w, N2) → Q (.inl (some (.int (mz_b01 w)))) (mz_k S R N2 b t)) (hp : cp_484_0 N) (hC : C0 (cf_484_0 N)) : mz_G (d, mz_X0 L xs, some .boolean, [], mk_484, 1, Q) 0 mk_484 [(0, .ref 232)] [] true (mz_k S R N b t) := by
  unfold cf_484_0 at hC
  unfold cp_484_0 at hp
  refine g_aload_n rfl (g_aload_n rfl ?_)
  obtain ⟨h1, hp⟩ := hp
  refine g_getZ (mz_at hS (Nat.le_of_ble_eq_true rfl) mzcS_232) mzcf_12_137 h1 ?_
  refine g_zeq (tg := 12) rfl ms_484_12 hC (fun h2 hC => ?_) (fun h2 hC => ?_)
  · have hp := hp.1 h2
    refine g_iconst mzi_1 (g_goto (tg := 13) rfl ms_484_13 ?_)
    refine g_weak ?_ (cg_484_13 hd hS hR true N hr hp hC)
    exact ⟨rfl, trivial⟩
  · have hp := hp.2 h2
    refine g_iconst mzi_0 ?_
    refine g_weak ?_ (cg_484_13 hd hS hR false N hr hp hC)
    exact ⟨rfl, trivial⟩
theorem cs_484 (hd : 1 ≤ d) (hS : mz_extR S 342) (hR : mz_rok R 342)  (N : mz_N) (hp : cp_484_0 N) (hq : Q (.inl (some (.int (mz_b01 ((cf_484_0 N).1))))) (mz_k S R ((cf_484_0 N).2) b t)) : mz_Ed (mz_X0 L xs) d 484 [.ref 232] (mz_k S R N b t) Q :=
  by
  refine g_in mzq_484 (Nat.le_of_ble_eq_true rfl) (Nat.le_of_ble_eq_true rfl) (Nat.le_trans (Nat.le_of_ble_eq_true rfl) hd) ?_
  refine g_weak ?_ (cg_484_0 (d := d - 1) (by omega) hS hR N (C0 := fun z => Q (.inl (some (.int (mz_b01 z.1)))) (mz_k S R z.2 b t)) (fun _ _ h => h) hp hq)
  exact ⟨rfl, trivial⟩
/-! 483 KeptHouseModel.version ()I -/
theorem ms_483_0 : mz_sf mk_483 0 = mk_483 := mz_sf_zero _
theorem ms_483_11 : mz_sf mk_483 11 = mt_483_11 := mz_sf_add ms_483_0 (t := 11) rfl rfl
theorem ms_483_15 : mz_sf mk_483 15 = mt_483_15 := mz_sf_add ms_483_11 (t := 4) rfl rfl
set_option maxRecDepth 100000 in
theorem mzq_483 : mz_PG0 483 = some (12, ⟨"KeptHouseModel", "version", "()I"⟩, prog_14_method_34_code, 1, some .int, [], mk_483, []) := rfl
theorem cg_483_0 (hd : 1 ≤ d) (hS : mz_extR S 342) (hR : mz_rok R 342)  (N : mz_N) {C0 : (Int32 × mz_N) → Prop} (hr : ∀ (w : Int32) (N2 : mz_N), C0 (w, N2) → Q (.inl (some (.int w))) (mz_k S R N2 b t)) (hp : cp_483_0 N) (hC : C0 (cf_483_0 N)) : mz_G (d, mz_X0 L xs, some .int, [], mk_483, 1, Q) 0 mk_483 [(0, .ref 232)] [] true (mz_k S R N b t) := by
  unfold cf_483_0 at hC
  unfold cp_483_0 at hp
  refine g_aload_n rfl ?_
  have h1 := hp
  refine g_v1v (Nat.le_of_ble_eq_true rfl) (mz_at hS (Nat.le_of_ble_eq_true rfl) mzcS_232) (fun _ hq => cs_484 (Nat.le_trans (Nat.le_of_ble_eq_true rfl) hd) (hS.le (Nat.le_of_ble_eq_true rfl)) (hR.le (Nat.le_of_ble_eq_true rfl))  N h1 hq) ?_
  refine g_zeq (tg := 11) rfl ms_483_11 hC (fun h2 hC => ?_) (fun h2 hC => ?_)
  · refine g_iconst mzi_0 (g_goto (tg := 15) rfl ms_483_15 ?_)
    exact g_iret rfl (hr _ _ hC)
  · refine g_aload_n rfl (g_getI (mz_at hS (Nat.le_of_ble_eq_true rfl) mzcS_232) mzcf_12_4 ?_)
    exact g_iret rfl (hr _ _ hC)
theorem cs_483 (hd : 2 ≤ d) (hS : mz_extR S 342) (hR : mz_rok R 342)  (N : mz_N) (hp : cp_483_0 N) (hq : Q (.inl (some (.int ((cf_483_0 N).1)))) (mz_k S R ((cf_483_0 N).2) b t)) : mz_Ed (mz_X0 L xs) d 483 [.ref 232] (mz_k S R N b t) Q :=
  by
  refine g_in mzq_483 (Nat.le_of_ble_eq_true rfl) (Nat.le_of_ble_eq_true rfl) (Nat.le_trans (Nat.le_of_ble_eq_true rfl) hd) ?_
  refine g_weak ?_ (cg_483_0 (d := d - 1) (by omega) hS hR N (C0 := fun z => Q (.inl (some (.int z.1))) (mz_k S R z.2 b t)) (fun _ _ h => h) hp hq)
  exact ⟨rfl, trivial⟩
/-! 485 KeptHouseModel.spaces ()I -/
theorem ms_485_0 : mz_sf mk_485 0 = mk_485 := mz_sf_zero _
theorem ms_485_11 : mz_sf mk_485 11 = mt_485_11 := mz_sf_add ms_485_0 (t := 11) rfl rfl
theorem ms_485_15 : mz_sf mk_485 15 = mt_485_15 := mz_sf_add ms_485_11 (t := 4) rfl rfl
set_option maxRecDepth 100000 in
theorem mzq_485 : mz_PG0 485 = some (12, ⟨"KeptHouseModel", "spaces", "()I"⟩, prog_14_method_35_code, 1, some .int, [], mk_485, []) := rfl
theorem cg_485_0 (hd : 1 ≤ d) (hS : mz_extR S 342) (hR : mz_rok R 342)  (N : mz_N) {C0 : (Int32 × mz_N) → Prop} (hr : ∀ (w : Int32) (N2 : mz_N), C0 (w, N2) → Q (.inl (some (.int w))) (mz_k S R N2 b t)) (hp : cp_485_0 N) (hC : C0 (cf_485_0 N)) : mz_G (d, mz_X0 L xs, some .int, [], mk_485, 1, Q) 0 mk_485 [(0, .ref 232)] [] true (mz_k S R N b t) := by
  unfold cf_485_0 at hC
  unfold cp_485_0 at hp
  refine g_aload_n rfl ?_
  have h1 := hp
  refine g_v1v (Nat.le_of_ble_eq_true rfl) (mz_at hS (Nat.le_of_ble_eq_true rfl) mzcS_232) (fun _ hq => cs_484 (Nat.le_trans (Nat.le_of_ble_eq_true rfl) hd) (hS.le (Nat.le_of_ble_eq_true rfl)) (hR.le (Nat.le_of_ble_eq_true rfl))  N h1 hq) ?_
  refine g_zeq (tg := 11) rfl ms_485_11 hC (fun h2 hC => ?_) (fun h2 hC => ?_)
  · refine g_iconst mzi_0 (g_goto (tg := 15) rfl ms_485_15 ?_)
    exact g_iret rfl (hr _ _ hC)
  · refine g_aload_n rfl (g_getI (mz_at hS (Nat.le_of_ble_eq_true rfl) mzcS_232) mzcf_12_7 ?_)
    exact g_iret rfl (hr _ _ hC)
theorem cs_485 (hd : 2 ≤ d) (hS : mz_extR S 342) (hR : mz_rok R 342)  (N : mz_N) (hp : cp_485_0 N) (hq : Q (.inl (some (.int ((cf_485_0 N).1)))) (mz_k S R ((cf_485_0 N).2) b t)) : mz_Ed (mz_X0 L xs) d 485 [.ref 232] (mz_k S R N b t) Q :=
  by
  refine g_in mzq_485 (Nat.le_of_ble_eq_true rfl) (Nat.le_of_ble_eq_true rfl) (Nat.le_trans (Nat.le_of_ble_eq_true rfl) hd) ?_
  refine g_weak ?_ (cg_485_0 (d := d - 1) (by omega) hS hR N (C0 := fun z => Q (.inl (some (.int z.1))) (mz_k S R z.2 b t)) (fun _ _ h => h) hp hq)
  exact ⟨rfl, trivial⟩
end Fn25
