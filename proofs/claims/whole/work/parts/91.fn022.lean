/-! THE FUNCTIONS: written by program: each method comes to its function. -/
section Fn22
variable {L : Nat} {xs : Nat → Int32} {d : Nat} {S : mz_S} {R : Nat → Nat → Option Nat} {Q : mz_Q} {N : mz_N} {b : Bool} {t : Nat}
/-! 428 KeptHouseModel.findSpaces (I)V -/
theorem ms_428_0 : mz_sf mk_428 0 = mk_428 := mz_sf_zero _
theorem ms_428_7 : mz_sf mk_428 7 = mt_428_7 := mz_sf_add ms_428_0 (t := 7) rfl rfl
theorem ms_428_27 : mz_sf mk_428 27 = mt_428_27 := mz_sf_add ms_428_7 (t := 20) rfl rfl
theorem ms_428_29 : mz_sf mk_428 29 = mt_428_29 := mz_sf_add ms_428_27 (t := 2) rfl rfl
theorem ms_428_55 : mz_sf mk_428 55 = mt_428_55 := mz_sf_add ms_428_29 (t := 26) rfl rfl
theorem ms_428_84 : mz_sf mk_428 84 = mt_428_84 := mz_sf_add ms_428_55 (t := 29) rfl rfl
theorem ms_428_90 : mz_sf mk_428 90 = mt_428_90 := mz_sf_add ms_428_84 (t := 6) rfl rfl
set_option maxRecDepth 100000 in
theorem mzq_428 : mz_PG0 428 = some (12, ⟨"KeptHouseModel", "findSpaces", "(I)V"⟩, prog_14_method_12_code, 3, none, [], mk_428, []) := rfl
theorem cg_428_84 (hd : 3 ≤ d) (hS : mz_extR S 342) (hR : mz_rok R 342)  (v1 : Int32) (v2 : Int32) (N : mz_N) {C0 : (mz_N) → Prop} (hr : ∀ (N2 : mz_N), C0 N2 → Q (.inl none) (mz_k S R N2 b t)) {C1 : ((Int32 × mz_N) ⊕ (mz_N)) → Prop} (hc1 : ∀ s2, C1 (.inl s2) → mz_G (d, mz_X0 L xs, none, [], mk_428, 3, Q) 29 mt_428_29 [(0, .ref 232), (1, .int v1), (2, .int s2.1)] [] false (mz_k S R s2.2 b t)) (hx1 : ∀ z, C1 (.inr z) → C0 z) (hp : cp_428_84 v1 v2 N) (hC : C1 (cf_428_84 v1 v2 N)) : mz_G (d, mz_X0 L xs, none, [], mk_428, 3, Q) 84 mt_428_84 [(0, .ref 232), (1, .int v1), (2, .int v2)] [] false (mz_k S R N b t) := by
  unfold cf_428_84 at hC
  unfold cp_428_84 at hp
  refine g_iinc rfl mzi_1 (Nat.le_of_ble_eq_true rfl) rfl (g_goto (tg := 29) rfl ms_428_29 ?_)
  refine g_weak ?_ (g_cl (hc1 ((v2 + 1), N) hC))
  exact ⟨rfl, rfl, rfl, trivial⟩
theorem cb_428_29 (hd : 3 ≤ d) (hS : mz_extR S 342) (hR : mz_rok R 342)  (v1 : Int32) (s : Int32 × mz_N) {C0 : (mz_N) → Prop} (hr : ∀ (N2 : mz_N), C0 N2 → Q (.inl none) (mz_k S R N2 b t)) {C1 : ((Int32 × mz_N) ⊕ (mz_N)) → Prop} (hc1 : ∀ s2, C1 (.inl s2) → mz_G (d, mz_X0 L xs, none, [], mk_428, 3, Q) 29 mt_428_29 [(0, .ref 232), (1, .int v1), (2, .int s2.1)] [] false (mz_k S R s2.2 b t)) (hx1 : ∀ z, C1 (.inr z) → C0 z) (hp : cd_428_29 v1 s) (hC : C1 (cq_428_29 v1 s)) : mz_G (d, mz_X0 L xs, none, [], mk_428, 3, Q) 29 mt_428_29 [(0, .ref 232), (1, .int v1), (2, .int s.1)] [] false (mz_k S R s.2 b t) := by
  unfold cq_428_29 at hC
  unfold cd_428_29 at hp
  refine g_iload_n rfl (g_sipush mzs_240 ?_)
  refine g_icge (tg := 90) rfl ms_428_90 hC (fun h1 hC => ?_) (fun h1 hC => ?_)
  · have hp := hp.1 h1
    refine g_aload_n rfl (g_getR (mz_at hS (Nat.le_of_ble_eq_true rfl) mzcS_232) mzcf_12_6 (mz_rb hR (Nat.le_of_ble_eq_true rfl) rfl mzcR_232_6) (g_iload_n rfl ?_))
    obtain ⟨h2, hp⟩ := hp
    refine g_iald hS.1 (mz_at hS (Nat.le_of_ble_eq_true rfl) mzcS_235) h2 ?_
    refine g_ifge (tg := 84) rfl ms_428_84 hC (fun h3 hC => ?_) (fun h3 hC => ?_)
    · have hp := hp.1 h3
      refine g_aload_n rfl (g_getR (mz_at hS (Nat.le_of_ble_eq_true rfl) mzcS_232) mzcf_12_8 (mz_rb hR (Nat.le_of_ble_eq_true rfl) rfl mzcR_232_8) (g_aload_n rfl (g_getI (mz_at hS (Nat.le_of_ble_eq_true rfl) mzcS_232) mzcf_12_7 (g_iload_n rfl ?_))))
      obtain ⟨h4, hp⟩ := hp
      refine g_iast (mz_at hS (Nat.le_of_ble_eq_true rfl) mzcS_236) h4 (g_aload_n rfl (g_getR (mz_at hS (Nat.le_of_ble_eq_true rfl) mzcS_232) mzcf_12_9 (mz_rb hR (Nat.le_of_ble_eq_true rfl) rfl mzcR_232_9) (g_aload_n rfl (g_getI (mz_at hS (Nat.le_of_ble_eq_true rfl) mzcS_232) mzcf_12_7 (g_aload_n rfl (g_iload_n rfl (g_iload_n rfl ?_)))))))
      refine g_aload_n rfl (g_getI (mz_at hS (Nat.le_of_ble_eq_true rfl) mzcS_232) mzcf_12_7 ?_)
      obtain ⟨h5, hp⟩ := hp
      refine g_v4v (Nat.le_of_ble_eq_true rfl) (mz_at hS (Nat.le_of_ble_eq_true rfl) mzcS_232) (fun _ hq => cs_429 (Nat.le_trans (Nat.le_of_ble_eq_true rfl) hd) (hS.le (Nat.le_of_ble_eq_true rfl)) (hR.le (Nat.le_of_ble_eq_true rfl))  v1 s.1 ((mz_wI s.2 236 (s.2.1 232 7) s.1).1 232 7) (mz_wI s.2 236 (s.2.1 232 7) s.1) h5 hq) ?_
      obtain ⟨h6, hp⟩ := hp
      refine g_iast (mz_at hS (Nat.le_of_ble_eq_true rfl) mzcS_237) h6 (g_aload_n rfl (g_dup rfl (g_getI (mz_at hS (Nat.le_of_ble_eq_true rfl) mzcS_232) mzcf_12_7 (g_iconst mzi_1 (g_iadd (g_putI (mz_at hS (Nat.le_of_ble_eq_true rfl) mzcS_232) mzcf_12_7 ?_))))))
      refine g_weak ?_ (g_cl (cg_428_84 hd hS hR v1 s.1 (mz_pI (mz_wI ((cf_429_0 v1 s.1 ((mz_wI s.2 236 (s.2.1 232 7) s.1).1 232 7) (mz_wI s.2 236 (s.2.1 232 7) s.1)).2) 237 ((mz_wI s.2 236 (s.2.1 232 7) s.1).1 232 7) ((cf_429_0 v1 s.1 ((mz_wI s.2 236 (s.2.1 232 7) s.1).1 232 7) (mz_wI s.2 236 (s.2.1 232 7) s.1)).1)) 232 7 (((mz_wI ((cf_429_0 v1 s.1 ((mz_wI s.2 236 (s.2.1 232 7) s.1).1 232 7) (mz_wI s.2 236 (s.2.1 232 7) s.1)).2) 237 ((mz_wI s.2 236 (s.2.1 232 7) s.1).1 232 7) ((cf_429_0 v1 s.1 ((mz_wI s.2 236 (s.2.1 232 7) s.1).1 232 7) (mz_wI s.2 236 (s.2.1 232 7) s.1)).1)).1 232 7) + 1)) hr hc1 hx1 hp hC))
      exact ⟨rfl, rfl, rfl, trivial⟩
    · have hp := hp.2 h3
      refine g_weak ?_ (g_cl (cg_428_84 hd hS hR v1 s.1 s.2 hr hc1 hx1 hp hC))
      exact ⟨rfl, rfl, rfl, trivial⟩
  · have hp := hp.2 h1
    exact g_vret rfl (hr _ (hx1 _ hC))
theorem cg_428_29 (hd : 3 ≤ d) (hS : mz_extR S 342) (hR : mz_rok R 342)  (v1 : Int32) (v2 : Int32) (N : mz_N) {C0 : (mz_N) → Prop} (hr : ∀ (N2 : mz_N), C0 N2 → Q (.inl none) (mz_k S R N2 b t)) (hp : cp_428_29 v1 v2 N) (hC : C0 (cf_428_29 v1 v2 N)) : mz_G (d, mz_X0 L xs, none, [], mk_428, 3, Q) 29 mt_428_29 [(0, .ref 232), (1, .int v1), (2, .int v2)] [] false (mz_k S R N b t) := by
  obtain ⟨n, hn⟩ := hp
  exact g_loop (G := fun s => mz_G (d, mz_X0 L xs, none, [], mk_428, 3, Q) 29 mt_428_29 [(0, .ref 232), (1, .int v1), (2, .int s.1)] [] false (mz_k S R s.2 b t)) (C := C0) (fun C2 hc hx s hP hC => cb_428_29 hd hS hR v1 s hr hc hx hP hC) n (v2, N) hn hC
theorem cb_428_7 (hd : 3 ≤ d) (hS : mz_extR S 342) (hR : mz_rok R 342)  (v1 : Int32) (s : Int32 × mz_N) {C0 : (mz_N) → Prop} (hr : ∀ (N2 : mz_N), C0 N2 → Q (.inl none) (mz_k S R N2 b t)) {C1 : ((Int32 × mz_N) ⊕ (mz_N)) → Prop} (hc1 : ∀ s2, C1 (.inl s2) → mz_G (d, mz_X0 L xs, none, [], mk_428, 3, Q) 7 mt_428_7 [(0, .ref 232), (1, .int v1), (2, .int s2.1)] [] false (mz_k S R s2.2 b t)) (hx1 : ∀ z, C1 (.inr z) → C0 z) (hp : cd_428_7 v1 s) (hC : C1 (cq_428_7 v1 s)) : mz_G (d, mz_X0 L xs, none, [], mk_428, 3, Q) 7 mt_428_7 [(0, .ref 232), (1, .int v1), (2, .int s.1)] [] false (mz_k S R s.2 b t) := by
  unfold cq_428_7 at hC
  unfold cd_428_7 at hp
  refine g_iload_n rfl (g_sipush mzs_240 ?_)
  refine g_icge (tg := 27) rfl ms_428_27 hC (fun h1 hC => ?_) (fun h1 hC => ?_)
  · have hp := hp.1 h1
    refine g_aload_n rfl (g_getR (mz_at hS (Nat.le_of_ble_eq_true rfl) mzcS_232) mzcf_12_6 (mz_rb hR (Nat.le_of_ble_eq_true rfl) rfl mzcR_232_6) (g_iload_n rfl (g_iconst mzi_m1 ?_)))
    have h2 := hp
    refine g_iast (mz_at hS (Nat.le_of_ble_eq_true rfl) mzcS_235) h2 (g_iinc rfl mzi_1 (Nat.le_of_ble_eq_true rfl) rfl (g_goto (tg := 7) rfl ms_428_7 ?_))
    have hg := hc1 ((s.1 + 1), mz_wI s.2 235 s.1 (-1)) hC
    try dsimp only at hg
    refine g_weak ?_ (g_cl hg)
    exact ⟨rfl, rfl, rfl, trivial⟩
  · have hp := hp.2 h1
    refine g_iconst mzi_0 (g_istore_n (Nat.le_of_ble_eq_true rfl) rfl ?_)
    refine g_weak ?_ (g_cl (cg_428_29 hd hS hR v1 0 s.2 hr hp (hx1 _ hC)))
    exact ⟨rfl, rfl, rfl, trivial⟩
theorem cg_428_7 (hd : 3 ≤ d) (hS : mz_extR S 342) (hR : mz_rok R 342)  (v1 : Int32) (v2 : Int32) (N : mz_N) {C0 : (mz_N) → Prop} (hr : ∀ (N2 : mz_N), C0 N2 → Q (.inl none) (mz_k S R N2 b t)) (hp : cp_428_7 v1 v2 N) (hC : C0 (cf_428_7 v1 v2 N)) : mz_G (d, mz_X0 L xs, none, [], mk_428, 3, Q) 7 mt_428_7 [(0, .ref 232), (1, .int v1), (2, .int v2)] [] false (mz_k S R N b t) := by
  obtain ⟨n, hn⟩ := hp
  exact g_loop (G := fun s => mz_G (d, mz_X0 L xs, none, [], mk_428, 3, Q) 7 mt_428_7 [(0, .ref 232), (1, .int v1), (2, .int s.1)] [] false (mz_k S R s.2 b t)) (C := C0) (fun C2 hc hx s hP hC => cb_428_7 hd hS hR v1 s hr hc hx hP hC) n (v2, N) hn hC
theorem cg_428_0 (hd : 3 ≤ d) (hS : mz_extR S 342) (hR : mz_rok R 342)  (v1 : Int32) (N : mz_N) {C0 : (mz_N) → Prop} (hr : ∀ (N2 : mz_N), C0 N2 → Q (.inl none) (mz_k S R N2 b t)) (hp : cp_428_0 v1 N) (hC : C0 (cf_428_0 v1 N)) : mz_G (d, mz_X0 L xs, none, [], mk_428, 3, Q) 0 mk_428 [(0, .ref 232), (1, .int v1)] [] true (mz_k S R N b t) := by
  unfold cf_428_0 at hC
  unfold cp_428_0 at hp
  refine g_aload_n rfl (g_iconst mzi_0 (g_putI (mz_at hS (Nat.le_of_ble_eq_true rfl) mzcS_232) mzcf_12_7 (g_iconst mzi_0 (g_istore_n (Nat.le_of_ble_eq_true rfl) rfl ?_))))
  refine g_weak ?_ (g_cl (cg_428_7 hd hS hR v1 0 (mz_pI N 232 7 0) hr hp hC))
  exact ⟨rfl, rfl, rfl, trivial⟩
theorem cs_428 (hd : 4 ≤ d) (hS : mz_extR S 342) (hR : mz_rok R 342)  (v1 : Int32) (N : mz_N) (hp : cp_428_0 v1 N) (hq : Q (.inl none) (mz_k S R (cf_428_0 v1 N) b t)) : mz_Ed (mz_X0 L xs) d 428 [.ref 232, .int v1] (mz_k S R N b t) Q :=
  by
  refine g_in mzq_428 (Nat.le_of_ble_eq_true rfl) (Nat.le_of_ble_eq_true rfl) (Nat.le_trans (Nat.le_of_ble_eq_true rfl) hd) ?_
  refine g_weak ?_ (cg_428_0 (d := d - 1) (by omega) hS hR v1 N (C0 := fun z => Q (.inl none) (mz_k S R z b t)) (fun _ h => h) hp hq)
  exact ⟨rfl, rfl, trivial⟩
/-! 434 KeptHouseModel.near (III)V -/
theorem ms_434_0 : mz_sf mk_434 0 = mk_434 := mz_sf_zero _
theorem ms_434_24 : mz_sf mk_434 24 = mt_434_24 := mz_sf_add ms_434_0 (t := 24) rfl rfl
theorem ms_434_43 : mz_sf mk_434 43 = mt_434_43 := mz_sf_add ms_434_24 (t := 19) rfl rfl
set_option maxRecDepth 100000 in
theorem mzq_434 : mz_PG0 434 = some (12, ⟨"KeptHouseModel", "near", "(III)V"⟩, prog_14_method_15_code, 4, none, [], mk_434, []) := rfl
theorem cg_434_43 (hd : 0 ≤ d) (hS : mz_extR S 342) (hR : mz_rok R 342)  (N : mz_N) {C0 : (mz_N) → Prop} (hr : ∀ (N2 : mz_N), C0 N2 → Q (.inl none) (mz_k S R N2 b t)) (hp : cp_434_43 N) (hC : C0 (cf_434_43 N)) : mz_G (d, mz_X0 L xs, none, [], mk_434, 4, Q) 43 mt_434_43 [] [] false (mz_k S R N b t) := by
  unfold cf_434_43 at hC
  unfold cp_434_43 at hp
  exact g_vret rfl (hr _ hC)
theorem cg_434_24 (hd : 0 ≤ d) (hS : mz_extR S 342) (hR : mz_rok R 342)  (v1 : Int32) (v2 : Int32) (v3 : Int32) (N : mz_N) {C0 : (mz_N) → Prop} (hr : ∀ (N2 : mz_N), C0 N2 → Q (.inl none) (mz_k S R N2 b t)) (hp : cp_434_24 v1 v2 v3 N) (hC : C0 (cf_434_24 v1 v2 v3 N)) : mz_G (d, mz_X0 L xs, none, [], mk_434, 4, Q) 24 mt_434_24 [(0, .ref 232), (1, .int v1), (2, .int v2), (3, .int v3)] [] false (mz_k S R N b t) := by
  unfold cf_434_24 at hC
  unfold cp_434_24 at hp
  refine g_aload_n rfl (g_getR (mz_at hS (Nat.le_of_ble_eq_true rfl) mzcS_232) mzcf_12_11 (mz_rb hR (Nat.le_of_ble_eq_true rfl) rfl mzcR_232_11) (g_iconst mzi_4 (g_bipush mzb_40 (g_iload_n rfl (g_imul (g_iload_n rfl (g_iadd ?_)))))))
  refine g_imul (g_iload_n rfl (g_iadd (g_dup2 rfl rfl ?_)))
  obtain ⟨h1, hp⟩ := hp
  refine g_iald hS.1 (mz_at hS (Nat.le_of_ble_eq_true rfl) mzcS_239) h1 (g_iconst mzi_1 (g_iadd ?_))
  obtain ⟨h2, hp⟩ := hp
  refine g_iast (mz_at hS (Nat.le_of_ble_eq_true rfl) mzcS_239) h2 ?_
  refine g_weak ?_ (g_cl (cg_434_43 hd hS hR (mz_wI N 239 ((4 * ((40 * v2) + v1)) + v3) ((mz_gI N 239 ((4 * ((40 * v2) + v1)) + v3)) + 1)) hr hp hC))
  exact trivial
theorem cg_434_0 (hd : 0 ≤ d) (hS : mz_extR S 342) (hR : mz_rok R 342)  (v1 : Int32) (v2 : Int32) (v3 : Int32) (N : mz_N) {C0 : (mz_N) → Prop} (hr : ∀ (N2 : mz_N), C0 N2 → Q (.inl none) (mz_k S R N2 b t)) (hp : cp_434_0 v1 v2 v3 N) (hC : C0 (cf_434_0 v1 v2 v3 N)) : mz_G (d, mz_X0 L xs, none, [], mk_434, 4, Q) 0 mk_434 [(0, .ref 232), (1, .int v1), (2, .int v2), (3, .int v3)] [] true (mz_k S R N b t) := by
  unfold cf_434_0 at hC
  unfold cp_434_0 at hp
  refine g_iload_n rfl (g_iload_n rfl ?_)
  refine g_iceq (tg := 43) rfl ms_434_43 hC (fun h1 hC => ?_) (fun h1 hC => ?_)
  · have hp := hp.1 h1
    exact g_vret rfl (hr _ hC)
  · have hp := hp.2 h1
    refine g_aload_n rfl (g_getR (mz_at hS (Nat.le_of_ble_eq_true rfl) mzcS_232) mzcf_12_11 (mz_rb hR (Nat.le_of_ble_eq_true rfl) rfl mzcR_232_11) (g_iconst mzi_4 (g_bipush mzb_40 (g_iload_n rfl (g_imul (g_iload_n rfl (g_iadd ?_)))))))
    refine g_imul (g_iload_n rfl (g_iadd (g_dup2 rfl rfl ?_)))
    obtain ⟨h2, hp⟩ := hp
    refine g_iald hS.1 (mz_at hS (Nat.le_of_ble_eq_true rfl) mzcS_239) h2 (g_iconst mzi_1 (g_iadd ?_))
    obtain ⟨h3, hp⟩ := hp
    refine g_iast (mz_at hS (Nat.le_of_ble_eq_true rfl) mzcS_239) h3 ?_
    refine g_weak ?_ (g_cl (cg_434_24 hd hS hR v1 v2 v3 (mz_wI N 239 ((4 * ((40 * v1) + v2)) + v3) ((mz_gI N 239 ((4 * ((40 * v1) + v2)) + v3)) + 1)) hr hp hC))
    exact ⟨rfl, rfl, rfl, rfl, trivial⟩
theorem cs_434 (hd : 1 ≤ d) (hS : mz_extR S 342) (hR : mz_rok R 342)  (v1 : Int32) (v2 : Int32) (v3 : Int32) (N : mz_N) (hp : cp_434_0 v1 v2 v3 N) (hq : Q (.inl none) (mz_k S R (cf_434_0 v1 v2 v3 N) b t)) : mz_Ed (mz_X0 L xs) d 434 [.ref 232, .int v1, .int v2, .int v3] (mz_k S R N b t) Q :=
  by
  refine g_in mzq_434 (Nat.le_of_ble_eq_true rfl) (Nat.le_of_ble_eq_true rfl) (Nat.le_trans (Nat.le_of_ble_eq_true rfl) hd) ?_
  refine g_weak ?_ (cg_434_0 (d := d - 1) (by omega) hS hR v1 v2 v3 N (C0 := fun z => Q (.inl none) (mz_k S R z b t)) (fun _ h => h) hp hq)
  exact ⟨rfl, rfl, rfl, rfl, trivial⟩
/-! 436 KeptHouseModel.flatOfSpace (I)I -/
theorem ms_436_0 : mz_sf mk_436 0 = mk_436 := mz_sf_zero _
set_option maxRecDepth 100000 in
theorem mzq_436 : mz_PG0 436 = some (12, ⟨"KeptHouseModel", "flatOfSpace", "(I)I"⟩, prog_14_method_16_code, 2, some .int, [], mk_436, []) := rfl
theorem cg_436_0 (hd : 0 ≤ d) (hS : mz_extR S 342) (hR : mz_rok R 342)  (v1 : Int32) (N : mz_N) {C0 : (Int32) → Prop} (hr : ∀ (w : Int32), C0 w → Q (.inl (some (.int w))) (mz_k S R N b t)) (hp : cp_436_0 v1 N) (hC : C0 (cf_436_0 v1 N)) : mz_G (d, mz_X0 L xs, some .int, [], mk_436, 2, Q) 0 mk_436 [(0, .ref 232), (1, .int v1)] [] true (mz_k S R N b t) := by
  unfold cf_436_0 at hC
  unfold cp_436_0 at hp
  refine g_aload_n rfl (g_getR (mz_at hS (Nat.le_of_ble_eq_true rfl) mzcS_232) mzcf_12_5 (mz_rb hR (Nat.le_of_ble_eq_true rfl) rfl mzcR_232_5) (g_aload_n rfl (g_getR (mz_at hS (Nat.le_of_ble_eq_true rfl) mzcS_232) mzcf_12_8 (mz_rb hR (Nat.le_of_ble_eq_true rfl) rfl mzcR_232_8) (g_iload_n rfl ?_))))
  obtain ⟨h1, hp⟩ := hp
  refine g_iald hS.1 (mz_at hS (Nat.le_of_ble_eq_true rfl) mzcS_236) h1 ?_
  have h2 := hp
  refine g_iald hS.1 (mz_at hS (Nat.le_of_ble_eq_true rfl) mzcS_234) h2 ?_
  exact g_iret rfl (hr _ hC)
theorem cs_436 (hd : 1 ≤ d) (hS : mz_extR S 342) (hR : mz_rok R 342)  (v1 : Int32) (N : mz_N) (hp : cp_436_0 v1 N) (hq : Q (.inl (some (.int (cf_436_0 v1 N)))) (mz_k S R N b t)) : mz_Ed (mz_X0 L xs) d 436 [.ref 232, .int v1] (mz_k S R N b t) Q :=
  by
  refine g_in mzq_436 (Nat.le_of_ble_eq_true rfl) (Nat.le_of_ble_eq_true rfl) (Nat.le_trans (Nat.le_of_ble_eq_true rfl) hd) ?_
  refine g_weak ?_ (cg_436_0 (d := d - 1) (by omega) hS hR v1 N (C0 := fun z => Q (.inl (some (.int z))) (mz_k S R N b t)) (fun _ h => h) hp hq)
  exact ⟨rfl, rfl, trivial⟩
/-! 435 KeptHouseModel.layFlats ()V -/
theorem ms_435_0 : mz_sf mk_435 0 = mk_435 := mz_sf_zero _
theorem ms_435_2 : mz_sf mk_435 2 = mt_435_2 := mz_sf_add ms_435_0 (t := 2) rfl rfl
theorem ms_435_22 : mz_sf mk_435 22 = mt_435_22 := mz_sf_add ms_435_2 (t := 20) rfl rfl
theorem ms_435_28 : mz_sf mk_435 28 = mt_435_28 := mz_sf_add ms_435_22 (t := 6) rfl rfl
theorem ms_435_35 : mz_sf mk_435 35 = mt_435_35 := mz_sf_add ms_435_28 (t := 7) rfl rfl
theorem ms_435_58 : mz_sf mk_435 58 = mt_435_58 := mz_sf_add ms_435_35 (t := 23) rfl rfl
theorem ms_435_73 : mz_sf mk_435 73 = mt_435_73 := mz_sf_add ms_435_58 (t := 15) rfl rfl
theorem ms_435_79 : mz_sf mk_435 79 = mt_435_79 := mz_sf_add ms_435_73 (t := 6) rfl rfl
set_option maxRecDepth 100000 in
theorem mzq_435 : mz_PG0 435 = some (12, ⟨"KeptHouseModel", "layFlats", "()V"⟩, prog_14_method_17_code, 3, none, [], mk_435, []) := rfl
set_option maxRecDepth 20000 in
theorem cg_435_73 (hd : 1 ≤ d) (hS : mz_extR S 342) (hR : mz_rok R 342)  (v1 : Int32) (N : mz_N) {C0 : (mz_N) → Prop} (hr : ∀ (N2 : mz_N), C0 N2 → Q (.inl none) (mz_k S R N2 b t)) {C1 : ((Int32 × mz_N) ⊕ (mz_N)) → Prop} (hc1 : ∀ s2, C1 (.inl s2) → mz_G (d, mz_X0 L xs, none, [], mk_435, 3, Q) 35 mt_435_35 [(0, .ref 232), (1, .int s2.1)] [] false (mz_k S R s2.2 b t)) (hx1 : ∀ z, C1 (.inr z) → C0 z) (hp : cp_435_73 v1 N) (hC : C1 (cf_435_73 v1 N)) : mz_G (d, mz_X0 L xs, none, [], mk_435, 3, Q) 73 mt_435_73 [(0, .ref 232), (1, .int v1)] [] false (mz_k S R N b t) := by
  unfold cf_435_73 at hC
  unfold cp_435_73 at hp
  refine g_iinc rfl mzi_m1 (Nat.le_of_ble_eq_true rfl) rfl (g_goto (tg := 35) rfl ms_435_35 ?_)
  have hg := hc1 ((v1 + (-1)), N) hC
  try dsimp only at hg
  refine g_weak ?_ (g_cl hg)
  exact ⟨rfl, rfl, trivial⟩
theorem cb_435_35 (hd : 1 ≤ d) (hS : mz_extR S 342) (hR : mz_rok R 342)   (s : Int32 × mz_N) {C0 : (mz_N) → Prop} (hr : ∀ (N2 : mz_N), C0 N2 → Q (.inl none) (mz_k S R N2 b t)) {C1 : ((Int32 × mz_N) ⊕ (mz_N)) → Prop} (hc1 : ∀ s2, C1 (.inl s2) → mz_G (d, mz_X0 L xs, none, [], mk_435, 3, Q) 35 mt_435_35 [(0, .ref 232), (1, .int s2.1)] [] false (mz_k S R s2.2 b t)) (hx1 : ∀ z, C1 (.inr z) → C0 z) (hp : cd_435_35  s) (hC : C1 (cq_435_35  s)) : mz_G (d, mz_X0 L xs, none, [], mk_435, 3, Q) 35 mt_435_35 [(0, .ref 232), (1, .int s.1)] [] false (mz_k S R s.2 b t) := by
  unfold cq_435_35 at hC
  unfold cd_435_35 at hp
  refine g_iload_n rfl ?_
  refine g_iflt (tg := 79) rfl ms_435_79 hC (fun h1 hC => ?_) (fun h1 hC => ?_)
  · have hp := hp.1 h1
    exact g_vret rfl (hr _ (hx1 _ hC))
  · have hp := hp.2 h1
    refine g_aload_n rfl (g_iload_n rfl ?_)
    obtain ⟨h2, hp⟩ := hp
    refine g_v2v (Nat.le_of_ble_eq_true rfl) (mz_at hS (Nat.le_of_ble_eq_true rfl) mzcS_232) (fun _ hq => cs_436 (Nat.le_trans (Nat.le_of_ble_eq_true rfl) hd) (hS.le (Nat.le_of_ble_eq_true rfl)) (hR.le (Nat.le_of_ble_eq_true rfl))  s.1 s.2 h2 hq) (g_istore_n (Nat.le_of_ble_eq_true rfl) rfl (g_iload_n rfl (g_bipush mzb_10 ?_)))
    refine g_icge (tg := 73) rfl ms_435_73 hC (fun h3 hC => ?_) (fun h3 hC => ?_)
    · have hp := hp.1 h3
      refine g_aload_n rfl (g_getR (mz_at hS (Nat.le_of_ble_eq_true rfl) mzcS_232) mzcf_12_14 (mz_rb hR (Nat.le_of_ble_eq_true rfl) rfl mzcR_232_14) (g_iload_n rfl (g_iload_n rfl ?_)))
      obtain ⟨h4, hp⟩ := hp
      refine g_iast (mz_at hS (Nat.le_of_ble_eq_true rfl) mzcS_242) h4 (g_aload_n rfl (g_getR (mz_at hS (Nat.le_of_ble_eq_true rfl) mzcS_232) mzcf_12_15 (mz_rb hR (Nat.le_of_ble_eq_true rfl) rfl mzcR_232_15) (g_iload_n rfl (g_dup2 rfl rfl ?_))))
      obtain ⟨h5, hp⟩ := hp
      refine g_iald hS.1 (mz_at hS (Nat.le_of_ble_eq_true rfl) mzcS_243) h5 (g_aload_n rfl (g_getR (mz_at hS (Nat.le_of_ble_eq_true rfl) mzcS_232) mzcf_12_9 (mz_rb hR (Nat.le_of_ble_eq_true rfl) rfl mzcR_232_9) (g_iload_n rfl ?_)))
      obtain ⟨h6, hp⟩ := hp
      refine g_iald hS.1 (mz_at hS (Nat.le_of_ble_eq_true rfl) mzcS_237) h6 (g_iadd ?_)
      obtain ⟨h7, hp⟩ := hp
      refine g_iast (mz_at hS (Nat.le_of_ble_eq_true rfl) mzcS_243) h7 ?_
      refine g_weak ?_ (g_cl (cg_435_73 hd hS hR s.1 (mz_wI (mz_wI s.2 242 (cf_436_0 s.1 s.2) s.1) 243 (cf_436_0 s.1 s.2) ((mz_gI (mz_wI s.2 242 (cf_436_0 s.1 s.2) s.1) 243 (cf_436_0 s.1 s.2)) + (mz_gI (mz_wI s.2 242 (cf_436_0 s.1 s.2) s.1) 237 s.1))) hr hc1 hx1 hp hC))
      exact ⟨rfl, rfl, trivial⟩
    · have hp := hp.2 h3
      refine g_weak ?_ (g_cl (cg_435_73 hd hS hR s.1 s.2 hr hc1 hx1 hp hC))
      exact ⟨rfl, rfl, trivial⟩
theorem cg_435_35 (hd : 1 ≤ d) (hS : mz_extR S 342) (hR : mz_rok R 342)  (v1 : Int32) (N : mz_N) {C0 : (mz_N) → Prop} (hr : ∀ (N2 : mz_N), C0 N2 → Q (.inl none) (mz_k S R N2 b t)) (hp : cp_435_35 v1 N) (hC : C0 (cf_435_35 v1 N)) : mz_G (d, mz_X0 L xs, none, [], mk_435, 3, Q) 35 mt_435_35 [(0, .ref 232), (1, .int v1)] [] false (mz_k S R N b t) := by
  obtain ⟨n, hn⟩ := hp
  exact g_loop (G := fun s => mz_G (d, mz_X0 L xs, none, [], mk_435, 3, Q) 35 mt_435_35 [(0, .ref 232), (1, .int s.1)] [] false (mz_k S R s.2 b t)) (C := C0) (fun C2 hc hx s hP hC => cb_435_35 hd hS hR  s hr hc hx hP hC) n (v1, N) hn hC
theorem cb_435_2 (hd : 1 ≤ d) (hS : mz_extR S 342) (hR : mz_rok R 342)   (s : Int32 × mz_N) {C0 : (mz_N) → Prop} (hr : ∀ (N2 : mz_N), C0 N2 → Q (.inl none) (mz_k S R N2 b t)) {C1 : ((Int32 × mz_N) ⊕ (mz_N)) → Prop} (hc1 : ∀ s2, C1 (.inl s2) → mz_G (d, mz_X0 L xs, none, [], mk_435, 3, Q) 2 mt_435_2 [(0, .ref 232), (1, .int s2.1)] [] false (mz_k S R s2.2 b t)) (hx1 : ∀ z, C1 (.inr z) → C0 z) (hp : cd_435_2  s) (hC : C1 (cq_435_2  s)) : mz_G (d, mz_X0 L xs, none, [], mk_435, 3, Q) 2 mt_435_2 [(0, .ref 232), (1, .int s.1)] [] false (mz_k S R s.2 b t) := by
  unfold cq_435_2 at hC
  unfold cd_435_2 at hp
  refine g_iload_n rfl (g_bipush mzb_10 ?_)
  refine g_icge (tg := 28) rfl ms_435_28 hC (fun h1 hC => ?_) (fun h1 hC => ?_)
  · have hp := hp.1 h1
    refine g_aload_n rfl (g_getR (mz_at hS (Nat.le_of_ble_eq_true rfl) mzcS_232) mzcf_12_14 (mz_rb hR (Nat.le_of_ble_eq_true rfl) rfl mzcR_232_14) (g_iload_n rfl (g_iconst mzi_m1 ?_)))
    obtain ⟨h2, hp⟩ := hp
    refine g_iast (mz_at hS (Nat.le_of_ble_eq_true rfl) mzcS_242) h2 (g_aload_n rfl (g_getR (mz_at hS (Nat.le_of_ble_eq_true rfl) mzcS_232) mzcf_12_15 (mz_rb hR (Nat.le_of_ble_eq_true rfl) rfl mzcR_232_15) (g_iload_n rfl (g_iconst mzi_0 ?_))))
    have h3 := hp
    refine g_iast (mz_at hS (Nat.le_of_ble_eq_true rfl) mzcS_243) h3 (g_iinc rfl mzi_1 (Nat.le_of_ble_eq_true rfl) rfl (g_goto (tg := 2) rfl ms_435_2 ?_))
    have hg := hc1 ((s.1 + 1), mz_wI (mz_wI s.2 242 s.1 (-1)) 243 s.1 0) hC
    try dsimp only at hg
    refine g_weak ?_ (g_cl hg)
    exact ⟨rfl, rfl, trivial⟩
  · have hp := hp.2 h1
    refine g_aload_n rfl (g_getI (mz_at hS (Nat.le_of_ble_eq_true rfl) mzcS_232) mzcf_12_7 (g_iconst mzi_1 (g_isub (g_istore_n (Nat.le_of_ble_eq_true rfl) rfl ?_))))
    refine g_weak ?_ (g_cl (cg_435_35 hd hS hR ((s.2.1 232 7) - 1) s.2 hr hp (hx1 _ hC)))
    exact ⟨rfl, rfl, trivial⟩
theorem cg_435_2 (hd : 1 ≤ d) (hS : mz_extR S 342) (hR : mz_rok R 342)  (v1 : Int32) (N : mz_N) {C0 : (mz_N) → Prop} (hr : ∀ (N2 : mz_N), C0 N2 → Q (.inl none) (mz_k S R N2 b t)) (hp : cp_435_2 v1 N) (hC : C0 (cf_435_2 v1 N)) : mz_G (d, mz_X0 L xs, none, [], mk_435, 3, Q) 2 mt_435_2 [(0, .ref 232), (1, .int v1)] [] false (mz_k S R N b t) := by
  obtain ⟨n, hn⟩ := hp
  exact g_loop (G := fun s => mz_G (d, mz_X0 L xs, none, [], mk_435, 3, Q) 2 mt_435_2 [(0, .ref 232), (1, .int s.1)] [] false (mz_k S R s.2 b t)) (C := C0) (fun C2 hc hx s hP hC => cb_435_2 hd hS hR  s hr hc hx hP hC) n (v1, N) hn hC
theorem cg_435_0 (hd : 1 ≤ d) (hS : mz_extR S 342) (hR : mz_rok R 342)  (N : mz_N) {C0 : (mz_N) → Prop} (hr : ∀ (N2 : mz_N), C0 N2 → Q (.inl none) (mz_k S R N2 b t)) (hp : cp_435_0 N) (hC : C0 (cf_435_0 N)) : mz_G (d, mz_X0 L xs, none, [], mk_435, 3, Q) 0 mk_435 [(0, .ref 232)] [] true (mz_k S R N b t) := by
  unfold cf_435_0 at hC
  unfold cp_435_0 at hp
  refine g_iconst mzi_0 (g_istore_n (Nat.le_of_ble_eq_true rfl) rfl ?_)
  refine g_weak ?_ (g_cl (cg_435_2 hd hS hR 0 N hr hp hC))
  exact ⟨rfl, rfl, trivial⟩
theorem cs_435 (hd : 2 ≤ d) (hS : mz_extR S 342) (hR : mz_rok R 342)  (N : mz_N) (hp : cp_435_0 N) (hq : Q (.inl none) (mz_k S R (cf_435_0 N) b t)) : mz_Ed (mz_X0 L xs) d 435 [.ref 232] (mz_k S R N b t) Q :=
  by
  refine g_in mzq_435 (Nat.le_of_ble_eq_true rfl) (Nat.le_of_ble_eq_true rfl) (Nat.le_trans (Nat.le_of_ble_eq_true rfl) hd) ?_
  refine g_weak ?_ (cg_435_0 (d := d - 1) (by omega) hS hR N (C0 := fun z => Q (.inl none) (mz_k S R z b t)) (fun _ h => h) hp hq)
  exact ⟨rfl, trivial⟩
/-! 427 KeptHouseModel.lay ()V -/
theorem ms_427_0 : mz_sf mk_427 0 = mk_427 := mz_sf_zero _
theorem ms_427_7 : mz_sf mk_427 7 = mt_427_7 := mz_sf_add ms_427_0 (t := 7) rfl rfl
theorem ms_427_27 : mz_sf mk_427 27 = mt_427_27 := mz_sf_add ms_427_7 (t := 20) rfl rfl
theorem ms_427_29 : mz_sf mk_427 29 = mt_427_29 := mz_sf_add ms_427_27 (t := 2) rfl rfl
theorem ms_427_51 : mz_sf mk_427 51 = mt_427_51 := mz_sf_add ms_427_29 (t := 22) rfl rfl
theorem ms_427_57 : mz_sf mk_427 57 = mt_427_57 := mz_sf_add ms_427_51 (t := 6) rfl rfl
theorem ms_427_59 : mz_sf mk_427 59 = mt_427_59 := mz_sf_add ms_427_57 (t := 2) rfl rfl
theorem ms_427_78 : mz_sf mk_427 78 = mt_427_78 := mz_sf_add ms_427_59 (t := 19) rfl rfl
theorem ms_427_101 : mz_sf mk_427 101 = mt_427_101 := mz_sf_add ms_427_78 (t := 23) rfl rfl
theorem ms_427_106 : mz_sf mk_427 106 = mt_427_106 := mz_sf_add ms_427_101 (t := 5) rfl rfl
theorem ms_427_124 : mz_sf mk_427 124 = mt_427_124 := mz_sf_add ms_427_106 (t := 18) rfl rfl
theorem ms_427_126 : mz_sf mk_427 126 = mt_427_126 := mz_sf_add ms_427_124 (t := 2) rfl rfl
theorem ms_427_147 : mz_sf mk_427 147 = mt_427_147 := mz_sf_add ms_427_126 (t := 21) rfl rfl
theorem ms_427_148 : mz_sf mk_427 148 = mt_427_148 := mz_sf_add ms_427_147 (t := 1) rfl rfl
theorem ms_427_167 : mz_sf mk_427 167 = mt_427_167 := mz_sf_add ms_427_148 (t := 19) rfl rfl
theorem ms_427_168 : mz_sf mk_427 168 = mt_427_168 := mz_sf_add ms_427_167 (t := 1) rfl rfl
theorem ms_427_173 : mz_sf mk_427 173 = mt_427_173 := mz_sf_add ms_427_168 (t := 5) rfl rfl
theorem ms_427_206 : mz_sf mk_427 206 = mt_427_206 := mz_sf_add ms_427_173 (t := 33) rfl rfl
theorem ms_427_212 : mz_sf mk_427 212 = mt_427_212 := mz_sf_add ms_427_206 (t := 6) rfl rfl
theorem ms_427_214 : mz_sf mk_427 214 = mt_427_214 := mz_sf_add ms_427_212 (t := 2) rfl rfl
theorem ms_427_241 : mz_sf mk_427 241 = mt_427_241 := mz_sf_add ms_427_214 (t := 27) rfl rfl
theorem ms_427_247 : mz_sf mk_427 247 = mt_427_247 := mz_sf_add ms_427_241 (t := 6) rfl rfl
set_option maxRecDepth 100000 in
theorem mzq_427 : mz_PG0 427 = some (12, ⟨"KeptHouseModel", "lay", "()V"⟩, prog_14_method_14_code, 7, none, [], mk_427, []) := rfl
theorem cg_427_206 (hd : 4 ≤ d) (hS : mz_extR S 342) (hR : mz_rok R 342)  (v1 : Int32) (N : mz_N) {C0 : (mz_N) → Prop} (hr : ∀ (N2 : mz_N), C0 N2 → Q (.inl none) (mz_k S R N2 b t)) {C1 : ((Int32 × mz_N) ⊕ (mz_N)) → Prop} (hc1 : ∀ s2, C1 (.inl s2) → mz_G (d, mz_X0 L xs, none, [], mk_427, 7, Q) 59 mt_427_59 [(0, .ref 232), (1, .int s2.1)] [] false (mz_k S R s2.2 b t)) (hx1 : ∀ z, C1 (.inr z) → C0 z) (hp : cp_427_206 v1 N) (hC : C1 (cf_427_206 v1 N)) : mz_G (d, mz_X0 L xs, none, [], mk_427, 7, Q) 206 mt_427_206 [(0, .ref 232), (1, .int v1)] [] false (mz_k S R N b t) := by
  unfold cf_427_206 at hC
  unfold cp_427_206 at hp
  refine g_iinc rfl mzi_1 (Nat.le_of_ble_eq_true rfl) rfl (g_goto (tg := 59) rfl ms_427_59 ?_)
  refine g_weak ?_ (g_cl (hc1 ((v1 + 1), N) hC))
  exact ⟨rfl, rfl, trivial⟩
theorem cg_427_168 (hd : 4 ≤ d) (hS : mz_extR S 342) (hR : mz_rok R 342)  (s1 : Int32) (s2 : Int32) (s3 : Bool) (v1 : Int32) (N : mz_N) {C0 : (mz_N) → Prop} (hr : ∀ (N2 : mz_N), C0 N2 → Q (.inl none) (mz_k S R N2 b t)) {C1 : ((Int32 × mz_N) ⊕ (mz_N)) → Prop} (hc1 : ∀ s2, C1 (.inl s2) → mz_G (d, mz_X0 L xs, none, [], mk_427, 7, Q) 59 mt_427_59 [(0, .ref 232), (1, .int s2.1)] [] false (mz_k S R s2.2 b t)) (hx1 : ∀ z, C1 (.inr z) → C0 z) (hp : cp_427_168 s1 s2 s3 v1 N) (hC : C1 (cf_427_168 s1 s2 s3 v1 N)) : mz_G (d, mz_X0 L xs, none, [], mk_427, 7, Q) 168 mt_427_168 [(0, .ref 232), (1, .int v1)] [.int (mz_b01 s3), .int s2, .int s1, .ref 241] false (mz_k S R N b t) := by
  unfold cf_427_168 at hC
  unfold cp_427_168 at hp
  refine g_iadd ?_
  obtain ⟨h1, hp⟩ := hp
  refine g_iast (mz_at hS (Nat.le_of_ble_eq_true rfl) mzcS_241) h1 (g_goto (tg := 206) rfl ms_427_206 ?_)
  refine g_weak ?_ (g_cl (cg_427_206 hd hS hR v1 (mz_wI N 241 s1 (s2 + (mz_b01 s3))) hr hc1 hx1 hp hC))
  exact ⟨rfl, rfl, trivial⟩
theorem cg_427_148 (hd : 4 ≤ d) (hS : mz_extR S 342) (hR : mz_rok R 342)  (s1 : Int32) (s2 : Int32) (s3 : Bool) (v1 : Int32) (v3 : Int32) (v6 : Int32) (N : mz_N) {C0 : (mz_N) → Prop} (hr : ∀ (N2 : mz_N), C0 N2 → Q (.inl none) (mz_k S R N2 b t)) {C1 : ((Int32 × mz_N) ⊕ (mz_N)) → Prop} (hc1 : ∀ s2, C1 (.inl s2) → mz_G (d, mz_X0 L xs, none, [], mk_427, 7, Q) 59 mt_427_59 [(0, .ref 232), (1, .int s2.1)] [] false (mz_k S R s2.2 b t)) (hx1 : ∀ z, C1 (.inr z) → C0 z) (hp : cp_427_148 s1 s2 s3 v1 v3 v6 N) (hC : C1 (cf_427_148 s1 s2 s3 v1 v3 v6 N)) : mz_G (d, mz_X0 L xs, none, [], mk_427, 7, Q) 148 mt_427_148 [(0, .ref 232), (1, .int v1), (3, .int v3), (6, .int v6)] [.int (mz_b01 s3), .int s2, .int s1, .ref 240] false (mz_k S R N b t) := by
  unfold cf_427_148 at hC
  unfold cp_427_148 at hp
  refine g_iadd ?_
  obtain ⟨h1, hp⟩ := hp
  refine g_iast (mz_at hS (Nat.le_of_ble_eq_true rfl) mzcS_240) h1 (g_aload_n rfl (g_getR (mz_at hS (Nat.le_of_ble_eq_true rfl) mzcS_232) mzcf_12_13 (mz_rb hR (Nat.le_of_ble_eq_true rfl) rfl mzcR_232_13) (g_iload rfl (g_dup2 rfl rfl ?_))))
  obtain ⟨h2, hp⟩ := hp
  refine g_iald hS.1 (mz_at hS (Nat.le_of_ble_eq_true rfl) mzcS_241) h2 (g_iload_n rfl (g_iconst mzi_3 ?_))
  refine g_icne (tg := 167) rfl ms_427_167 hC (fun h3 hC => ?_) (fun h3 hC => ?_)
  · have hp := hp.1 h3
    refine g_iconst mzi_1 (g_goto (tg := 168) rfl ms_427_168 ?_)
    refine g_weak ?_ (g_cl (cg_427_168 hd hS hR v6 (mz_gI (mz_wI N 240 s1 (s2 + (mz_b01 s3))) 241 v6) true v1 (mz_wI N 240 s1 (s2 + (mz_b01 s3))) hr hc1 hx1 hp hC))
    exact ⟨rfl, rfl, trivial⟩
  · have hp := hp.2 h3
    refine g_iconst mzi_0 ?_
    refine g_weak ?_ (g_cl (cg_427_168 hd hS hR v6 (mz_gI (mz_wI N 240 s1 (s2 + (mz_b01 s3))) 241 v6) false v1 (mz_wI N 240 s1 (s2 + (mz_b01 s3))) hr hc1 hx1 hp hC))
    exact ⟨rfl, rfl, trivial⟩
theorem cg_427_126 (hd : 4 ≤ d) (hS : mz_extR S 342) (hR : mz_rok R 342)  (s1 : Int32) (s2 : Int32) (v1 : Int32) (v3 : Int32) (N : mz_N) {C0 : (mz_N) → Prop} (hr : ∀ (N2 : mz_N), C0 N2 → Q (.inl none) (mz_k S R N2 b t)) {C1 : ((Int32 × mz_N) ⊕ (mz_N)) → Prop} (hc1 : ∀ s2, C1 (.inl s2) → mz_G (d, mz_X0 L xs, none, [], mk_427, 7, Q) 59 mt_427_59 [(0, .ref 232), (1, .int s2.1)] [] false (mz_k S R s2.2 b t)) (hx1 : ∀ z, C1 (.inr z) → C0 z) (hp : cp_427_126 s1 s2 v1 v3 N) (hC : C1 (cf_427_126 s1 s2 v1 v3 N)) : mz_G (d, mz_X0 L xs, none, [], mk_427, 7, Q) 126 mt_427_126 [(0, .ref 232), (1, .int v1), (3, .int v3)] [.int s2, .int s1, .ref 235] false (mz_k S R N b t) := by
  unfold cf_427_126 at hC
  unfold cp_427_126 at hp
  refine g_iadd ?_
  obtain ⟨h1, hp⟩ := hp
  refine g_iald hS.1 (mz_at hS (Nat.le_of_ble_eq_true rfl) mzcS_235) h1 (g_istore (Nat.le_of_ble_eq_true rfl) rfl (g_aload_n rfl (g_getR (mz_at hS (Nat.le_of_ble_eq_true rfl) mzcS_232) mzcf_12_12 (mz_rb hR (Nat.le_of_ble_eq_true rfl) rfl mzcR_232_12) (g_iload rfl (g_dup2 rfl rfl ?_)))))
  obtain ⟨h2, hp⟩ := hp
  refine g_iald hS.1 (mz_at hS (Nat.le_of_ble_eq_true rfl) mzcS_240) h2 (g_iload_n rfl (g_iconst mzi_2 ?_))
  refine g_icne (tg := 147) rfl ms_427_147 hC (fun h3 hC => ?_) (fun h3 hC => ?_)
  · have hp := hp.1 h3
    refine g_iconst mzi_1 (g_goto (tg := 148) rfl ms_427_148 ?_)
    refine g_weak ?_ (g_cl (cg_427_148 hd hS hR (mz_gI N 235 (s1 + s2)) (mz_gI N 240 (mz_gI N 235 (s1 + s2))) true v1 v3 (mz_gI N 235 (s1 + s2)) N hr hc1 hx1 hp hC))
    exact ⟨rfl, rfl, rfl, rfl, trivial⟩
  · have hp := hp.2 h3
    refine g_iconst mzi_0 ?_
    refine g_weak ?_ (g_cl (cg_427_148 hd hS hR (mz_gI N 235 (s1 + s2)) (mz_gI N 240 (mz_gI N 235 (s1 + s2))) false v1 v3 (mz_gI N 235 (s1 + s2)) N hr hc1 hx1 hp hC))
    exact ⟨rfl, rfl, rfl, rfl, trivial⟩
theorem cg_427_106 (hd : 4 ≤ d) (hS : mz_extR S 342) (hR : mz_rok R 342)  (v1 : Int32) (v2 : Int32) (v3 : Int32) (v4 : Int32) (v5 : Int32) (N : mz_N) {C0 : (mz_N) → Prop} (hr : ∀ (N2 : mz_N), C0 N2 → Q (.inl none) (mz_k S R N2 b t)) {C1 : ((Int32 × mz_N) ⊕ (mz_N)) → Prop} (hc1 : ∀ s2, C1 (.inl s2) → mz_G (d, mz_X0 L xs, none, [], mk_427, 7, Q) 59 mt_427_59 [(0, .ref 232), (1, .int s2.1)] [] false (mz_k S R s2.2 b t)) (hx1 : ∀ z, C1 (.inr z) → C0 z) (hp : cp_427_106 v1 v2 v3 v4 v5 N) (hC : C1 (cf_427_106 v1 v2 v3 v4 v5 N)) : mz_G (d, mz_X0 L xs, none, [], mk_427, 7, Q) 106 mt_427_106 [(0, .ref 232), (1, .int v1), (2, .int v2), (3, .int v3), (4, .int v4), (5, .int v5)] [] false (mz_k S R N b t) := by
  unfold cf_427_106 at hC
  unfold cp_427_106 at hp
  refine g_aload_n rfl (g_getR (mz_at hS (Nat.le_of_ble_eq_true rfl) mzcS_232) mzcf_12_6 (mz_rb hR (Nat.le_of_ble_eq_true rfl) rfl mzcR_232_6) (g_bipush mzb_48 (g_iload_n rfl (g_imul (g_iload rfl ?_)))))
  refine g_ifge (tg := 124) rfl ms_427_124 hC (fun h1 hC => ?_) (fun h1 hC => ?_)
  · have hp := hp.1 h1
    refine g_iload rfl (g_goto (tg := 126) rfl ms_427_126 ?_)
    refine g_weak ?_ (g_cl (cg_427_126 hd hS hR (48 * v2) v5 v1 v3 N hr hc1 hx1 hp hC))
    exact ⟨rfl, rfl, rfl, trivial⟩
  · have hp := hp.2 h1
    refine g_iload rfl ?_
    refine g_weak ?_ (g_cl (cg_427_126 hd hS hR (48 * v2) v4 v1 v3 N hr hc1 hx1 hp hC))
    exact ⟨rfl, rfl, rfl, trivial⟩
theorem cb_427_214 (hd : 4 ≤ d) (hS : mz_extR S 342) (hR : mz_rok R 342)   (s : Int32 × mz_N) {C0 : (mz_N) → Prop} (hr : ∀ (N2 : mz_N), C0 N2 → Q (.inl none) (mz_k S R N2 b t)) {C1 : ((Int32 × mz_N) ⊕ (mz_N)) → Prop} (hc1 : ∀ s2, C1 (.inl s2) → mz_G (d, mz_X0 L xs, none, [], mk_427, 7, Q) 214 mt_427_214 [(0, .ref 232), (1, .int s2.1)] [] false (mz_k S R s2.2 b t)) (hx1 : ∀ z, C1 (.inr z) → C0 z) (hp : cd_427_214  s) (hC : C1 (cq_427_214  s)) : mz_G (d, mz_X0 L xs, none, [], mk_427, 7, Q) 214 mt_427_214 [(0, .ref 232), (1, .int s.1)] [] false (mz_k S R s.2 b t) := by
  unfold cq_427_214 at hC
  unfold cd_427_214 at hp
  refine g_iload_n rfl (g_sipush mzs_192 ?_)
  refine g_icge (tg := 247) rfl ms_427_247 hC (fun h1 hC => ?_) (fun h1 hC => ?_)
  · have hp := hp.1 h1
    refine g_aload_n rfl (g_aload_n rfl (g_getR (mz_at hS (Nat.le_of_ble_eq_true rfl) mzcS_232) mzcf_12_6 (mz_rb hR (Nat.le_of_ble_eq_true rfl) rfl mzcR_232_6) (g_iload_n rfl ?_)))
    obtain ⟨h2, hp⟩ := hp
    refine g_iald hS.1 (mz_at hS (Nat.le_of_ble_eq_true rfl) mzcS_235) h2 (g_aload_n rfl (g_getR (mz_at hS (Nat.le_of_ble_eq_true rfl) mzcS_232) mzcf_12_6 (mz_rb hR (Nat.le_of_ble_eq_true rfl) rfl mzcR_232_6) (g_iload_n rfl (g_bipush mzb_48 (g_iadd ?_)))))
    obtain ⟨h3, hp⟩ := hp
    refine g_iald hS.1 (mz_at hS (Nat.le_of_ble_eq_true rfl) mzcS_235) h3 (g_iconst mzi_0 ?_)
    have h4 := hp
    refine g_v4n (Nat.le_of_ble_eq_true rfl) (mz_at hS (Nat.le_of_ble_eq_true rfl) mzcS_232) (fun _ hq => cs_434 (Nat.le_trans (Nat.le_of_ble_eq_true rfl) hd) (hS.le (Nat.le_of_ble_eq_true rfl)) (hR.le (Nat.le_of_ble_eq_true rfl))  (mz_gI s.2 235 s.1) (mz_gI s.2 235 (s.1 + 48)) 0 s.2 h4 hq) (g_iinc rfl mzi_1 (Nat.le_of_ble_eq_true rfl) rfl (g_goto (tg := 214) rfl ms_427_214 ?_))
    refine g_weak ?_ (g_cl (hc1 ((s.1 + 1), (cf_434_0 (mz_gI s.2 235 s.1) (mz_gI s.2 235 (s.1 + 48)) 0 s.2)) hC))
    exact ⟨rfl, rfl, trivial⟩
  · have hp := hp.2 h1
    refine g_aload_n rfl ?_
    have h5 := hp
    refine g_v1n (Nat.le_of_ble_eq_true rfl) (mz_at hS (Nat.le_of_ble_eq_true rfl) mzcS_232) (fun _ hq => cs_435 (Nat.le_trans (Nat.le_of_ble_eq_true rfl) hd) (hS.le (Nat.le_of_ble_eq_true rfl)) (hR.le (Nat.le_of_ble_eq_true rfl))  s.2 h5 hq) ?_
    exact g_vret rfl (hr _ (hx1 _ hC))
theorem cg_427_214 (hd : 4 ≤ d) (hS : mz_extR S 342) (hR : mz_rok R 342)  (v1 : Int32) (N : mz_N) {C0 : (mz_N) → Prop} (hr : ∀ (N2 : mz_N), C0 N2 → Q (.inl none) (mz_k S R N2 b t)) (hp : cp_427_214 v1 N) (hC : C0 (cf_427_214 v1 N)) : mz_G (d, mz_X0 L xs, none, [], mk_427, 7, Q) 214 mt_427_214 [(0, .ref 232), (1, .int v1)] [] false (mz_k S R N b t) := by
  obtain ⟨n, hn⟩ := hp
  exact g_loop (G := fun s => mz_G (d, mz_X0 L xs, none, [], mk_427, 7, Q) 214 mt_427_214 [(0, .ref 232), (1, .int s.1)] [] false (mz_k S R s.2 b t)) (C := C0) (fun C2 hc hx s hP hC => cb_427_214 hd hS hR  s hr hc hx hP hC) n (v1, N) hn hC
theorem cb_427_59 (hd : 4 ≤ d) (hS : mz_extR S 342) (hR : mz_rok R 342)   (s : Int32 × mz_N) {C0 : (mz_N) → Prop} (hr : ∀ (N2 : mz_N), C0 N2 → Q (.inl none) (mz_k S R N2 b t)) {C1 : ((Int32 × mz_N) ⊕ (mz_N)) → Prop} (hc1 : ∀ s2, C1 (.inl s2) → mz_G (d, mz_X0 L xs, none, [], mk_427, 7, Q) 59 mt_427_59 [(0, .ref 232), (1, .int s2.1)] [] false (mz_k S R s2.2 b t)) (hx1 : ∀ z, C1 (.inr z) → C0 z) (hp : cd_427_59  s) (hC : C1 (cq_427_59  s)) : mz_G (d, mz_X0 L xs, none, [], mk_427, 7, Q) 59 mt_427_59 [(0, .ref 232), (1, .int s.1)] [] false (mz_k S R s.2 b t) := by
  unfold cq_427_59 at hC
  unfold cd_427_59 at hp
  refine g_iload_n rfl (g_sipush mzs_550 ?_)
  refine g_icge (tg := 212) rfl ms_427_212 hC (fun h1 hC => ?_) (fun h1 hC => ?_)
  · have hp := hp.1 h1
    refine g_iload_n rfl (g_bipush mzb_110 (g_idiv (by decide) (g_istore_n (Nat.le_of_ble_eq_true rfl) rfl (g_aload_n rfl (g_getR (mz_at hS (Nat.le_of_ble_eq_true rfl) mzcS_232) mzcf_12_3 (mz_rb hR (Nat.le_of_ble_eq_true rfl) rfl mzcR_232_3) (g_iload_n rfl ?_))))))
    obtain ⟨h2, hp⟩ := hp
    refine g_iald hS.1 (mz_at hS (Nat.le_of_ble_eq_true rfl) mzcS_233) h2 (g_istore_n (Nat.le_of_ble_eq_true rfl) rfl (g_iload_n rfl (g_bipush mzb_110 (g_irem (by decide) ?_))))
    refine g_s1v (Nat.le_of_ble_eq_true rfl) (fun _ hq => cs_432 (Nat.le_trans (Nat.le_of_ble_eq_true rfl) hd) (hS.le (Nat.le_of_ble_eq_true rfl)) (hR.le (Nat.le_of_ble_eq_true rfl))  (mz_irem s.1 110) trivial hq) (g_istore (Nat.le_of_ble_eq_true rfl) rfl (g_iload_n rfl (g_bipush mzb_110 (g_irem (by decide) ?_))))
    refine g_s1v (Nat.le_of_ble_eq_true rfl) (fun _ hq => cs_433 (Nat.le_trans (Nat.le_of_ble_eq_true rfl) hd) (hS.le (Nat.le_of_ble_eq_true rfl)) (hR.le (Nat.le_of_ble_eq_true rfl))  (mz_irem s.1 110) trivial hq) (g_istore (Nat.le_of_ble_eq_true rfl) rfl (g_iload rfl ?_))
    refine g_iflt (tg := 106) rfl ms_427_106 hC (fun h5 hC => ?_) (fun h5 hC => ?_)
    · have hp := hp.1 h5
      refine g_weak ?_ (g_cl (cg_427_106 hd hS hR s.1 (s.1 / 110) (mz_gI s.2 233 s.1) (cf_432_0 (mz_irem s.1 110)) (cf_433_0 (mz_irem s.1 110)) s.2 hr hc1 hx1 hp hC))
      exact ⟨rfl, rfl, rfl, rfl, rfl, rfl, trivial⟩
    · have hp := hp.2 h5
      refine g_iload rfl ?_
      refine g_ifge (tg := 173) rfl ms_427_173 hC (fun h6 hC => ?_) (fun h6 hC => ?_)
      · have hp := hp.1 h6
        refine g_weak ?_ (g_cl (cg_427_106 hd hS hR s.1 (s.1 / 110) (mz_gI s.2 233 s.1) (cf_432_0 (mz_irem s.1 110)) (cf_433_0 (mz_irem s.1 110)) s.2 hr hc1 hx1 hp hC))
        exact ⟨rfl, rfl, rfl, rfl, rfl, rfl, trivial⟩
      · have hp := hp.2 h6
        refine g_iload_n rfl ?_
        refine g_ifle (tg := 206) rfl ms_427_206 hC (fun h7 hC => ?_) (fun h7 hC => ?_)
        · have hp := hp.1 h7
          refine g_aload_n rfl (g_aload_n rfl (g_getR (mz_at hS (Nat.le_of_ble_eq_true rfl) mzcS_232) mzcf_12_6 (mz_rb hR (Nat.le_of_ble_eq_true rfl) rfl mzcR_232_6) (g_bipush mzb_48 (g_iload_n rfl (g_imul (g_iload rfl (g_iadd ?_)))))))
          obtain ⟨h8, hp⟩ := hp
          refine g_iald hS.1 (mz_at hS (Nat.le_of_ble_eq_true rfl) mzcS_235) h8 (g_aload_n rfl (g_getR (mz_at hS (Nat.le_of_ble_eq_true rfl) mzcS_232) mzcf_12_6 (mz_rb hR (Nat.le_of_ble_eq_true rfl) rfl mzcR_232_6) (g_bipush mzb_48 (g_iload_n rfl (g_imul (g_iload rfl (g_iadd ?_)))))))
          obtain ⟨h9, hp⟩ := hp
          refine g_iald hS.1 (mz_at hS (Nat.le_of_ble_eq_true rfl) mzcS_235) h9 (g_iload_n rfl ?_)
          obtain ⟨h10, hp⟩ := hp
          refine g_v4n (Nat.le_of_ble_eq_true rfl) (mz_at hS (Nat.le_of_ble_eq_true rfl) mzcS_232) (fun _ hq => cs_434 (Nat.le_trans (Nat.le_of_ble_eq_true rfl) hd) (hS.le (Nat.le_of_ble_eq_true rfl)) (hR.le (Nat.le_of_ble_eq_true rfl))  (mz_gI s.2 235 ((48 * (s.1 / 110)) + (cf_432_0 (mz_irem s.1 110)))) (mz_gI s.2 235 ((48 * (s.1 / 110)) + (cf_433_0 (mz_irem s.1 110)))) (mz_gI s.2 233 s.1) s.2 h10 hq) ?_
          refine g_weak ?_ (g_cl (cg_427_206 hd hS hR s.1 (cf_434_0 (mz_gI s.2 235 ((48 * (s.1 / 110)) + (cf_432_0 (mz_irem s.1 110)))) (mz_gI s.2 235 ((48 * (s.1 / 110)) + (cf_433_0 (mz_irem s.1 110)))) (mz_gI s.2 233 s.1) s.2) hr hc1 hx1 hp hC))
          exact ⟨rfl, rfl, trivial⟩
        · have hp := hp.2 h7
          refine g_weak ?_ (g_cl (cg_427_206 hd hS hR s.1 s.2 hr hc1 hx1 hp hC))
          exact ⟨rfl, rfl, trivial⟩
  · have hp := hp.2 h1
    refine g_iconst mzi_0 (g_istore_n (Nat.le_of_ble_eq_true rfl) rfl ?_)
    refine g_weak ?_ (g_cl (cg_427_214 hd hS hR 0 s.2 hr hp (hx1 _ hC)))
    exact ⟨rfl, rfl, trivial⟩
theorem cg_427_59 (hd : 4 ≤ d) (hS : mz_extR S 342) (hR : mz_rok R 342)  (v1 : Int32) (N : mz_N) {C0 : (mz_N) → Prop} (hr : ∀ (N2 : mz_N), C0 N2 → Q (.inl none) (mz_k S R N2 b t)) (hp : cp_427_59 v1 N) (hC : C0 (cf_427_59 v1 N)) : mz_G (d, mz_X0 L xs, none, [], mk_427, 7, Q) 59 mt_427_59 [(0, .ref 232), (1, .int v1)] [] false (mz_k S R N b t) := by
  obtain ⟨n, hn⟩ := hp
  exact g_loop (G := fun s => mz_G (d, mz_X0 L xs, none, [], mk_427, 7, Q) 59 mt_427_59 [(0, .ref 232), (1, .int s.1)] [] false (mz_k S R s.2 b t)) (C := C0) (fun C2 hc hx s hP hC => cb_427_59 hd hS hR  s hr hc hx hP hC) n (v1, N) hn hC
theorem cb_427_29 (hd : 4 ≤ d) (hS : mz_extR S 342) (hR : mz_rok R 342)   (s : Int32 × mz_N) {C0 : (mz_N) → Prop} (hr : ∀ (N2 : mz_N), C0 N2 → Q (.inl none) (mz_k S R N2 b t)) {C1 : ((Int32 × mz_N) ⊕ (mz_N)) → Prop} (hc1 : ∀ s2, C1 (.inl s2) → mz_G (d, mz_X0 L xs, none, [], mk_427, 7, Q) 29 mt_427_29 [(0, .ref 232), (1, .int s2.1)] [] false (mz_k S R s2.2 b t)) (hx1 : ∀ z, C1 (.inr z) → C0 z) (hp : cd_427_29  s) (hC : C1 (cq_427_29  s)) : mz_G (d, mz_X0 L xs, none, [], mk_427, 7, Q) 29 mt_427_29 [(0, .ref 232), (1, .int s.1)] [] false (mz_k S R s.2 b t) := by
  unfold cq_427_29 at hC
  unfold cd_427_29 at hp
  refine g_iload_n rfl (g_aload_n rfl (g_getI (mz_at hS (Nat.le_of_ble_eq_true rfl) mzcS_232) mzcf_12_7 ?_))
  refine g_icge (tg := 57) rfl ms_427_57 hC (fun h1 hC => ?_) (fun h1 hC => ?_)
  · have hp := hp.1 h1
    refine g_aload_n rfl (g_getR (mz_at hS (Nat.le_of_ble_eq_true rfl) mzcS_232) mzcf_12_12 (mz_rb hR (Nat.le_of_ble_eq_true rfl) rfl mzcR_232_12) (g_iload_n rfl (g_iconst mzi_0 ?_)))
    obtain ⟨h2, hp⟩ := hp
    refine g_iast (mz_at hS (Nat.le_of_ble_eq_true rfl) mzcS_240) h2 (g_aload_n rfl (g_getR (mz_at hS (Nat.le_of_ble_eq_true rfl) mzcS_232) mzcf_12_13 (mz_rb hR (Nat.le_of_ble_eq_true rfl) rfl mzcR_232_13) (g_iload_n rfl (g_iconst mzi_0 ?_))))
    have h3 := hp
    refine g_iast (mz_at hS (Nat.le_of_ble_eq_true rfl) mzcS_241) h3 (g_iinc rfl mzi_1 (Nat.le_of_ble_eq_true rfl) rfl (g_goto (tg := 29) rfl ms_427_29 ?_))
    refine g_weak ?_ (g_cl (hc1 ((s.1 + 1), mz_wI (mz_wI s.2 240 s.1 0) 241 s.1 0) hC))
    exact ⟨rfl, rfl, trivial⟩
  · have hp := hp.2 h1
    refine g_iconst mzi_0 (g_istore_n (Nat.le_of_ble_eq_true rfl) rfl ?_)
    refine g_weak ?_ (g_cl (cg_427_59 hd hS hR 0 s.2 hr hp (hx1 _ hC)))
    exact ⟨rfl, rfl, trivial⟩
theorem cg_427_29 (hd : 4 ≤ d) (hS : mz_extR S 342) (hR : mz_rok R 342)  (v1 : Int32) (N : mz_N) {C0 : (mz_N) → Prop} (hr : ∀ (N2 : mz_N), C0 N2 → Q (.inl none) (mz_k S R N2 b t)) (hp : cp_427_29 v1 N) (hC : C0 (cf_427_29 v1 N)) : mz_G (d, mz_X0 L xs, none, [], mk_427, 7, Q) 29 mt_427_29 [(0, .ref 232), (1, .int v1)] [] false (mz_k S R N b t) := by
  obtain ⟨n, hn⟩ := hp
  exact g_loop (G := fun s => mz_G (d, mz_X0 L xs, none, [], mk_427, 7, Q) 29 mt_427_29 [(0, .ref 232), (1, .int s.1)] [] false (mz_k S R s.2 b t)) (C := C0) (fun C2 hc hx s hP hC => cb_427_29 hd hS hR  s hr hc hx hP hC) n (v1, N) hn hC
theorem cb_427_7 (hd : 4 ≤ d) (hS : mz_extR S 342) (hR : mz_rok R 342)   (s : Int32 × mz_N) {C0 : (mz_N) → Prop} (hr : ∀ (N2 : mz_N), C0 N2 → Q (.inl none) (mz_k S R N2 b t)) {C1 : ((Int32 × mz_N) ⊕ (mz_N)) → Prop} (hc1 : ∀ s2, C1 (.inl s2) → mz_G (d, mz_X0 L xs, none, [], mk_427, 7, Q) 7 mt_427_7 [(0, .ref 232), (1, .int s2.1)] [] false (mz_k S R s2.2 b t)) (hx1 : ∀ z, C1 (.inr z) → C0 z) (hp : cd_427_7  s) (hC : C1 (cq_427_7  s)) : mz_G (d, mz_X0 L xs, none, [], mk_427, 7, Q) 7 mt_427_7 [(0, .ref 232), (1, .int s.1)] [] false (mz_k S R s.2 b t) := by
  unfold cq_427_7 at hC
  unfold cd_427_7 at hp
  refine g_iload_n rfl (g_sipush mzs_6400 ?_)
  refine g_icge (tg := 27) rfl ms_427_27 hC (fun h1 hC => ?_) (fun h1 hC => ?_)
  · have hp := hp.1 h1
    refine g_aload_n rfl (g_getR (mz_at hS (Nat.le_of_ble_eq_true rfl) mzcS_232) mzcf_12_11 (mz_rb hR (Nat.le_of_ble_eq_true rfl) rfl mzcR_232_11) (g_iload_n rfl (g_iconst mzi_0 ?_)))
    have h2 := hp
    refine g_iast (mz_at hS (Nat.le_of_ble_eq_true rfl) mzcS_239) h2 (g_iinc rfl mzi_1 (Nat.le_of_ble_eq_true rfl) rfl (g_goto (tg := 7) rfl ms_427_7 ?_))
    refine g_weak ?_ (g_cl (hc1 ((s.1 + 1), mz_wI s.2 239 s.1 0) hC))
    exact ⟨rfl, rfl, trivial⟩
  · have hp := hp.2 h1
    refine g_iconst mzi_0 (g_istore_n (Nat.le_of_ble_eq_true rfl) rfl ?_)
    refine g_weak ?_ (g_cl (cg_427_29 hd hS hR 0 s.2 hr hp (hx1 _ hC)))
    exact ⟨rfl, rfl, trivial⟩
theorem cg_427_7 (hd : 4 ≤ d) (hS : mz_extR S 342) (hR : mz_rok R 342)  (v1 : Int32) (N : mz_N) {C0 : (mz_N) → Prop} (hr : ∀ (N2 : mz_N), C0 N2 → Q (.inl none) (mz_k S R N2 b t)) (hp : cp_427_7 v1 N) (hC : C0 (cf_427_7 v1 N)) : mz_G (d, mz_X0 L xs, none, [], mk_427, 7, Q) 7 mt_427_7 [(0, .ref 232), (1, .int v1)] [] false (mz_k S R N b t) := by
  obtain ⟨n, hn⟩ := hp
  exact g_loop (G := fun s => mz_G (d, mz_X0 L xs, none, [], mk_427, 7, Q) 7 mt_427_7 [(0, .ref 232), (1, .int s.1)] [] false (mz_k S R s.2 b t)) (C := C0) (fun C2 hc hx s hP hC => cb_427_7 hd hS hR  s hr hc hx hP hC) n (v1, N) hn hC
theorem cg_427_0 (hd : 4 ≤ d) (hS : mz_extR S 342) (hR : mz_rok R 342)  (N : mz_N) {C0 : (mz_N) → Prop} (hr : ∀ (N2 : mz_N), C0 N2 → Q (.inl none) (mz_k S R N2 b t)) (hp : cp_427_0 N) (hC : C0 (cf_427_0 N)) : mz_G (d, mz_X0 L xs, none, [], mk_427, 7, Q) 0 mk_427 [(0, .ref 232)] [] true (mz_k S R N b t) := by
  unfold cf_427_0 at hC
  unfold cp_427_0 at hp
  refine g_aload_n rfl (g_iconst mzi_0 ?_)
  obtain ⟨h1, hp⟩ := hp
  refine g_v2n (Nat.le_of_ble_eq_true rfl) (mz_at hS (Nat.le_of_ble_eq_true rfl) mzcS_232) (fun _ hq => cs_428 (Nat.le_trans (Nat.le_of_ble_eq_true rfl) hd) (hS.le (Nat.le_of_ble_eq_true rfl)) (hR.le (Nat.le_of_ble_eq_true rfl))  0 N h1 hq) (g_iconst mzi_0 (g_istore_n (Nat.le_of_ble_eq_true rfl) rfl ?_))
  refine g_weak ?_ (g_cl (cg_427_7 hd hS hR 0 (cf_428_0 0 N) hr hp hC))
  exact ⟨rfl, rfl, trivial⟩
theorem cs_427 (hd : 5 ≤ d) (hS : mz_extR S 342) (hR : mz_rok R 342)  (N : mz_N) (hp : cp_427_0 N) (hq : Q (.inl none) (mz_k S R (cf_427_0 N) b t)) : mz_Ed (mz_X0 L xs) d 427 [.ref 232] (mz_k S R N b t) Q :=
  by
  refine g_in mzq_427 (Nat.le_of_ble_eq_true rfl) (Nat.le_of_ble_eq_true rfl) (Nat.le_trans (Nat.le_of_ble_eq_true rfl) hd) ?_
  refine g_weak ?_ (cg_427_0 (d := d - 1) (by omega) hS hR N (C0 := fun z => Q (.inl none) (mz_k S R z b t)) (fun _ h => h) hp hq)
  exact ⟨rfl, trivial⟩
/-! 437 KeptHouseModel.firstTargets ()V -/
theorem ms_437_0 : mz_sf mk_437 0 = mk_437 := mz_sf_zero _
theorem ms_437_2 : mz_sf mk_437 2 = mt_437_2 := mz_sf_add ms_437_0 (t := 2) rfl rfl
theorem ms_437_25 : mz_sf mk_437 25 = mt_437_25 := mz_sf_add ms_437_2 (t := 23) rfl rfl
theorem ms_437_35 : mz_sf mk_437 35 = mt_437_35 := mz_sf_add ms_437_25 (t := 10) rfl rfl
theorem ms_437_36 : mz_sf mk_437 36 = mt_437_36 := mz_sf_add ms_437_35 (t := 1) rfl rfl
theorem ms_437_43 : mz_sf mk_437 43 = mt_437_43 := mz_sf_add ms_437_36 (t := 7) rfl rfl
set_option maxRecDepth 100000 in
theorem mzq_437 : mz_PG0 437 = some (12, ⟨"KeptHouseModel", "firstTargets", "()V"⟩, prog_14_method_67_code, 2, none, [], mk_437, []) := rfl
theorem cg_437_36 (hd : 0 ≤ d) (hS : mz_extR S 342) (hR : mz_rok R 342)  (s1 : Int32) (s2 : Int32) (v1 : Int32) (N : mz_N) {C0 : (mz_N) → Prop} (hr : ∀ (N2 : mz_N), C0 N2 → Q (.inl none) (mz_k S R N2 b t)) {C1 : ((Int32 × mz_N) ⊕ (mz_N)) → Prop} (hc1 : ∀ s2, C1 (.inl s2) → mz_G (d, mz_X0 L xs, none, [], mk_437, 2, Q) 2 mt_437_2 [(0, .ref 232), (1, .int s2.1)] [] false (mz_k S R s2.2 b t)) (hx1 : ∀ z, C1 (.inr z) → C0 z) (hp : cp_437_36 s1 s2 v1 N) (hC : C1 (cf_437_36 s1 s2 v1 N)) : mz_G (d, mz_X0 L xs, none, [], mk_437, 2, Q) 36 mt_437_36 [(0, .ref 232), (1, .int v1)] [.int s2, .int s1, .ref 257] false (mz_k S R N b t) := by
  unfold cf_437_36 at hC
  unfold cp_437_36 at hp
  have h1 := hp
  refine g_iast (mz_at hS (Nat.le_of_ble_eq_true rfl) mzcS_257) h1 (g_iinc rfl mzi_1 (Nat.le_of_ble_eq_true rfl) rfl (g_goto (tg := 2) rfl ms_437_2 ?_))
  refine g_weak ?_ (g_cl (hc1 ((v1 + 1), mz_wI N 257 s1 s2) hC))
  exact ⟨rfl, rfl, trivial⟩
theorem cb_437_2 (hd : 0 ≤ d) (hS : mz_extR S 342) (hR : mz_rok R 342)   (s : Int32 × mz_N) {C0 : (mz_N) → Prop} (hr : ∀ (N2 : mz_N), C0 N2 → Q (.inl none) (mz_k S R N2 b t)) {C1 : ((Int32 × mz_N) ⊕ (mz_N)) → Prop} (hc1 : ∀ s2, C1 (.inl s2) → mz_G (d, mz_X0 L xs, none, [], mk_437, 2, Q) 2 mt_437_2 [(0, .ref 232), (1, .int s2.1)] [] false (mz_k S R s2.2 b t)) (hx1 : ∀ z, C1 (.inr z) → C0 z) (hp : cd_437_2  s) (hC : C1 (cq_437_2  s)) : mz_G (d, mz_X0 L xs, none, [], mk_437, 2, Q) 2 mt_437_2 [(0, .ref 232), (1, .int s.1)] [] false (mz_k S R s.2 b t) := by
  unfold cq_437_2 at hC
  unfold cd_437_2 at hp
  refine g_iload_n rfl (g_bipush mzb_16 ?_)
  refine g_icge (tg := 43) rfl ms_437_43 hC (fun h1 hC => ?_) (fun h1 hC => ?_)
  · have hp := hp.1 h1
    refine g_aload_n rfl (g_getR (mz_at hS (Nat.le_of_ble_eq_true rfl) mzcS_232) mzcf_12_37 (mz_rb hR (Nat.le_of_ble_eq_true rfl) rfl mzcR_232_37) (g_iload_n rfl (g_iload_n rfl (g_bipush mzb_10 ?_))))
    refine g_icge (tg := 25) rfl ms_437_25 hC (fun h2 hC => ?_) (fun h2 hC => ?_)
    · have hp := hp.1 h2
      refine g_sipush mzs_200 (g_goto (tg := 36) rfl ms_437_36 ?_)
      refine g_weak ?_ (g_cl (cg_437_36 hd hS hR s.1 200 s.1 s.2 hr hc1 hx1 hp hC))
      exact ⟨rfl, rfl, trivial⟩
    · have hp := hp.2 h2
      refine g_iload_n rfl (g_bipush mzb_14 ?_)
      refine g_icne (tg := 35) rfl ms_437_35 hC (fun h3 hC => ?_) (fun h3 hC => ?_)
      · have hp := hp.1 h3
        refine g_iconst mzi_0 (g_goto (tg := 36) rfl ms_437_36 ?_)
        refine g_weak ?_ (g_cl (cg_437_36 hd hS hR s.1 0 s.1 s.2 hr hc1 hx1 hp hC))
        exact ⟨rfl, rfl, trivial⟩
      · have hp := hp.2 h3
        refine g_iconst mzi_1 ?_
        refine g_weak ?_ (g_cl (cg_437_36 hd hS hR s.1 1 s.1 s.2 hr hc1 hx1 hp hC))
        exact ⟨rfl, rfl, trivial⟩
  · have hp := hp.2 h1
    exact g_vret rfl (hr _ (hx1 _ hC))
theorem cg_437_2 (hd : 0 ≤ d) (hS : mz_extR S 342) (hR : mz_rok R 342)  (v1 : Int32) (N : mz_N) {C0 : (mz_N) → Prop} (hr : ∀ (N2 : mz_N), C0 N2 → Q (.inl none) (mz_k S R N2 b t)) (hp : cp_437_2 v1 N) (hC : C0 (cf_437_2 v1 N)) : mz_G (d, mz_X0 L xs, none, [], mk_437, 2, Q) 2 mt_437_2 [(0, .ref 232), (1, .int v1)] [] false (mz_k S R N b t) := by
  obtain ⟨n, hn⟩ := hp
  exact g_loop (G := fun s => mz_G (d, mz_X0 L xs, none, [], mk_437, 2, Q) 2 mt_437_2 [(0, .ref 232), (1, .int s.1)] [] false (mz_k S R s.2 b t)) (C := C0) (fun C2 hc hx s hP hC => cb_437_2 hd hS hR  s hr hc hx hP hC) n (v1, N) hn hC
theorem cg_437_0 (hd : 0 ≤ d) (hS : mz_extR S 342) (hR : mz_rok R 342)  (N : mz_N) {C0 : (mz_N) → Prop} (hr : ∀ (N2 : mz_N), C0 N2 → Q (.inl none) (mz_k S R N2 b t)) (hp : cp_437_0 N) (hC : C0 (cf_437_0 N)) : mz_G (d, mz_X0 L xs, none, [], mk_437, 2, Q) 0 mk_437 [(0, .ref 232)] [] true (mz_k S R N b t) := by
  unfold cf_437_0 at hC
  unfold cp_437_0 at hp
  refine g_iconst mzi_0 (g_istore_n (Nat.le_of_ble_eq_true rfl) rfl ?_)
  refine g_weak ?_ (g_cl (cg_437_2 hd hS hR 0 N hr hp hC))
  exact ⟨rfl, rfl, trivial⟩
theorem cs_437 (hd : 1 ≤ d) (hS : mz_extR S 342) (hR : mz_rok R 342)  (N : mz_N) (hp : cp_437_0 N) (hq : Q (.inl none) (mz_k S R (cf_437_0 N) b t)) : mz_Ed (mz_X0 L xs) d 437 [.ref 232] (mz_k S R N b t) Q :=
  by
  refine g_in mzq_437 (Nat.le_of_ble_eq_true rfl) (Nat.le_of_ble_eq_true rfl) (Nat.le_trans (Nat.le_of_ble_eq_true rfl) hd) ?_
  refine g_weak ?_ (cg_437_0 (d := d - 1) (by omega) hS hR N (C0 := fun z => Q (.inl none) (mz_k S R z b t)) (fun _ h => h) hp hq)
  exact ⟨rfl, trivial⟩
/-! 441 KeptHouseModel.isLetter (I)Z -/
theorem ms_441_0 : mz_sf mk_441 0 = mk_441 := mz_sf_zero _
theorem ms_441_12 : mz_sf mk_441 12 = mt_441_12 := mz_sf_add ms_441_0 (t := 12) rfl rfl
theorem ms_441_24 : mz_sf mk_441 24 = mt_441_24 := mz_sf_add ms_441_12 (t := 12) rfl rfl
theorem ms_441_28 : mz_sf mk_441 28 = mt_441_28 := mz_sf_add ms_441_24 (t := 4) rfl rfl
theorem ms_441_29 : mz_sf mk_441 29 = mt_441_29 := mz_sf_add ms_441_28 (t := 1) rfl rfl
set_option maxRecDepth 100000 in
theorem mzq_441 : mz_PG0 441 = some (12, ⟨"KeptHouseModel", "isLetter", "(I)Z"⟩, prog_14_method_46_code, 1, some .boolean, [], mk_441, []) := rfl
theorem cg_441_12 (hd : 0 ≤ d) (hS : mz_extR S 342) (hR : mz_rok R 342)  (v0 : Int32) {C0 : (Bool) → Prop} (hr : ∀ (w : Bool), C0 w → Q (.inl (some (.int (mz_b01 w)))) (mz_k S R N b t)) (hp : cp_441_12 v0) (hC : C0 (cf_441_12 v0)) : mz_G (d, mz_X0 L xs, some .boolean, [], mk_441, 1, Q) 12 mt_441_12 [(0, .int v0)] [] true (mz_k S R N b t) := by
  unfold cf_441_12 at hC
  unfold cp_441_12 at hp
  refine g_iload_n rfl (g_bipush mzb_65 ?_)
  refine g_iclt (tg := 28) rfl ms_441_28 hC (fun h1 hC => ?_) (fun h1 hC => ?_)
  · refine g_iconst mzi_0 ?_
    exact g_zret (z := false) rfl (hr _ hC)
  · refine g_iload_n rfl (g_bipush mzb_90 ?_)
    refine g_icgt (tg := 28) rfl ms_441_28 hC (fun h2 hC => ?_) (fun h2 hC => ?_)
    · refine g_iconst mzi_0 ?_
      exact g_zret (z := false) rfl (hr _ hC)
    · refine g_iconst mzi_1 (g_goto (tg := 29) rfl ms_441_29 ?_)
      exact g_zret (z := true) rfl (hr _ hC)
theorem cg_441_0 (hd : 0 ≤ d) (hS : mz_extR S 342) (hR : mz_rok R 342)  (v0 : Int32) {C0 : (Bool) → Prop} (hr : ∀ (w : Bool), C0 w → Q (.inl (some (.int (mz_b01 w)))) (mz_k S R N b t)) (hp : cp_441_0 v0) (hC : C0 (cf_441_0 v0)) : mz_G (d, mz_X0 L xs, some .boolean, [], mk_441, 1, Q) 0 mk_441 [(0, .int v0)] [] true (mz_k S R N b t) := by
  unfold cf_441_0 at hC
  unfold cp_441_0 at hp
  refine g_iload_n rfl (g_bipush mzb_97 ?_)
  refine g_iclt (tg := 12) rfl ms_441_12 hC (fun h1 hC => ?_) (fun h1 hC => ?_)
  · have hp := hp.1 h1
    refine g_weak ?_ (cg_441_12 hd hS hR v0 hr hp hC)
    exact ⟨rfl, trivial⟩
  · have hp := hp.2 h1
    refine g_iload_n rfl (g_bipush mzb_122 ?_)
    refine g_icle (tg := 24) rfl ms_441_24 hC (fun h2 hC => ?_) (fun h2 hC => ?_)
    · have hp := hp.1 h2
      refine g_weak ?_ (cg_441_12 hd hS hR v0 hr hp hC)
      exact ⟨rfl, trivial⟩
    · have hp := hp.2 h2
      refine g_iconst mzi_1 (g_goto (tg := 29) rfl ms_441_29 ?_)
      exact g_zret (z := true) rfl (hr _ hC)
theorem cs_441 (hd : 1 ≤ d) (hS : mz_extR S 342) (hR : mz_rok R 342)  (v0 : Int32) (hp : cp_441_0 v0) (hq : Q (.inl (some (.int (mz_b01 (cf_441_0 v0))))) (mz_k S R N b t)) : mz_Ed (mz_X0 L xs) d 441 [.int v0] (mz_k S R N b t) Q :=
  by
  refine g_in mzq_441 (Nat.le_of_ble_eq_true rfl) (Nat.le_of_ble_eq_true rfl) (Nat.le_trans (Nat.le_of_ble_eq_true rfl) hd) ?_
  refine g_weak ?_ (cg_441_0 (d := d - 1) (by omega) hS hR v0 (C0 := fun z => Q (.inl (some (.int (mz_b01 z)))) (mz_k S R N b t)) (fun _ h => h) hp hq)
  exact ⟨rfl, trivial⟩
/-! 442 KeptHouseModel.isDigit (I)Z -/
theorem ms_442_0 : mz_sf mk_442 0 = mk_442 := mz_sf_zero _
theorem ms_442_16 : mz_sf mk_442 16 = mt_442_16 := mz_sf_add ms_442_0 (t := 16) rfl rfl
theorem ms_442_17 : mz_sf mk_442 17 = mt_442_17 := mz_sf_add ms_442_16 (t := 1) rfl rfl
set_option maxRecDepth 100000 in
theorem mzq_442 : mz_PG0 442 = some (12, ⟨"KeptHouseModel", "isDigit", "(I)Z"⟩, prog_14_method_47_code, 1, some .boolean, [], mk_442, []) := rfl
theorem cg_442_0 (hd : 0 ≤ d) (hS : mz_extR S 342) (hR : mz_rok R 342)  (v0 : Int32) {C0 : (Bool) → Prop} (hr : ∀ (w : Bool), C0 w → Q (.inl (some (.int (mz_b01 w)))) (mz_k S R N b t)) (hp : cp_442_0 v0) (hC : C0 (cf_442_0 v0)) : mz_G (d, mz_X0 L xs, some .boolean, [], mk_442, 1, Q) 0 mk_442 [(0, .int v0)] [] true (mz_k S R N b t) := by
  unfold cf_442_0 at hC
  unfold cp_442_0 at hp
  refine g_iload_n rfl (g_bipush mzb_48 ?_)
  refine g_iclt (tg := 16) rfl ms_442_16 hC (fun h1 hC => ?_) (fun h1 hC => ?_)
  · refine g_iconst mzi_0 ?_
    exact g_zret (z := false) rfl (hr _ hC)
  · refine g_iload_n rfl (g_bipush mzb_57 ?_)
    refine g_icgt (tg := 16) rfl ms_442_16 hC (fun h2 hC => ?_) (fun h2 hC => ?_)
    · refine g_iconst mzi_0 ?_
      exact g_zret (z := false) rfl (hr _ hC)
    · refine g_iconst mzi_1 (g_goto (tg := 17) rfl ms_442_17 ?_)
      exact g_zret (z := true) rfl (hr _ hC)
theorem cs_442 (hd : 1 ≤ d) (hS : mz_extR S 342) (hR : mz_rok R 342)  (v0 : Int32) (hp : cp_442_0 v0) (hq : Q (.inl (some (.int (mz_b01 (cf_442_0 v0))))) (mz_k S R N b t)) : mz_Ed (mz_X0 L xs) d 442 [.int v0] (mz_k S R N b t) Q :=
  by
  refine g_in mzq_442 (Nat.le_of_ble_eq_true rfl) (Nat.le_of_ble_eq_true rfl) (Nat.le_trans (Nat.le_of_ble_eq_true rfl) hd) ?_
  refine g_weak ?_ (cg_442_0 (d := d - 1) (by omega) hS hR v0 (C0 := fun z => Q (.inl (some (.int (mz_b01 z)))) (mz_k S R N b t)) (fun _ h => h) hp hq)
  exact ⟨rfl, trivial⟩
/-! 443 KeptHouseModel.blame (I)V -/
theorem ms_443_0 : mz_sf mk_443 0 = mk_443 := mz_sf_zero _
theorem ms_443_20 : mz_sf mk_443 20 = mt_443_20 := mz_sf_add ms_443_0 (t := 20) rfl rfl
set_option maxRecDepth 100000 in
theorem mzq_443 : mz_PG0 443 = some (12, ⟨"KeptHouseModel", "blame", "(I)V"⟩, prog_14_method_48_code, 2, none, [], mk_443, []) := rfl
theorem cg_443_0 (hd : 0 ≤ d) (hS : mz_extR S 342) (hR : mz_rok R 342)  (v1 : Int32) (N : mz_N) {C0 : (mz_N) → Prop} (hr : ∀ (N2 : mz_N), C0 N2 → Q (.inl none) (mz_k S R N2 b t)) (hp : cp_443_0 v1 N) (hC : C0 (cf_443_0 v1 N)) : mz_G (d, mz_X0 L xs, none, [], mk_443, 2, Q) 0 mk_443 [(0, .ref 232), (1, .int v1)] [] true (mz_k S R N b t) := by
  unfold cf_443_0 at hC
  unfold cp_443_0 at hp
  refine g_aload_n rfl (g_getI (mz_at hS (Nat.le_of_ble_eq_true rfl) mzcS_232) mzcf_12_154 ?_)
  refine g_ifne (tg := 20) rfl ms_443_20 hC (fun h1 hC => ?_) (fun h1 hC => ?_)
  · refine g_aload_n rfl (g_iload_n rfl (g_putI (mz_at hS (Nat.le_of_ble_eq_true rfl) mzcS_232) mzcf_12_154 (g_aload_n rfl (g_aload_n rfl (g_getI (mz_at hS (Nat.le_of_ble_eq_true rfl) mzcS_232) mzcf_12_150 (g_putI (mz_at hS (Nat.le_of_ble_eq_true rfl) mzcS_232) mzcf_12_35 ?_))))))
    exact g_vret rfl (hr _ hC)
  · exact g_vret rfl (hr _ hC)
theorem cs_443 (hd : 1 ≤ d) (hS : mz_extR S 342) (hR : mz_rok R 342)  (v1 : Int32) (N : mz_N) (hp : cp_443_0 v1 N) (hq : Q (.inl none) (mz_k S R (cf_443_0 v1 N) b t)) : mz_Ed (mz_X0 L xs) d 443 [.ref 232, .int v1] (mz_k S R N b t) Q :=
  by
  refine g_in mzq_443 (Nat.le_of_ble_eq_true rfl) (Nat.le_of_ble_eq_true rfl) (Nat.le_trans (Nat.le_of_ble_eq_true rfl) hd) ?_
  refine g_weak ?_ (cg_443_0 (d := d - 1) (by omega) hS hR v1 N (C0 := fun z => Q (.inl none) (mz_k S R z b t)) (fun _ h => h) hp hq)
  exact ⟨rfl, rfl, trivial⟩
/-! 444 KeptHouseModel.isSign (I)Z -/
theorem ms_444_0 : mz_sf mk_444 0 = mk_444 := mz_sf_zero _
theorem ms_444_114 : mz_sf mk_444 114 = mt_444_114 := mz_sf_add ms_444_0 (t := 114) rfl rfl
set_option maxRecDepth 100000 in
theorem mzq_444 : mz_PG0 444 = some (12, ⟨"KeptHouseModel", "isSign", "(I)Z"⟩, prog_14_method_50_code, 1, some .boolean, [], mk_444, []) := rfl
theorem cg_444_0 (hd : 0 ≤ d) (hS : mz_extR S 342) (hR : mz_rok R 342)  (v0 : Int32) {C0 : (Bool) → Prop} (hr : ∀ (w : Bool), C0 w → Q (.inl (some (.int (mz_b01 w)))) (mz_k S R N b t)) (hp : cp_444_0 v0) (hC : C0 (cf_444_0 v0)) : mz_G (d, mz_X0 L xs, some .boolean, [], mk_444, 1, Q) 0 mk_444 [(0, .int v0)] [] true (mz_k S R N b t) := by
  unfold cf_444_0 at hC
  unfold cp_444_0 at hp
  refine g_iload_n rfl ?_
  refine mz_cs hC (fun h1 hC => ?_) (fun h1 hC => ?_)
  · refine g_brn (tg := 112) (by rw [h1]; rfl) (by decide) rfl ?_
    refine g_iconst mzi_1 ?_
    exact g_zret (z := true) rfl (hr _ hC)
  · refine mz_cs hC (fun h2 hC => ?_) (fun h2 hC => ?_)
    · refine g_brn (tg := 112) (by rw [h2]; rfl) (by decide) rfl ?_
      refine g_iconst mzi_1 ?_
      exact g_zret (z := true) rfl (hr _ hC)
    · refine mz_cs hC (fun h3 hC => ?_) (fun h3 hC => ?_)
      · refine g_brn (tg := 112) (by rw [h3]; rfl) (by decide) rfl ?_
        refine g_iconst mzi_1 ?_
        exact g_zret (z := true) rfl (hr _ hC)
      · refine mz_cs hC (fun h4 hC => ?_) (fun h4 hC => ?_)
        · refine g_brn (tg := 112) (by rw [h4]; rfl) (by decide) rfl ?_
          refine g_iconst mzi_1 ?_
          exact g_zret (z := true) rfl (hr _ hC)
        · refine mz_cs hC (fun h5 hC => ?_) (fun h5 hC => ?_)
          · refine g_br (tg := 114) (by rw [h5]; rfl) ms_444_114 ?_
            refine g_iconst mzi_0 ?_
            exact g_zret (z := false) rfl (hr _ hC)
          · refine mz_cs hC (fun h6 hC => ?_) (fun h6 hC => ?_)
            · refine g_brn (tg := 112) (by rw [h6]; rfl) (by decide) rfl ?_
              refine g_iconst mzi_1 ?_
              exact g_zret (z := true) rfl (hr _ hC)
            · refine mz_cs hC (fun h7 hC => ?_) (fun h7 hC => ?_)
              · refine g_br (tg := 114) (by rw [h7]; rfl) ms_444_114 ?_
                refine g_iconst mzi_0 ?_
                exact g_zret (z := false) rfl (hr _ hC)
              · refine mz_cs hC (fun h8 hC => ?_) (fun h8 hC => ?_)
                · refine g_br (tg := 114) (by rw [h8]; rfl) ms_444_114 ?_
                  refine g_iconst mzi_0 ?_
                  exact g_zret (z := false) rfl (hr _ hC)
                · refine mz_cs hC (fun h9 hC => ?_) (fun h9 hC => ?_)
                  · refine g_br (tg := 114) (by rw [h9]; rfl) ms_444_114 ?_
                    refine g_iconst mzi_0 ?_
                    exact g_zret (z := false) rfl (hr _ hC)
                  · refine mz_cs hC (fun h10 hC => ?_) (fun h10 hC => ?_)
                    · refine g_br (tg := 114) (by rw [h10]; rfl) ms_444_114 ?_
                      refine g_iconst mzi_0 ?_
                      exact g_zret (z := false) rfl (hr _ hC)
                    · refine mz_cs hC (fun h11 hC => ?_) (fun h11 hC => ?_)
                      · refine g_br (tg := 114) (by rw [h11]; rfl) ms_444_114 ?_
                        refine g_iconst mzi_0 ?_
                        exact g_zret (z := false) rfl (hr _ hC)
                      · refine mz_cs hC (fun h12 hC => ?_) (fun h12 hC => ?_)
                        · refine g_br (tg := 114) (by rw [h12]; rfl) ms_444_114 ?_
                          refine g_iconst mzi_0 ?_
                          exact g_zret (z := false) rfl (hr _ hC)
                        · refine mz_cs hC (fun h13 hC => ?_) (fun h13 hC => ?_)
                          · refine g_br (tg := 114) (by rw [h13]; rfl) ms_444_114 ?_
                            refine g_iconst mzi_0 ?_
                            exact g_zret (z := false) rfl (hr _ hC)
                          · refine mz_cs hC (fun h14 hC => ?_) (fun h14 hC => ?_)
                            · refine g_br (tg := 114) (by rw [h14]; rfl) ms_444_114 ?_
                              refine g_iconst mzi_0 ?_
                              exact g_zret (z := false) rfl (hr _ hC)
                            · refine mz_cs hC (fun h15 hC => ?_) (fun h15 hC => ?_)
                              · refine g_br (tg := 114) (by rw [h15]; rfl) ms_444_114 ?_
                                refine g_iconst mzi_0 ?_
                                exact g_zret (z := false) rfl (hr _ hC)
                              · refine mz_cs hC (fun h16 hC => ?_) (fun h16 hC => ?_)
                                · refine g_br (tg := 114) (by rw [h16]; rfl) ms_444_114 ?_
                                  refine g_iconst mzi_0 ?_
                                  exact g_zret (z := false) rfl (hr _ hC)
                                · refine mz_cs hC (fun h17 hC => ?_) (fun h17 hC => ?_)
                                  · refine g_br (tg := 114) (by rw [h17]; rfl) ms_444_114 ?_
                                    refine g_iconst mzi_0 ?_
                                    exact g_zret (z := false) rfl (hr _ hC)
                                  · refine mz_cs hC (fun h18 hC => ?_) (fun h18 hC => ?_)
                                    · refine g_br (tg := 114) (by rw [h18]; rfl) ms_444_114 ?_
                                      refine g_iconst mzi_0 ?_
                                      exact g_zret (z := false) rfl (hr _ hC)
                                    · refine mz_cs hC (fun h19 hC => ?_) (fun h19 hC => ?_)
                                      · refine g_brn (tg := 112) (by rw [h19]; rfl) (by decide) rfl ?_
                                        refine g_iconst mzi_1 ?_
                                        exact g_zret (z := true) rfl (hr _ hC)
                                      · refine mz_cs hC (fun h20 hC => ?_) (fun h20 hC => ?_)
                                        · refine g_brn (tg := 112) (by rw [h20]; rfl) (by decide) rfl ?_
                                          refine g_iconst mzi_1 ?_
                                          exact g_zret (z := true) rfl (hr _ hC)
                                        · refine mz_cs hC (fun h21 hC => ?_) (fun h21 hC => ?_)
                                          · refine g_brn (tg := 112) (by rw [h21]; rfl) (by decide) rfl ?_
                                            refine g_iconst mzi_1 ?_
                                            exact g_zret (z := true) rfl (hr _ hC)
                                          · refine mz_cs hC (fun h22 hC => ?_) (fun h22 hC => ?_)
                                            · refine g_brn (tg := 112) (by rw [h22]; rfl) (by decide) rfl ?_
                                              refine g_iconst mzi_1 ?_
                                              exact g_zret (z := true) rfl (hr _ hC)
                                            · refine mz_cs hC (fun h23 hC => ?_) (fun h23 hC => ?_)
                                              · refine g_brn (tg := 112) (by rw [h23]; rfl) (by decide) rfl ?_
                                                refine g_iconst mzi_1 ?_
                                                exact g_zret (z := true) rfl (hr _ hC)
                                              · refine mz_cs hC (fun h24 hC => ?_) (fun h24 hC => ?_)
                                                · refine g_brn (tg := 112) (by rw [h24]; rfl) (by decide) rfl ?_
                                                  refine g_iconst mzi_1 ?_
                                                  exact g_zret (z := true) rfl (hr _ hC)
                                                · refine g_br (tg := 114) ((mz_tsw_d (l := [40, 41, 42, 43, 44, 45, 46, 47, 48, 49, 50, 51, 52, 53, 54, 55, 56, 57, 58, 59, 60, 61, 62, 63]) (mz_rng 40 23) ⟨h1, h2, h3, h4, h5, h6, h7, h8, h9, h10, h11, h12, h13, h14, h15, h16, h17, h18, h19, h20, h21, h22, h23, h24, trivial⟩).trans (mz_tg_t rfl)) ms_444_114 ?_
                                                  refine g_iconst mzi_0 ?_
                                                  exact g_zret (z := false) rfl (hr _ hC)
theorem cs_444 (hd : 1 ≤ d) (hS : mz_extR S 342) (hR : mz_rok R 342)  (v0 : Int32) (hp : cp_444_0 v0) (hq : Q (.inl (some (.int (mz_b01 (cf_444_0 v0))))) (mz_k S R N b t)) : mz_Ed (mz_X0 L xs) d 444 [.int v0] (mz_k S R N b t) Q :=
  by
  refine g_in mzq_444 (Nat.le_of_ble_eq_true rfl) (Nat.le_of_ble_eq_true rfl) (Nat.le_trans (Nat.le_of_ble_eq_true rfl) hd) ?_
  refine g_weak ?_ (cg_444_0 (d := d - 1) (by omega) hS hR v0 (C0 := fun z => Q (.inl (some (.int (mz_b01 z)))) (mz_k S R N b t)) (fun _ h => h) hp hq)
  exact ⟨rfl, trivial⟩
/-! 440 KeptHouseModel.token ()V -/
theorem ms_440_0 : mz_sf mk_440 0 = mk_440 := mz_sf_zero _
theorem ms_440_25 : mz_sf mk_440 25 = mt_440_25 := mz_sf_add ms_440_0 (t := 25) rfl rfl
theorem ms_440_38 : mz_sf mk_440 38 = mt_440_38 := mz_sf_add ms_440_25 (t := 13) rfl rfl
theorem ms_440_65 : mz_sf mk_440 65 = mt_440_65 := mz_sf_add ms_440_38 (t := 27) rfl rfl
theorem ms_440_71 : mz_sf mk_440 71 = mt_440_71 := mz_sf_add ms_440_65 (t := 6) rfl rfl
theorem ms_440_93 : mz_sf mk_440 93 = mt_440_93 := mz_sf_add ms_440_71 (t := 22) rfl rfl
theorem ms_440_98 : mz_sf mk_440 98 = mt_440_98 := mz_sf_add ms_440_93 (t := 5) rfl rfl
theorem ms_440_124 : mz_sf mk_440 124 = mt_440_124 := mz_sf_add ms_440_98 (t := 26) rfl rfl
theorem ms_440_139 : mz_sf mk_440 139 = mt_440_139 := mz_sf_add ms_440_124 (t := 15) rfl rfl
theorem ms_440_152 : mz_sf mk_440 152 = mt_440_152 := mz_sf_add ms_440_139 (t := 13) rfl rfl
theorem ms_440_169 : mz_sf mk_440 169 = mt_440_169 := mz_sf_add ms_440_152 (t := 17) rfl rfl
theorem ms_440_195 : mz_sf mk_440 195 = mt_440_195 := mz_sf_add ms_440_169 (t := 26) rfl rfl
theorem ms_440_233 : mz_sf mk_440 233 = mt_440_233 := mz_sf_add ms_440_195 (t := 38) rfl rfl
theorem ms_440_237 : mz_sf mk_440 237 = mt_440_237 := mz_sf_add ms_440_233 (t := 4) rfl rfl
theorem ms_440_253 : mz_sf mk_440 253 = mt_440_253 := mz_sf_add ms_440_237 (t := 16) rfl rfl
theorem ms_440_275 : mz_sf mk_440 275 = mt_440_275 := mz_sf_add ms_440_253 (t := 22) rfl rfl
theorem ms_440_297 : mz_sf mk_440 297 = mt_440_297 := mz_sf_add ms_440_275 (t := 22) rfl rfl
theorem ms_440_302 : mz_sf mk_440 302 = mt_440_302 := mz_sf_add ms_440_297 (t := 5) rfl rfl
set_option maxRecDepth 100000 in
theorem mzq_440 : mz_PG0 440 = some (12, ⟨"KeptHouseModel", "token", "()V"⟩, prog_14_method_49_code, 2, none, [], mk_440, []) := rfl
theorem cg_440_65 (hd : 1 ≤ d) (hS : mz_extR S 342) (hR : mz_rok R 342)  (N : mz_N) {C0 : (mz_N) → Prop} (hr : ∀ (N2 : mz_N), C0 N2 → Q (.inl none) (mz_k S R N2 b t)) (hp : cp_440_65 N) (hC : C0 (cf_440_65 N)) : mz_G (d, mz_X0 L xs, none, [], mk_440, 2, Q) 65 mt_440_65 [(0, .ref 232)] [] false (mz_k S R N b t) := by
  unfold cf_440_65 at hC
  unfold cp_440_65 at hp
  refine g_aload_n rfl (g_iconst mzi_0 (g_putI (mz_at hS (Nat.le_of_ble_eq_true rfl) mzcS_232) mzcf_12_149 ?_))
  exact g_vret rfl (hr _ hC)
theorem cg_440_237 (hd : 1 ≤ d) (hS : mz_extR S 342) (hR : mz_rok R 342)  (s1 : Int32) (N : mz_N) {C0 : (mz_N) → Prop} (hr : ∀ (N2 : mz_N), C0 N2 → Q (.inl none) (mz_k S R N2 b t)) {C1 : ((mz_N) ⊕ (mz_N)) → Prop} (hc1 : ∀ s2, C1 (.inl s2) → mz_G (d, mz_X0 L xs, none, [], mk_440, 2, Q) 169 mt_440_169 [(0, .ref 232)] [] false (mz_k S R s2 b t)) (hx1 : ∀ z, C1 (.inr z) → C0 z) (hp : cp_440_237 s1 N) (hC : C1 (cf_440_237 s1 N)) : mz_G (d, mz_X0 L xs, none, [], mk_440, 2, Q) 237 mt_440_237 [(0, .ref 232)] [.int s1, .ref 232] false (mz_k S R N b t) := by
  unfold cf_440_237 at hC
  unfold cp_440_237 at hp
  refine g_putI (mz_at hS (Nat.le_of_ble_eq_true rfl) mzcS_232) mzcf_12_153 (g_aload_n rfl (g_dup rfl (g_getI (mz_at hS (Nat.le_of_ble_eq_true rfl) mzcS_232) mzcf_12_151 (g_iconst mzi_1 (g_iadd (g_putI (mz_at hS (Nat.le_of_ble_eq_true rfl) mzcS_232) mzcf_12_151 (g_goto (tg := 169) rfl ms_440_169 ?_)))))))
  refine g_weak ?_ (g_cl (hc1 (mz_pI (mz_pI N 232 153 s1) 232 151 (((mz_pI N 232 153 s1).1 232 151) + 1)) hC))
  exact ⟨rfl, trivial⟩
theorem cg_440_302 (hd : 1 ≤ d) (hS : mz_extR S 342) (hR : mz_rok R 342)  (N : mz_N) {C0 : (mz_N) → Prop} (hr : ∀ (N2 : mz_N), C0 N2 → Q (.inl none) (mz_k S R N2 b t)) (hp : cp_440_302 N) (hC : C0 (cf_440_302 N)) : mz_G (d, mz_X0 L xs, none, [], mk_440, 2, Q) 302 mt_440_302 [(0, .ref 232)] [] false (mz_k S R N b t) := by
  unfold cf_440_302 at hC
  unfold cp_440_302 at hp
  refine g_aload_n rfl (g_aload_n rfl (g_getI (mz_at hS (Nat.le_of_ble_eq_true rfl) mzcS_232) mzcf_12_151 (g_putI (mz_at hS (Nat.le_of_ble_eq_true rfl) mzcS_232) mzcf_12_148 ?_)))
  exact g_vret rfl (hr _ hC)
theorem cg_440_253 (hd : 1 ≤ d) (hS : mz_extR S 342) (hR : mz_rok R 342)  (N : mz_N) {C0 : (mz_N) → Prop} (hr : ∀ (N2 : mz_N), C0 N2 → Q (.inl none) (mz_k S R N2 b t)) (hp : cp_440_253 N) (hC : C0 (cf_440_253 N)) : mz_G (d, mz_X0 L xs, none, [], mk_440, 2, Q) 253 mt_440_253 [(0, .ref 232)] [] false (mz_k S R N b t) := by
  unfold cf_440_253 at hC
  unfold cp_440_253 at hp
  refine g_aload_n rfl (g_getI (mz_at hS (Nat.le_of_ble_eq_true rfl) mzcS_232) mzcf_12_151 (g_aload_n rfl (g_getI (mz_at hS (Nat.le_of_ble_eq_true rfl) mzcS_232) mzcf_12_148 (g_isub (g_bipush mzb_6 ?_)))))
  refine g_icle (tg := 302) rfl ms_440_302 hC (fun h1 hC => ?_) (fun h1 hC => ?_)
  · have hp := hp.1 h1
    refine g_aload_n rfl (g_iconst mzi_4 ?_)
    refine g_v2n (Nat.le_of_ble_eq_true rfl) (mz_at hS (Nat.le_of_ble_eq_true rfl) mzcS_232) (fun _ hq => cs_443 (Nat.le_trans (Nat.le_of_ble_eq_true rfl) hd) (hS.le (Nat.le_of_ble_eq_true rfl)) (hR.le (Nat.le_of_ble_eq_true rfl))  4 N trivial hq) (g_goto (tg := 302) rfl ms_440_302 ?_)
    refine g_weak ?_ (g_cl (cg_440_302 hd hS hR (cf_443_0 4 N) hr hp hC))
    exact ⟨rfl, trivial⟩
  · have hp := hp.2 h1
    refine g_weak ?_ (g_cl (cg_440_302 hd hS hR N hr hp hC))
    exact ⟨rfl, trivial⟩
theorem cb_440_169 (hd : 1 ≤ d) (hS : mz_extR S 342) (hR : mz_rok R 342)   (s : mz_N) {C0 : (mz_N) → Prop} (hr : ∀ (N2 : mz_N), C0 N2 → Q (.inl none) (mz_k S R N2 b t)) {C1 : ((mz_N) ⊕ (mz_N)) → Prop} (hc1 : ∀ s2, C1 (.inl s2) → mz_G (d, mz_X0 L xs, none, [], mk_440, 2, Q) 169 mt_440_169 [(0, .ref 232)] [] false (mz_k S R s2 b t)) (hx1 : ∀ z, C1 (.inr z) → C0 z) (hp : cd_440_169  s) (hC : C1 (cq_440_169  s)) : mz_G (d, mz_X0 L xs, none, [], mk_440, 2, Q) 169 mt_440_169 [(0, .ref 232)] [] false (mz_k S R s b t) := by
  unfold cq_440_169 at hC
  unfold cd_440_169 at hp
  refine g_aload_n rfl (g_getI (mz_at hS (Nat.le_of_ble_eq_true rfl) mzcS_232) mzcf_12_151 (g_aload_n rfl (g_getI (mz_at hS (Nat.le_of_ble_eq_true rfl) mzcS_232) mzcf_12_147 ?_)))
  refine g_icge (tg := 253) rfl ms_440_253 hC (fun h1 hC => ?_) (fun h1 hC => ?_)
  · have hp := hp.1 h1
    refine g_aload_n rfl (g_getR (mz_at hS (Nat.le_of_ble_eq_true rfl) mzcS_232) mzcf_12_146 (mz_rb hR (Nat.le_of_ble_eq_true rfl) rfl mzcR_232_146) (g_aload_n rfl (g_getI (mz_at hS (Nat.le_of_ble_eq_true rfl) mzcS_232) mzcf_12_151 ?_)))
    obtain ⟨h2, hp⟩ := hp
    refine g_iald hS.1 (mz_at hS (Nat.le_of_ble_eq_true rfl) mzcS_338) h2 ?_
    refine g_s1v (Nat.le_of_ble_eq_true rfl) (fun _ hq => cs_442 (Nat.le_trans (Nat.le_of_ble_eq_true rfl) hd) (hS.le (Nat.le_of_ble_eq_true rfl)) (hR.le (Nat.le_of_ble_eq_true rfl))  (mz_gI s 338 (s.1 232 151)) trivial hq) ?_
    refine g_zeq (tg := 253) rfl ms_440_253 hC (fun h4 hC => ?_) (fun h4 hC => ?_)
    · have hp := hp.1 h4
      refine g_aload_n rfl (g_aload_n rfl (g_getI (mz_at hS (Nat.le_of_ble_eq_true rfl) mzcS_232) mzcf_12_151 (g_aload_n rfl (g_getI (mz_at hS (Nat.le_of_ble_eq_true rfl) mzcS_232) mzcf_12_148 (g_isub (g_bipush mzb_6 ?_))))))
      refine g_icge (tg := 233) rfl ms_440_233 hC (fun h5 hC => ?_) (fun h5 hC => ?_)
      · have hp := hp.1 h5
        refine g_bipush mzb_10 (g_aload_n rfl (g_getI (mz_at hS (Nat.le_of_ble_eq_true rfl) mzcS_232) mzcf_12_153 (g_imul (g_aload_n rfl (g_getR (mz_at hS (Nat.le_of_ble_eq_true rfl) mzcS_232) mzcf_12_146 (mz_rb hR (Nat.le_of_ble_eq_true rfl) rfl mzcR_232_146) (g_aload_n rfl (g_getI (mz_at hS (Nat.le_of_ble_eq_true rfl) mzcS_232) mzcf_12_151 ?_)))))))
        obtain ⟨h6, hp⟩ := hp
        refine g_iald hS.1 (mz_at hS (Nat.le_of_ble_eq_true rfl) mzcS_338) h6 (g_iadd (g_bipush mzb_48 (g_isub (g_goto (tg := 237) rfl ms_440_237 ?_))))
        refine g_weak ?_ (g_cl (cg_440_237 hd hS hR (((10 * (s.1 232 153)) + (mz_gI s 338 (s.1 232 151))) - 48) s hr hc1 hx1 hp hC))
        exact ⟨rfl, trivial⟩
      · have hp := hp.2 h5
        refine g_aload_n rfl (g_getI (mz_at hS (Nat.le_of_ble_eq_true rfl) mzcS_232) mzcf_12_153 ?_)
        refine g_weak ?_ (g_cl (cg_440_237 hd hS hR (s.1 232 153) s hr hc1 hx1 hp hC))
        exact ⟨rfl, trivial⟩
    · have hp := hp.2 h4
      refine g_weak ?_ (g_cl (cg_440_253 hd hS hR s hr hp (hx1 _ hC)))
      exact ⟨rfl, trivial⟩
  · have hp := hp.2 h1
    refine g_weak ?_ (g_cl (cg_440_253 hd hS hR s hr hp (hx1 _ hC)))
    exact ⟨rfl, trivial⟩
theorem cg_440_169 (hd : 1 ≤ d) (hS : mz_extR S 342) (hR : mz_rok R 342)  (N : mz_N) {C0 : (mz_N) → Prop} (hr : ∀ (N2 : mz_N), C0 N2 → Q (.inl none) (mz_k S R N2 b t)) (hp : cp_440_169 N) (hC : C0 (cf_440_169 N)) : mz_G (d, mz_X0 L xs, none, [], mk_440, 2, Q) 169 mt_440_169 [(0, .ref 232)] [] false (mz_k S R N b t) := by
  obtain ⟨n, hn⟩ := hp
  exact g_loop (G := fun s => mz_G (d, mz_X0 L xs, none, [], mk_440, 2, Q) 169 mt_440_169 [(0, .ref 232)] [] false (mz_k S R s b t)) (C := C0) (fun C2 hc hx s hP hC => cb_440_169 hd hS hR  s hr hc hx hP hC) n (N) hn hC
theorem cg_440_139 (hd : 1 ≤ d) (hS : mz_extR S 342) (hR : mz_rok R 342)  (N : mz_N) {C0 : (mz_N) → Prop} (hr : ∀ (N2 : mz_N), C0 N2 → Q (.inl none) (mz_k S R N2 b t)) {C1 : ((mz_N) ⊕ (mz_N)) → Prop} (hc1 : ∀ s2, C1 (.inl s2) → mz_G (d, mz_X0 L xs, none, [], mk_440, 2, Q) 98 mt_440_98 [(0, .ref 232)] [] false (mz_k S R s2 b t)) (hx1 : ∀ z, C1 (.inr z) → C0 z) (hp : cp_440_139 N) (hC : C1 (cf_440_139 N)) : mz_G (d, mz_X0 L xs, none, [], mk_440, 2, Q) 139 mt_440_139 [(0, .ref 232)] [] false (mz_k S R N b t) := by
  unfold cf_440_139 at hC
  unfold cp_440_139 at hp
  refine g_aload_n rfl (g_dup rfl (g_getI (mz_at hS (Nat.le_of_ble_eq_true rfl) mzcS_232) mzcf_12_151 (g_iconst mzi_1 (g_iadd (g_putI (mz_at hS (Nat.le_of_ble_eq_true rfl) mzcS_232) mzcf_12_151 (g_goto (tg := 98) rfl ms_440_98 ?_))))))
  refine g_weak ?_ (g_cl (hc1 (mz_pI N 232 151 ((N.1 232 151) + 1)) hC))
  exact ⟨rfl, trivial⟩
theorem cb_440_98 (hd : 1 ≤ d) (hS : mz_extR S 342) (hR : mz_rok R 342)   (s : mz_N) {C0 : (mz_N) → Prop} (hr : ∀ (N2 : mz_N), C0 N2 → Q (.inl none) (mz_k S R N2 b t)) {C1 : ((mz_N) ⊕ (mz_N)) → Prop} (hc1 : ∀ s2, C1 (.inl s2) → mz_G (d, mz_X0 L xs, none, [], mk_440, 2, Q) 98 mt_440_98 [(0, .ref 232)] [] false (mz_k S R s2 b t)) (hx1 : ∀ z, C1 (.inr z) → C0 z) (hp : cd_440_98  s) (hC : C1 (cq_440_98  s)) : mz_G (d, mz_X0 L xs, none, [], mk_440, 2, Q) 98 mt_440_98 [(0, .ref 232)] [] false (mz_k S R s b t) := by
  unfold cq_440_98 at hC
  unfold cd_440_98 at hp
  refine g_aload_n rfl (g_getI (mz_at hS (Nat.le_of_ble_eq_true rfl) mzcS_232) mzcf_12_151 (g_aload_n rfl (g_getI (mz_at hS (Nat.le_of_ble_eq_true rfl) mzcS_232) mzcf_12_147 ?_)))
  refine g_icge (tg := 302) rfl ms_440_302 hC (fun h1 hC => ?_) (fun h1 hC => ?_)
  · have hp := hp.1 h1
    refine g_aload_n rfl (g_getR (mz_at hS (Nat.le_of_ble_eq_true rfl) mzcS_232) mzcf_12_146 (mz_rb hR (Nat.le_of_ble_eq_true rfl) rfl mzcR_232_146) (g_aload_n rfl (g_getI (mz_at hS (Nat.le_of_ble_eq_true rfl) mzcS_232) mzcf_12_151 ?_)))
    obtain ⟨h2, hp⟩ := hp
    refine g_iald hS.1 (mz_at hS (Nat.le_of_ble_eq_true rfl) mzcS_338) h2 ?_
    obtain ⟨h3, hp⟩ := hp
    refine g_s1v (Nat.le_of_ble_eq_true rfl) (fun _ hq => cs_441 (Nat.le_trans (Nat.le_of_ble_eq_true rfl) hd) (hS.le (Nat.le_of_ble_eq_true rfl)) (hR.le (Nat.le_of_ble_eq_true rfl))  (mz_gI s 338 (s.1 232 151)) h3 hq) ?_
    refine g_zne (tg := 139) rfl ms_440_139 hC (fun h4 hC => ?_) (fun h4 hC => ?_)
    · have hp := hp.1 h4
      refine g_weak ?_ (g_cl (cg_440_139 hd hS hR s hr hc1 hx1 hp hC))
      exact ⟨rfl, trivial⟩
    · have hp := hp.2 h4
      refine g_aload_n rfl (g_getR (mz_at hS (Nat.le_of_ble_eq_true rfl) mzcS_232) mzcf_12_146 (mz_rb hR (Nat.le_of_ble_eq_true rfl) rfl mzcR_232_146) (g_aload_n rfl (g_getI (mz_at hS (Nat.le_of_ble_eq_true rfl) mzcS_232) mzcf_12_151 ?_)))
      obtain ⟨h5, hp⟩ := hp
      refine g_iald hS.1 (mz_at hS (Nat.le_of_ble_eq_true rfl) mzcS_338) h5 ?_
      refine g_s1v (Nat.le_of_ble_eq_true rfl) (fun _ hq => cs_442 (Nat.le_trans (Nat.le_of_ble_eq_true rfl) hd) (hS.le (Nat.le_of_ble_eq_true rfl)) (hR.le (Nat.le_of_ble_eq_true rfl))  (mz_gI s 338 (s.1 232 151)) trivial hq) ?_
      refine g_zeq (tg := 302) rfl ms_440_302 hC (fun h7 hC => ?_) (fun h7 hC => ?_)
      · have hp := hp.1 h7
        refine g_weak ?_ (g_cl (cg_440_139 hd hS hR s hr hc1 hx1 hp hC))
        exact ⟨rfl, trivial⟩
      · have hp := hp.2 h7
        refine g_weak ?_ (g_cl (cg_440_302 hd hS hR s hr hp (hx1 _ hC)))
        exact ⟨rfl, trivial⟩
  · have hp := hp.2 h1
    refine g_weak ?_ (g_cl (cg_440_302 hd hS hR s hr hp (hx1 _ hC)))
    exact ⟨rfl, trivial⟩
theorem cg_440_98 (hd : 1 ≤ d) (hS : mz_extR S 342) (hR : mz_rok R 342)  (N : mz_N) {C0 : (mz_N) → Prop} (hr : ∀ (N2 : mz_N), C0 N2 → Q (.inl none) (mz_k S R N2 b t)) (hp : cp_440_98 N) (hC : C0 (cf_440_98 N)) : mz_G (d, mz_X0 L xs, none, [], mk_440, 2, Q) 98 mt_440_98 [(0, .ref 232)] [] false (mz_k S R N b t) := by
  obtain ⟨n, hn⟩ := hp
  exact g_loop (G := fun s => mz_G (d, mz_X0 L xs, none, [], mk_440, 2, Q) 98 mt_440_98 [(0, .ref 232)] [] false (mz_k S R s b t)) (C := C0) (fun C2 hc hx s hP hC => cb_440_98 hd hS hR  s hr hc hx hP hC) n (N) hn hC
theorem cg_440_297 (hd : 1 ≤ d) (hS : mz_extR S 342) (hR : mz_rok R 342)  (N : mz_N) {C0 : (mz_N) → Prop} (hr : ∀ (N2 : mz_N), C0 N2 → Q (.inl none) (mz_k S R N2 b t)) (hp : cp_440_297 N) (hC : C0 (cf_440_297 N)) : mz_G (d, mz_X0 L xs, none, [], mk_440, 2, Q) 297 mt_440_297 [(0, .ref 232)] [] false (mz_k S R N b t) := by
  unfold cf_440_297 at hC
  unfold cp_440_297 at hp
  refine g_aload_n rfl (g_iconst mzi_1 ?_)
  refine g_v2n (Nat.le_of_ble_eq_true rfl) (mz_at hS (Nat.le_of_ble_eq_true rfl) mzcS_232) (fun _ hq => cs_443 (Nat.le_trans (Nat.le_of_ble_eq_true rfl) hd) (hS.le (Nat.le_of_ble_eq_true rfl)) (hR.le (Nat.le_of_ble_eq_true rfl))  1 N trivial hq) ?_
  refine g_weak ?_ (g_cl (cg_440_302 hd hS hR (cf_443_0 1 N) hr hp hC))
  exact ⟨rfl, trivial⟩
theorem cg_440_71 (hd : 1 ≤ d) (hS : mz_extR S 342) (hR : mz_rok R 342)  (N : mz_N) {C0 : (mz_N) → Prop} (hr : ∀ (N2 : mz_N), C0 N2 → Q (.inl none) (mz_k S R N2 b t)) (hp : cp_440_71 N) (hC : C0 (cf_440_71 N)) : mz_G (d, mz_X0 L xs, none, [], mk_440, 2, Q) 71 mt_440_71 [(0, .ref 232)] [] false (mz_k S R N b t) := by
  unfold cf_440_71 at hC
  unfold cp_440_71 at hp
  refine g_aload_n rfl (g_getR (mz_at hS (Nat.le_of_ble_eq_true rfl) mzcS_232) mzcf_12_146 (mz_rb hR (Nat.le_of_ble_eq_true rfl) rfl mzcR_232_146) (g_aload_n rfl (g_getI (mz_at hS (Nat.le_of_ble_eq_true rfl) mzcS_232) mzcf_12_148 ?_)))
  obtain ⟨h1, hp⟩ := hp
  refine g_iald hS.1 (mz_at hS (Nat.le_of_ble_eq_true rfl) mzcS_338) h1 (g_istore_n (Nat.le_of_ble_eq_true rfl) rfl (g_aload_n rfl (g_iload_n rfl (g_putI (mz_at hS (Nat.le_of_ble_eq_true rfl) mzcS_232) mzcf_12_152 (g_iload_n rfl ?_)))))
  obtain ⟨h2, hp⟩ := hp
  refine g_s1v (Nat.le_of_ble_eq_true rfl) (fun _ hq => cs_441 (Nat.le_trans (Nat.le_of_ble_eq_true rfl) hd) (hS.le (Nat.le_of_ble_eq_true rfl)) (hR.le (Nat.le_of_ble_eq_true rfl))  (mz_gI N 338 (N.1 232 148)) h2 hq) ?_
  refine g_zeq (tg := 152) rfl ms_440_152 hC (fun h3 hC => ?_) (fun h3 hC => ?_)
  · have hp := hp.1 h3
    refine g_aload_n rfl (g_iconst mzi_1 (g_putI (mz_at hS (Nat.le_of_ble_eq_true rfl) mzcS_232) mzcf_12_149 ?_))
    refine g_weak ?_ (g_cl (cg_440_98 hd hS hR (mz_pI (mz_pI N 232 152 (mz_gI N 338 (N.1 232 148))) 232 149 1) hr hp hC))
    exact ⟨rfl, trivial⟩
  · have hp := hp.2 h3
    refine g_iload_n rfl ?_
    refine g_s1v (Nat.le_of_ble_eq_true rfl) (fun _ hq => cs_442 (Nat.le_trans (Nat.le_of_ble_eq_true rfl) hd) (hS.le (Nat.le_of_ble_eq_true rfl)) (hR.le (Nat.le_of_ble_eq_true rfl))  (mz_gI N 338 (N.1 232 148)) trivial hq) ?_
    refine g_zeq (tg := 275) rfl ms_440_275 hC (fun h5 hC => ?_) (fun h5 hC => ?_)
    · have hp := hp.1 h5
      refine g_aload_n rfl (g_iconst mzi_2 (g_putI (mz_at hS (Nat.le_of_ble_eq_true rfl) mzcS_232) mzcf_12_149 (g_aload_n rfl (g_iconst mzi_0 (g_putI (mz_at hS (Nat.le_of_ble_eq_true rfl) mzcS_232) mzcf_12_153 ?_)))))
      refine g_weak ?_ (g_cl (cg_440_169 hd hS hR (mz_pI (mz_pI (mz_pI N 232 152 (mz_gI N 338 (N.1 232 148))) 232 149 2) 232 153 0) hr hp hC))
      exact ⟨rfl, trivial⟩
    · have hp := hp.2 h5
      refine g_aload_n rfl (g_iconst mzi_3 (g_putI (mz_at hS (Nat.le_of_ble_eq_true rfl) mzcS_232) mzcf_12_149 (g_aload_n rfl (g_dup rfl (g_getI (mz_at hS (Nat.le_of_ble_eq_true rfl) mzcS_232) mzcf_12_151 (g_iconst mzi_1 (g_iadd ?_)))))))
      refine g_putI (mz_at hS (Nat.le_of_ble_eq_true rfl) mzcS_232) mzcf_12_151 (g_iload_n rfl ?_)
      refine g_s1v (Nat.le_of_ble_eq_true rfl) (fun _ hq => cs_444 (Nat.le_trans (Nat.le_of_ble_eq_true rfl) hd) (hS.le (Nat.le_of_ble_eq_true rfl)) (hR.le (Nat.le_of_ble_eq_true rfl))  (mz_gI N 338 (N.1 232 148)) trivial hq) ?_
      refine g_zne (tg := 302) rfl ms_440_302 hC (fun h7 hC => ?_) (fun h7 hC => ?_)
      · have hp := hp.1 h7
        refine g_weak ?_ (g_cl (cg_440_302 hd hS hR (mz_pI (mz_pI (mz_pI N 232 152 (mz_gI N 338 (N.1 232 148))) 232 149 3) 232 151 (((mz_pI (mz_pI N 232 152 (mz_gI N 338 (N.1 232 148))) 232 149 3).1 232 151) + 1)) hr hp hC))
        exact ⟨rfl, trivial⟩
      · have hp := hp.2 h7
        refine g_weak ?_ (g_cl (cg_440_297 hd hS hR (mz_pI (mz_pI (mz_pI N 232 152 (mz_gI N 338 (N.1 232 148))) 232 149 3) 232 151 (((mz_pI (mz_pI N 232 152 (mz_gI N 338 (N.1 232 148))) 232 149 3).1 232 151) + 1)) hr hp hC))
        exact ⟨rfl, trivial⟩
theorem cg_440_38 (hd : 1 ≤ d) (hS : mz_extR S 342) (hR : mz_rok R 342)  (N : mz_N) {C0 : (mz_N) → Prop} (hr : ∀ (N2 : mz_N), C0 N2 → Q (.inl none) (mz_k S R N2 b t)) (hp : cp_440_38 N) (hC : C0 (cf_440_38 N)) : mz_G (d, mz_X0 L xs, none, [], mk_440, 2, Q) 38 mt_440_38 [(0, .ref 232)] [] false (mz_k S R N b t) := by
  unfold cf_440_38 at hC
  unfold cp_440_38 at hp
  refine g_aload_n rfl (g_aload_n rfl (g_getI (mz_at hS (Nat.le_of_ble_eq_true rfl) mzcS_232) mzcf_12_148 (g_putI (mz_at hS (Nat.le_of_ble_eq_true rfl) mzcS_232) mzcf_12_150 (g_aload_n rfl (g_aload_n rfl (g_getI (mz_at hS (Nat.le_of_ble_eq_true rfl) mzcS_232) mzcf_12_148 (g_putI (mz_at hS (Nat.le_of_ble_eq_true rfl) mzcS_232) mzcf_12_151 ?_)))))))
  refine g_aload_n rfl (g_getI (mz_at hS (Nat.le_of_ble_eq_true rfl) mzcS_232) mzcf_12_148 (g_aload_n rfl (g_getI (mz_at hS (Nat.le_of_ble_eq_true rfl) mzcS_232) mzcf_12_147 ?_)))
  refine g_icne (tg := 71) rfl ms_440_71 hC (fun h1 hC => ?_) (fun h1 hC => ?_)
  · have hp := hp.1 h1
    refine g_weak ?_ (g_cl (cg_440_65 hd hS hR (mz_pI (mz_pI N 232 150 (N.1 232 148)) 232 151 ((mz_pI N 232 150 (N.1 232 148)).1 232 148)) hr hp hC))
    exact ⟨rfl, trivial⟩
  · have hp := hp.2 h1
    refine g_weak ?_ (g_cl (cg_440_71 hd hS hR (mz_pI (mz_pI N 232 150 (N.1 232 148)) 232 151 ((mz_pI N 232 150 (N.1 232 148)).1 232 148)) hr hp hC))
    exact ⟨rfl, trivial⟩
theorem cb_440_0 (hd : 1 ≤ d) (hS : mz_extR S 342) (hR : mz_rok R 342)   (s : mz_N) {C0 : (mz_N) → Prop} (hr : ∀ (N2 : mz_N), C0 N2 → Q (.inl none) (mz_k S R N2 b t)) {C1 : ((mz_N) ⊕ (mz_N)) → Prop} (hc1 : ∀ s2, C1 (.inl s2) → mz_G (d, mz_X0 L xs, none, [], mk_440, 2, Q) 0 mk_440 [(0, .ref 232)] [] false (mz_k S R s2 b t)) (hx1 : ∀ z, C1 (.inr z) → C0 z) (hp : cd_440_0  s) (hC : C1 (cq_440_0  s)) : mz_G (d, mz_X0 L xs, none, [], mk_440, 2, Q) 0 mk_440 [(0, .ref 232)] [] false (mz_k S R s b t) := by
  unfold cq_440_0 at hC
  unfold cd_440_0 at hp
  refine g_aload_n rfl (g_getI (mz_at hS (Nat.le_of_ble_eq_true rfl) mzcS_232) mzcf_12_148 (g_aload_n rfl (g_getI (mz_at hS (Nat.le_of_ble_eq_true rfl) mzcS_232) mzcf_12_147 ?_)))
  refine g_icge (tg := 38) rfl ms_440_38 hC (fun h1 hC => ?_) (fun h1 hC => ?_)
  · have hp := hp.1 h1
    refine g_aload_n rfl (g_getR (mz_at hS (Nat.le_of_ble_eq_true rfl) mzcS_232) mzcf_12_146 (mz_rb hR (Nat.le_of_ble_eq_true rfl) rfl mzcR_232_146) (g_aload_n rfl (g_getI (mz_at hS (Nat.le_of_ble_eq_true rfl) mzcS_232) mzcf_12_148 ?_)))
    obtain ⟨h2, hp⟩ := hp
    refine g_iald hS.1 (mz_at hS (Nat.le_of_ble_eq_true rfl) mzcS_338) h2 (g_bipush mzb_32 ?_)
    refine g_icne (tg := 38) rfl ms_440_38 hC (fun h3 hC => ?_) (fun h3 hC => ?_)
    · have hp := hp.1 h3
      refine g_aload_n rfl (g_dup rfl (g_getI (mz_at hS (Nat.le_of_ble_eq_true rfl) mzcS_232) mzcf_12_148 (g_iconst mzi_1 (g_iadd (g_putI (mz_at hS (Nat.le_of_ble_eq_true rfl) mzcS_232) mzcf_12_148 (g_goto (tg := 0) rfl ms_440_0 ?_))))))
      refine g_weak ?_ (g_cl (hc1 (mz_pI s 232 148 ((s.1 232 148) + 1)) hC))
      exact ⟨rfl, trivial⟩
    · have hp := hp.2 h3
      refine g_weak ?_ (g_cl (cg_440_38 hd hS hR s hr hp (hx1 _ hC)))
      exact ⟨rfl, trivial⟩
  · have hp := hp.2 h1
    refine g_weak ?_ (g_cl (cg_440_38 hd hS hR s hr hp (hx1 _ hC)))
    exact ⟨rfl, trivial⟩
theorem cg_440_0 (hd : 1 ≤ d) (hS : mz_extR S 342) (hR : mz_rok R 342)  (N : mz_N) {C0 : (mz_N) → Prop} (hr : ∀ (N2 : mz_N), C0 N2 → Q (.inl none) (mz_k S R N2 b t)) (hp : cp_440_0 N) (hC : C0 (cf_440_0 N)) : mz_G (d, mz_X0 L xs, none, [], mk_440, 2, Q) 0 mk_440 [(0, .ref 232)] [] false (mz_k S R N b t) := by
  obtain ⟨n, hn⟩ := hp
  exact g_loop (G := fun s => mz_G (d, mz_X0 L xs, none, [], mk_440, 2, Q) 0 mk_440 [(0, .ref 232)] [] false (mz_k S R s b t)) (C := C0) (fun C2 hc hx s hP hC => cb_440_0 hd hS hR  s hr hc hx hP hC) n (N) hn hC
theorem cs_440 (hd : 2 ≤ d) (hS : mz_extR S 342) (hR : mz_rok R 342)  (N : mz_N) (hp : cp_440_0 N) (hq : Q (.inl none) (mz_k S R (cf_440_0 N) b t)) : mz_Ed (mz_X0 L xs) d 440 [.ref 232] (mz_k S R N b t) Q :=
  by
  refine g_in mzq_440 (Nat.le_of_ble_eq_true rfl) (Nat.le_of_ble_eq_true rfl) (Nat.le_trans (Nat.le_of_ble_eq_true rfl) hd) ?_
  refine g_weak ?_ (g_cl (cg_440_0 (d := d - 1) (by omega) hS hR N (C0 := fun z => Q (.inl none) (mz_k S R z b t)) (fun _ h => h) hp hq))
  exact ⟨rfl, trivial⟩
/-! 446 KeptHouseModel.nameOf ()I -/
theorem ms_446_0 : mz_sf mk_446 0 = mk_446 := mz_sf_zero _
theorem ms_446_20 : mz_sf mk_446 20 = mt_446_20 := mz_sf_add ms_446_0 (t := 20) rfl rfl
theorem ms_446_42 : mz_sf mk_446 42 = mt_446_42 := mz_sf_add ms_446_20 (t := 22) rfl rfl
theorem ms_446_63 : mz_sf mk_446 63 = mt_446_63 := mz_sf_add ms_446_42 (t := 21) rfl rfl
theorem ms_446_67 : mz_sf mk_446 67 = mt_446_67 := mz_sf_add ms_446_63 (t := 4) rfl rfl
theorem ms_446_80 : mz_sf mk_446 80 = mt_446_80 := mz_sf_add ms_446_67 (t := 13) rfl rfl
theorem ms_446_93 : mz_sf mk_446 93 = mt_446_93 := mz_sf_add ms_446_80 (t := 13) rfl rfl
theorem ms_446_106 : mz_sf mk_446 106 = mt_446_106 := mz_sf_add ms_446_93 (t := 13) rfl rfl
theorem ms_446_107 : mz_sf mk_446 107 = mt_446_107 := mz_sf_add ms_446_106 (t := 1) rfl rfl
theorem ms_446_108 : mz_sf mk_446 108 = mt_446_108 := mz_sf_add ms_446_107 (t := 1) rfl rfl
theorem ms_446_115 : mz_sf mk_446 115 = mt_446_115 := mz_sf_add ms_446_108 (t := 7) rfl rfl
theorem ms_446_227 : mz_sf mk_446 227 = mt_446_227 := mz_sf_add ms_446_115 (t := 112) rfl rfl
theorem ms_446_230 : mz_sf mk_446 230 = mt_446_230 := mz_sf_add ms_446_227 (t := 3) rfl rfl
theorem ms_446_233 : mz_sf mk_446 233 = mt_446_233 := mz_sf_add ms_446_230 (t := 3) rfl rfl
theorem ms_446_236 : mz_sf mk_446 236 = mt_446_236 := mz_sf_add ms_446_233 (t := 3) rfl rfl
theorem ms_446_239 : mz_sf mk_446 239 = mt_446_239 := mz_sf_add ms_446_236 (t := 3) rfl rfl
theorem ms_446_242 : mz_sf mk_446 242 = mt_446_242 := mz_sf_add ms_446_239 (t := 3) rfl rfl
theorem ms_446_245 : mz_sf mk_446 245 = mt_446_245 := mz_sf_add ms_446_242 (t := 3) rfl rfl
theorem ms_446_248 : mz_sf mk_446 248 = mt_446_248 := mz_sf_add ms_446_245 (t := 3) rfl rfl
theorem ms_446_251 : mz_sf mk_446 251 = mt_446_251 := mz_sf_add ms_446_248 (t := 3) rfl rfl
theorem ms_446_254 : mz_sf mk_446 254 = mt_446_254 := mz_sf_add ms_446_251 (t := 3) rfl rfl
theorem ms_446_257 : mz_sf mk_446 257 = mt_446_257 := mz_sf_add ms_446_254 (t := 3) rfl rfl
theorem ms_446_260 : mz_sf mk_446 260 = mt_446_260 := mz_sf_add ms_446_257 (t := 3) rfl rfl
theorem ms_446_263 : mz_sf mk_446 263 = mt_446_263 := mz_sf_add ms_446_260 (t := 3) rfl rfl
set_option maxRecDepth 100000 in
theorem mzq_446 : mz_PG0 446 = some (12, ⟨"KeptHouseModel", "nameOf", "()I"⟩, prog_14_method_51_code, 4, some .int, [], mk_446, []) := rfl
theorem cg_446_108 (hd : 1 ≤ d) (hS : mz_extR S 342) (hR : mz_rok R 342)  (v1 : Int32) (v2 : Int32) (N : mz_N) {C0 : (Int32) → Prop} (hr : ∀ (w : Int32), C0 w → Q (.inl (some (.int w))) (mz_k S R N b t)) (hp : cp_446_108 v1 v2 N) (hC : C0 (cf_446_108 v1 v2 N)) : mz_G (d, mz_X0 L xs, some .int, [], mk_446, 4, Q) 108 mt_446_108 [(1, .int v1), (2, .int v2)] [] false (mz_k S R N b t) := by
  unfold cf_446_108 at hC
  unfold cp_446_108 at hp
  refine g_iload_n rfl (g_iconst mzi_1 ?_)
  refine g_iceq (tg := 115) rfl ms_446_115 hC (fun h1 hC => ?_) (fun h1 hC => ?_)
  · refine g_iload_n rfl ?_
    refine mz_cs hC (fun h2 hC => ?_) (fun h2 hC => ?_)
    · refine g_br (tg := 227) (by rw [h2]; rfl) ms_446_227 ?_
      refine g_bipush mzb_11 ?_
      exact g_iret rfl (hr _ hC)
    · refine mz_cs hC (fun h3 hC => ?_) (fun h3 hC => ?_)
      · refine g_br (tg := 263) (by rw [h3]; rfl) ms_446_263 ?_
        refine g_iconst mzi_m1 ?_
        exact g_iret rfl (hr _ hC)
      · refine mz_cs hC (fun h4 hC => ?_) (fun h4 hC => ?_)
        · refine g_br (tg := 263) (by rw [h4]; rfl) ms_446_263 ?_
          refine g_iconst mzi_m1 ?_
          exact g_iret rfl (hr _ hC)
        · refine mz_cs hC (fun h5 hC => ?_) (fun h5 hC => ?_)
          · refine g_br (tg := 257) (by rw [h5]; rfl) ms_446_257 ?_
            refine g_bipush mzb_51 ?_
            exact g_iret rfl (hr _ hC)
          · refine mz_cs hC (fun h6 hC => ?_) (fun h6 hC => ?_)
            · refine g_br (tg := 242) (by rw [h6]; rfl) ms_446_242 ?_
              refine g_bipush mzb_46 ?_
              exact g_iret rfl (hr _ hC)
            · refine mz_cs hC (fun h7 hC => ?_) (fun h7 hC => ?_)
              · refine g_br (tg := 263) (by rw [h7]; rfl) ms_446_263 ?_
                refine g_iconst mzi_m1 ?_
                exact g_iret rfl (hr _ hC)
              · refine mz_cs hC (fun h8 hC => ?_) (fun h8 hC => ?_)
                · refine g_br (tg := 248) (by rw [h8]; rfl) ms_446_248 ?_
                  refine g_bipush mzb_48 ?_
                  exact g_iret rfl (hr _ hC)
                · refine mz_cs hC (fun h9 hC => ?_) (fun h9 hC => ?_)
                  · refine g_br (tg := 263) (by rw [h9]; rfl) ms_446_263 ?_
                    refine g_iconst mzi_m1 ?_
                    exact g_iret rfl (hr _ hC)
                  · refine mz_cs hC (fun h10 hC => ?_) (fun h10 hC => ?_)
                    · refine g_br (tg := 263) (by rw [h10]; rfl) ms_446_263 ?_
                      refine g_iconst mzi_m1 ?_
                      exact g_iret rfl (hr _ hC)
                    · refine mz_cs hC (fun h11 hC => ?_) (fun h11 hC => ?_)
                      · refine g_br (tg := 254) (by rw [h11]; rfl) ms_446_254 ?_
                        refine g_bipush mzb_50 ?_
                        exact g_iret rfl (hr _ hC)
                      · refine mz_cs hC (fun h12 hC => ?_) (fun h12 hC => ?_)
                        · refine g_brn (tg := 224) (by rw [h12]; rfl) (by decide) rfl ?_
                          refine g_bipush mzb_10 ?_
                          exact g_iret rfl (hr _ hC)
                        · refine mz_cs hC (fun h13 hC => ?_) (fun h13 hC => ?_)
                          · refine g_br (tg := 260) (by rw [h13]; rfl) ms_446_260 ?_
                            refine g_bipush mzb_52 ?_
                            exact g_iret rfl (hr _ hC)
                          · refine mz_cs hC (fun h14 hC => ?_) (fun h14 hC => ?_)
                            · refine g_br (tg := 263) (by rw [h14]; rfl) ms_446_263 ?_
                              refine g_iconst mzi_m1 ?_
                              exact g_iret rfl (hr _ hC)
                            · refine mz_cs hC (fun h15 hC => ?_) (fun h15 hC => ?_)
                              · refine g_br (tg := 245) (by rw [h15]; rfl) ms_446_245 ?_
                                refine g_bipush mzb_47 ?_
                                exact g_iret rfl (hr _ hC)
                              · refine mz_cs hC (fun h16 hC => ?_) (fun h16 hC => ?_)
                                · refine g_br (tg := 230) (by rw [h16]; rfl) ms_446_230 ?_
                                  refine g_bipush mzb_12 ?_
                                  exact g_iret rfl (hr _ hC)
                                · refine mz_cs hC (fun h17 hC => ?_) (fun h17 hC => ?_)
                                  · refine g_br (tg := 263) (by rw [h17]; rfl) ms_446_263 ?_
                                    refine g_iconst mzi_m1 ?_
                                    exact g_iret rfl (hr _ hC)
                                  · refine mz_cs hC (fun h18 hC => ?_) (fun h18 hC => ?_)
                                    · refine g_br (tg := 236) (by rw [h18]; rfl) ms_446_236 ?_
                                      refine g_bipush mzb_14 ?_
                                      exact g_iret rfl (hr _ hC)
                                    · refine mz_cs hC (fun h19 hC => ?_) (fun h19 hC => ?_)
                                      · refine g_br (tg := 263) (by rw [h19]; rfl) ms_446_263 ?_
                                        refine g_iconst mzi_m1 ?_
                                        exact g_iret rfl (hr _ hC)
                                      · refine mz_cs hC (fun h20 hC => ?_) (fun h20 hC => ?_)
                                        · refine g_br (tg := 251) (by rw [h20]; rfl) ms_446_251 ?_
                                          refine g_bipush mzb_49 ?_
                                          exact g_iret rfl (hr _ hC)
                                        · refine mz_cs hC (fun h21 hC => ?_) (fun h21 hC => ?_)
                                          · refine g_br (tg := 263) (by rw [h21]; rfl) ms_446_263 ?_
                                            refine g_iconst mzi_m1 ?_
                                            exact g_iret rfl (hr _ hC)
                                          · refine mz_cs hC (fun h22 hC => ?_) (fun h22 hC => ?_)
                                            · refine g_br (tg := 233) (by rw [h22]; rfl) ms_446_233 ?_
                                              refine g_bipush mzb_13 ?_
                                              exact g_iret rfl (hr _ hC)
                                            · refine mz_cs hC (fun h23 hC => ?_) (fun h23 hC => ?_)
                                              · refine g_br (tg := 263) (by rw [h23]; rfl) ms_446_263 ?_
                                                refine g_iconst mzi_m1 ?_
                                                exact g_iret rfl (hr _ hC)
                                              · refine mz_cs hC (fun h24 hC => ?_) (fun h24 hC => ?_)
                                                · refine g_br (tg := 239) (by rw [h24]; rfl) ms_446_239 ?_
                                                  refine g_bipush mzb_15 ?_
                                                  exact g_iret rfl (hr _ hC)
                                                · refine g_br (tg := 263) ((mz_tsw_d (l := [98, 99, 100, 101, 102, 103, 104, 105, 106, 107, 108, 109, 110, 111, 112, 113, 114, 115, 116, 117, 118, 119, 120]) (mz_rng 98 22) ⟨h2, h3, h4, h5, h6, h7, h8, h9, h10, h11, h12, h13, h14, h15, h16, h17, h18, h19, h20, h21, h22, h23, h24, trivial⟩).trans (mz_tg_t rfl)) ms_446_263 ?_
                                                  refine g_iconst mzi_m1 ?_
                                                  exact g_iret rfl (hr _ hC)
  · refine g_iconst mzi_m1 ?_
    exact g_iret rfl (hr _ hC)
theorem cg_446_0 (hd : 1 ≤ d) (hS : mz_extR S 342) (hR : mz_rok R 342)  (N : mz_N) {C0 : (Int32) → Prop} (hr : ∀ (w : Int32), C0 w → Q (.inl (some (.int w))) (mz_k S R N b t)) (hp : cp_446_0 N) (hC : C0 (cf_446_0 N)) : mz_G (d, mz_X0 L xs, some .int, [], mk_446, 4, Q) 0 mk_446 [(0, .ref 232)] [] true (mz_k S R N b t) := by
  unfold cf_446_0 at hC
  unfold cp_446_0 at hp
  refine g_aload_n rfl (g_getR (mz_at hS (Nat.le_of_ble_eq_true rfl) mzcS_232) mzcf_12_146 (mz_rb hR (Nat.le_of_ble_eq_true rfl) rfl mzcR_232_146) (g_aload_n rfl (g_getI (mz_at hS (Nat.le_of_ble_eq_true rfl) mzcS_232) mzcf_12_150 ?_)))
  obtain ⟨h1, hp⟩ := hp
  refine g_iald hS.1 (mz_at hS (Nat.le_of_ble_eq_true rfl) mzcS_338) h1 (g_istore_n (Nat.le_of_ble_eq_true rfl) rfl (g_aload_n rfl (g_getI (mz_at hS (Nat.le_of_ble_eq_true rfl) mzcS_232) mzcf_12_151 (g_aload_n rfl (g_getI (mz_at hS (Nat.le_of_ble_eq_true rfl) mzcS_232) mzcf_12_150 (g_isub (g_istore_n (Nat.le_of_ble_eq_true rfl) rfl ?_)))))))
  refine g_iload_n rfl (g_iconst mzi_2 ?_)
  refine g_icne (tg := 108) rfl ms_446_108 hC (fun h2 hC => ?_) (fun h2 hC => ?_)
  · have hp := hp.1 h2
    refine g_aload_n rfl (g_getR (mz_at hS (Nat.le_of_ble_eq_true rfl) mzcS_232) mzcf_12_146 (mz_rb hR (Nat.le_of_ble_eq_true rfl) rfl mzcR_232_146) (g_aload_n rfl (g_getI (mz_at hS (Nat.le_of_ble_eq_true rfl) mzcS_232) mzcf_12_150 (g_iconst mzi_1 (g_iadd ?_)))))
    obtain ⟨h3, hp⟩ := hp
    refine g_iald hS.1 (mz_at hS (Nat.le_of_ble_eq_true rfl) mzcS_338) h3 ?_
    refine g_s1v (Nat.le_of_ble_eq_true rfl) (fun _ hq => cs_442 (Nat.le_trans (Nat.le_of_ble_eq_true rfl) hd) (hS.le (Nat.le_of_ble_eq_true rfl)) (hR.le (Nat.le_of_ble_eq_true rfl))  (mz_gI N 338 ((N.1 232 150) + 1)) trivial hq) ?_
    refine g_zeq (tg := 108) rfl ms_446_108 hC (fun h5 hC => ?_) (fun h5 hC => ?_)
    · have hp := hp.1 h5
      refine g_aload_n rfl (g_getR (mz_at hS (Nat.le_of_ble_eq_true rfl) mzcS_232) mzcf_12_146 (mz_rb hR (Nat.le_of_ble_eq_true rfl) rfl mzcR_232_146) (g_aload_n rfl (g_getI (mz_at hS (Nat.le_of_ble_eq_true rfl) mzcS_232) mzcf_12_150 (g_iconst mzi_1 (g_iadd ?_)))))
      have h6 := hp
      refine g_iald hS.1 (mz_at hS (Nat.le_of_ble_eq_true rfl) mzcS_338) h6 (g_bipush mzb_48 (g_isub (g_istore_n (Nat.le_of_ble_eq_true rfl) rfl (g_iload_n rfl (g_bipush mzb_115 ?_)))))
      refine g_icne (tg := 67) rfl ms_446_67 hC (fun h7 hC => ?_) (fun h7 hC => ?_)
      · refine g_iload_n rfl (g_goto (tg := 107) rfl ms_446_107 ?_)
        exact g_iret rfl (hr _ hC)
      · refine g_iload_n rfl (g_bipush mzb_119 ?_)
        refine g_icne (tg := 80) rfl ms_446_80 hC (fun h8 hC => ?_) (fun h8 hC => ?_)
        · refine g_bipush mzb_16 (g_iload_n rfl (g_iadd (g_goto (tg := 107) rfl ms_446_107 ?_)))
          exact g_iret rfl (hr _ hC)
        · refine g_iload_n rfl (g_bipush mzb_99 ?_)
          refine g_icne (tg := 93) rfl ms_446_93 hC (fun h9 hC => ?_) (fun h9 hC => ?_)
          · refine g_bipush mzb_26 (g_iload_n rfl (g_iadd (g_goto (tg := 107) rfl ms_446_107 ?_)))
            exact g_iret rfl (hr _ hC)
          · refine g_iload_n rfl (g_bipush mzb_100 ?_)
            refine g_icne (tg := 106) rfl ms_446_106 hC (fun h10 hC => ?_) (fun h10 hC => ?_)
            · refine g_bipush mzb_36 (g_iload_n rfl (g_iadd (g_goto (tg := 107) rfl ms_446_107 ?_)))
              exact g_iret rfl (hr _ hC)
            · refine g_iconst mzi_m1 ?_
              exact g_iret rfl (hr _ hC)
    · have hp := hp.2 h5
      refine g_weak ?_ (g_cl (cg_446_108 hd hS hR (mz_gI N 338 (N.1 232 150)) ((N.1 232 151) - (N.1 232 150)) N hr hp hC))
      exact ⟨rfl, rfl, trivial⟩
  · have hp := hp.2 h2
    refine g_weak ?_ (g_cl (cg_446_108 hd hS hR (mz_gI N 338 (N.1 232 150)) ((N.1 232 151) - (N.1 232 150)) N hr hp hC))
    exact ⟨rfl, rfl, trivial⟩
theorem cs_446 (hd : 2 ≤ d) (hS : mz_extR S 342) (hR : mz_rok R 342)  (N : mz_N) (hp : cp_446_0 N) (hq : Q (.inl (some (.int (cf_446_0 N)))) (mz_k S R N b t)) : mz_Ed (mz_X0 L xs) d 446 [.ref 232] (mz_k S R N b t) Q :=
  by
  refine g_in mzq_446 (Nat.le_of_ble_eq_true rfl) (Nat.le_of_ble_eq_true rfl) (Nat.le_trans (Nat.le_of_ble_eq_true rfl) hd) ?_
  refine g_weak ?_ (cg_446_0 (d := d - 1) (by omega) hS hR N (C0 := fun z => Q (.inl (some (.int z))) (mz_k S R N b t)) (fun _ h => h) hp hq)
  exact ⟨rfl, trivial⟩
/-! 449 KeptHouseModel.put (II)V -/
theorem ms_449_0 : mz_sf mk_449 0 = mk_449 := mz_sf_zero _
theorem ms_449_20 : mz_sf mk_449 20 = mt_449_20 := mz_sf_add ms_449_0 (t := 20) rfl rfl
set_option maxRecDepth 100000 in
theorem mzq_449 : mz_PG0 449 = some (12, ⟨"KeptHouseModel", "put", "(II)V"⟩, prog_14_method_52_code, 3, none, [], mk_449, []) := rfl
theorem cg_449_20 (hd : 0 ≤ d) (hS : mz_extR S 342) (hR : mz_rok R 342)  (N : mz_N) {C0 : (mz_N) → Prop} (hr : ∀ (N2 : mz_N), C0 N2 → Q (.inl none) (mz_k S R N2 b t)) (hp : cp_449_20 N) (hC : C0 (cf_449_20 N)) : mz_G (d, mz_X0 L xs, none, [], mk_449, 3, Q) 20 mt_449_20 [(0, .ref 232)] [] false (mz_k S R N b t) := by
  unfold cf_449_20 at hC
  unfold cp_449_20 at hp
  refine g_aload_n rfl (g_dup rfl (g_getI (mz_at hS (Nat.le_of_ble_eq_true rfl) mzcS_232) mzcf_12_31 (g_iconst mzi_1 (g_iadd (g_putI (mz_at hS (Nat.le_of_ble_eq_true rfl) mzcS_232) mzcf_12_31 ?_)))))
  exact g_vret rfl (hr _ hC)
theorem cg_449_0 (hd : 0 ≤ d) (hS : mz_extR S 342) (hR : mz_rok R 342)  (v1 : Int32) (v2 : Int32) (N : mz_N) {C0 : (mz_N) → Prop} (hr : ∀ (N2 : mz_N), C0 N2 → Q (.inl none) (mz_k S R N2 b t)) (hp : cp_449_0 v1 v2 N) (hC : C0 (cf_449_0 v1 v2 N)) : mz_G (d, mz_X0 L xs, none, [], mk_449, 3, Q) 0 mk_449 [(0, .ref 232), (1, .int v1), (2, .int v2)] [] true (mz_k S R N b t) := by
  unfold cf_449_0 at hC
  unfold cp_449_0 at hp
  refine g_aload_n rfl (g_getR (mz_at hS (Nat.le_of_ble_eq_true rfl) mzcS_232) mzcf_12_29 (mz_rb hR (Nat.le_of_ble_eq_true rfl) rfl mzcR_232_29) (g_aload_n rfl (g_getI (mz_at hS (Nat.le_of_ble_eq_true rfl) mzcS_232) mzcf_12_31 (g_iload_n rfl ?_))))
  obtain ⟨h1, hp⟩ := hp
  refine g_iast (mz_at hS (Nat.le_of_ble_eq_true rfl) mzcS_253) h1 (g_aload_n rfl (g_getR (mz_at hS (Nat.le_of_ble_eq_true rfl) mzcS_232) mzcf_12_30 (mz_rb hR (Nat.le_of_ble_eq_true rfl) rfl mzcR_232_30) (g_aload_n rfl (g_getI (mz_at hS (Nat.le_of_ble_eq_true rfl) mzcS_232) mzcf_12_31 (g_iload_n rfl ?_)))))
  obtain ⟨h2, hp⟩ := hp
  refine g_iast (mz_at hS (Nat.le_of_ble_eq_true rfl) mzcS_254) h2 ?_
  refine g_weak ?_ (g_cl (cg_449_20 hd hS hR (mz_wI (mz_wI N 253 (N.1 232 31) v1) 254 ((mz_wI N 253 (N.1 232 31) v1).1 232 31) v2) hr hp hC))
  exact ⟨rfl, trivial⟩
theorem cs_449 (hd : 1 ≤ d) (hS : mz_extR S 342) (hR : mz_rok R 342)  (v1 : Int32) (v2 : Int32) (N : mz_N) (hp : cp_449_0 v1 v2 N) (hq : Q (.inl none) (mz_k S R (cf_449_0 v1 v2 N) b t)) : mz_Ed (mz_X0 L xs) d 449 [.ref 232, .int v1, .int v2] (mz_k S R N b t) Q :=
  by
  refine g_in mzq_449 (Nat.le_of_ble_eq_true rfl) (Nat.le_of_ble_eq_true rfl) (Nat.le_trans (Nat.le_of_ble_eq_true rfl) hd) ?_
  refine g_weak ?_ (cg_449_0 (d := d - 1) (by omega) hS hR v1 v2 N (C0 := fun z => Q (.inl none) (mz_k S R z b t)) (fun _ h => h) hp hq)
  exact ⟨rfl, rfl, rfl, trivial⟩
/-! 451 KeptHouseModel.top ()I -/
theorem ms_451_0 : mz_sf mk_451 0 = mk_451 := mz_sf_zero _
theorem ms_451_11 : mz_sf mk_451 11 = mt_451_11 := mz_sf_add ms_451_0 (t := 11) rfl rfl
theorem ms_451_22 : mz_sf mk_451 22 = mt_451_22 := mz_sf_add ms_451_11 (t := 11) rfl rfl
set_option maxRecDepth 100000 in
theorem mzq_451 : mz_PG0 451 = some (12, ⟨"KeptHouseModel", "top", "()I"⟩, prog_14_method_55_code, 1, some .int, [], mk_451, []) := rfl
theorem cg_451_0 (hd : 0 ≤ d) (hS : mz_extR S 342) (hR : mz_rok R 342)  (N : mz_N) {C0 : (Int32) → Prop} (hr : ∀ (w : Int32), C0 w → Q (.inl (some (.int w))) (mz_k S R N b t)) (hp : cp_451_0 N) (hC : C0 (cf_451_0 N)) : mz_G (d, mz_X0 L xs, some .int, [], mk_451, 1, Q) 0 mk_451 [(0, .ref 232)] [] true (mz_k S R N b t) := by
  unfold cf_451_0 at hC
  unfold cp_451_0 at hp
  refine g_aload_n rfl (g_getI (mz_at hS (Nat.le_of_ble_eq_true rfl) mzcS_232) mzcf_12_156 ?_)
  refine g_ifne (tg := 11) rfl ms_451_11 hC (fun h1 hC => ?_) (fun h1 hC => ?_)
  · have hp := hp.1 h1
    refine g_iconst mzi_0 (g_goto (tg := 22) rfl ms_451_22 ?_)
    exact g_iret rfl (hr _ hC)
  · have hp := hp.2 h1
    refine g_aload_n rfl (g_getR (mz_at hS (Nat.le_of_ble_eq_true rfl) mzcS_232) mzcf_12_155 (mz_rb hR (Nat.le_of_ble_eq_true rfl) rfl mzcR_232_155) (g_aload_n rfl (g_getI (mz_at hS (Nat.le_of_ble_eq_true rfl) mzcS_232) mzcf_12_156 (g_iconst mzi_1 (g_isub ?_)))))
    have h2 := hp
    refine g_iald hS.1 (mz_at hS (Nat.le_of_ble_eq_true rfl) mzcS_339) h2 ?_
    exact g_iret rfl (hr _ hC)
theorem cs_451 (hd : 1 ≤ d) (hS : mz_extR S 342) (hR : mz_rok R 342)  (N : mz_N) (hp : cp_451_0 N) (hq : Q (.inl (some (.int (cf_451_0 N)))) (mz_k S R N b t)) : mz_Ed (mz_X0 L xs) d 451 [.ref 232] (mz_k S R N b t) Q :=
  by
  refine g_in mzq_451 (Nat.le_of_ble_eq_true rfl) (Nat.le_of_ble_eq_true rfl) (Nat.le_trans (Nat.le_of_ble_eq_true rfl) hd) ?_
  refine g_weak ?_ (cg_451_0 (d := d - 1) (by omega) hS hR N (C0 := fun z => Q (.inl (some (.int z))) (mz_k S R N b t)) (fun _ h => h) hp hq)
  exact ⟨rfl, trivial⟩
end Fn22
