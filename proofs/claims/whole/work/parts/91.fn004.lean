/-! THE FUNCTIONS: written by program: each method comes to its function. -/
section Fn4
variable {L : Nat} {xs : Nat → Int32} {d : Nat} {S : mz_S} {R : Nat → Nat → Option Nat} {Q : mz_Q} {N : mz_N} {b : Bool} {t : Nat}
/-! 17 KeptHouse$Keeper.beginAnew ()V -/
theorem ms_17_0 : mz_sf mk_17 0 = mk_17 := mz_sf_zero _
theorem ms_17_28 : mz_sf mk_17 28 = mt_17_28 := mz_sf_add ms_17_0 (t := 28) rfl rfl
theorem ms_17_56 : mz_sf mk_17 56 = mt_17_56 := mz_sf_add ms_17_28 (t := 28) rfl rfl
theorem ms_17_76 : mz_sf mk_17 76 = mt_17_76 := mz_sf_add ms_17_56 (t := 20) rfl rfl
theorem ms_17_119 : mz_sf mk_17 119 = mt_17_119 := mz_sf_add ms_17_76 (t := 43) rfl rfl
theorem ms_17_125 : mz_sf mk_17 125 = mt_17_125 := mz_sf_add ms_17_119 (t := 6) rfl rfl
theorem ms_17_151 : mz_sf mk_17 151 = mt_17_151 := mz_sf_add ms_17_125 (t := 26) rfl rfl
theorem ms_17_170 : mz_sf mk_17 170 = mt_17_170 := mz_sf_add ms_17_151 (t := 19) rfl rfl
set_option maxRecDepth 100000 in
theorem mzq_17 : mz_PG0 17 = some (4, ⟨"KeptHouse$Keeper", "beginAnew", "()V"⟩, prog_6_method_2_code, 2, none, [], mk_17, []) := rfl
theorem cg_17_119 (hd : 6 ≤ d) (hS : mz_extR S 232) (hR : mz_rok R 232)  (v1 : Int32) (N : mz_N) (b : Bool) {C0 : (mz_N × Bool) → Prop} (hr : ∀ (N2 : mz_N) (b2 : Bool), C0 (N2, b2) → Q (.inl none) (mz_k S R N2 b2 t)) {C1 : ((Int32 × mz_N) ⊕ (mz_N × Bool)) → Prop} (hc1 : ∀ s2, C1 (.inl s2) → mz_G (d, mz_X0 L xs, none, [], mk_17, 2, Q) 76 mt_17_76 [(0, .ref 1), (1, .int s2.1)] [] false (mz_k S R s2.2 b t)) (hx1 : ∀ z, C1 (.inr z) → C0 z) (hp : cp_17_119 v1 N b) (hC : C1 (cf_17_119 v1 N b)) : mz_G (d, mz_X0 L xs, none, [], mk_17, 2, Q) 119 mt_17_119 [(0, .ref 1), (1, .int v1)] [] false (mz_k S R N b t) := by
  unfold cf_17_119 at hC
  unfold cp_17_119 at hp
  refine g_iinc rfl mzi_1 (Nat.le_of_ble_eq_true rfl) rfl (g_goto (tg := 76) rfl ms_17_76 ?_)
  refine g_weak ?_ (g_cl (hc1 ((v1 + 1), N) hC))
  exact ⟨rfl, rfl, trivial⟩
theorem cb_17_151 (hd : 6 ≤ d) (hS : mz_extR S 232) (hR : mz_rok R 232)  (b : Bool) (s : Int32 × mz_N) {C0 : (mz_N × Bool) → Prop} (hr : ∀ (N2 : mz_N) (b2 : Bool), C0 (N2, b2) → Q (.inl none) (mz_k S R N2 b2 t)) {C1 : ((Int32 × mz_N) ⊕ (mz_N × Bool)) → Prop} (hc1 : ∀ s2, C1 (.inl s2) → mz_G (d, mz_X0 L xs, none, [], mk_17, 2, Q) 151 mt_17_151 [(0, .ref 1), (1, .int s2.1)] [] false (mz_k S R s2.2 b t)) (hx1 : ∀ z, C1 (.inr z) → C0 z) (hp : cd_17_151 b s) (hC : C1 (cq_17_151 b s)) : mz_G (d, mz_X0 L xs, none, [], mk_17, 2, Q) 151 mt_17_151 [(0, .ref 1), (1, .int s.1)] [] false (mz_k S R s.2 b t) := by
  unfold cq_17_151 at hC
  unfold cd_17_151 at hp
  refine g_iload_n rfl (g_iconst mzi_3 ?_)
  refine g_icge (tg := 170) rfl ms_17_170 hC (fun h1 hC => ?_) (fun h1 hC => ?_)
  · have hp := hp.1 h1
    refine g_aload_n rfl (g_getR (mz_at hS (Nat.le_of_ble_eq_true rfl) mzcS_1) mzcf_4_0 (mz_rb hR (Nat.le_of_ble_eq_true rfl) rfl mzcR_1_0) (g_iload_n rfl ?_))
    have h2 := hp
    refine g_v2n (Nat.le_of_ble_eq_true rfl) (mz_at hS (Nat.le_of_ble_eq_true rfl) mzcS_2) (fun _ hq => cs_90 (Nat.le_trans (Nat.le_of_ble_eq_true rfl) hd) (hS.le (Nat.le_of_ble_eq_true rfl)) (hR.le (Nat.le_of_ble_eq_true rfl))  s.1 s.2 h2 hq) (g_iinc rfl mzi_1 (Nat.le_of_ble_eq_true rfl) rfl (g_goto (tg := 151) rfl ms_17_151 ?_))
    refine g_weak ?_ (g_cl (hc1 ((s.1 + 1), (cf_90_0 s.1 s.2)) hC))
    exact ⟨rfl, rfl, trivial⟩
  · have hp := hp.2 h1
    exact g_vret rfl (hr _ _ (hx1 _ hC))
theorem cg_17_151 (hd : 6 ≤ d) (hS : mz_extR S 232) (hR : mz_rok R 232)  (v1 : Int32) (N : mz_N) (b : Bool) {C0 : (mz_N × Bool) → Prop} (hr : ∀ (N2 : mz_N) (b2 : Bool), C0 (N2, b2) → Q (.inl none) (mz_k S R N2 b2 t)) (hp : cp_17_151 v1 N b) (hC : C0 (cf_17_151 v1 N b)) : mz_G (d, mz_X0 L xs, none, [], mk_17, 2, Q) 151 mt_17_151 [(0, .ref 1), (1, .int v1)] [] false (mz_k S R N b t) := by
  obtain ⟨n, hn⟩ := hp
  exact g_loop (G := fun s => mz_G (d, mz_X0 L xs, none, [], mk_17, 2, Q) 151 mt_17_151 [(0, .ref 1), (1, .int s.1)] [] false (mz_k S R s.2 b t)) (C := C0) (fun C2 hc hx s hP hC => cb_17_151 hd hS hR b s hr hc hx hP hC) n (v1, N) hn hC
theorem cb_17_76 (hd : 6 ≤ d) (hS : mz_extR S 232) (hR : mz_rok R 232)  (b : Bool) (s : Int32 × mz_N) {C0 : (mz_N × Bool) → Prop} (hr : ∀ (N2 : mz_N) (b2 : Bool), C0 (N2, b2) → Q (.inl none) (mz_k S R N2 b2 t)) {C1 : ((Int32 × mz_N) ⊕ (mz_N × Bool)) → Prop} (hc1 : ∀ s2, C1 (.inl s2) → mz_G (d, mz_X0 L xs, none, [], mk_17, 2, Q) 76 mt_17_76 [(0, .ref 1), (1, .int s2.1)] [] false (mz_k S R s2.2 b t)) (hx1 : ∀ z, C1 (.inr z) → C0 z) (hp : cd_17_76 b s) (hC : C1 (cq_17_76 b s)) : mz_G (d, mz_X0 L xs, none, [], mk_17, 2, Q) 76 mt_17_76 [(0, .ref 1), (1, .int s.1)] [] false (mz_k S R s.2 b t) := by
  unfold cq_17_76 at hC
  unfold cd_17_76 at hp
  refine g_iload_n rfl (g_sipush mzs_135 ?_)
  refine g_icge (tg := 125) rfl ms_17_125 hC (fun h1 hC => ?_) (fun h1 hC => ?_)
  · have hp := hp.1 h1
    refine g_aload_n rfl (g_getR (mz_at hS (Nat.le_of_ble_eq_true rfl) mzcS_1) mzcf_4_8 (mz_rb hR (Nat.le_of_ble_eq_true rfl) rfl mzcR_1_8) (g_getR (mz_at hS (Nat.le_of_ble_eq_true rfl) mzcS_219) mzcf_8_2 (mz_rb hR (Nat.le_of_ble_eq_true rfl) rfl mzcR_219_2) (g_iload_n rfl ?_)))
    obtain ⟨h2, hp⟩ := hp
    refine g_iald hS.1 (mz_at hS (Nat.le_of_ble_eq_true rfl) mzcS_224) h2 (g_iconst mzi_1 ?_)
    refine g_icne (tg := 119) rfl ms_17_119 hC (fun h3 hC => ?_) (fun h3 hC => ?_)
    · have hp := hp.1 h3
      refine g_aload_n rfl (g_iload_n rfl ?_)
      obtain ⟨h4, hp⟩ := hp
      refine g_s1v (Nat.le_of_ble_eq_true rfl) (fun _ hq => cs_55 (Nat.le_trans (Nat.le_of_ble_eq_true rfl) hd) (hS.le (Nat.le_of_ble_eq_true rfl)) (hR.le (Nat.le_of_ble_eq_true rfl))  s.1 h4 hq) (g_iload_n rfl ?_)
      obtain ⟨h5, hp⟩ := hp
      refine g_s1v (Nat.le_of_ble_eq_true rfl) (fun _ hq => cs_56 (Nat.le_trans (Nat.le_of_ble_eq_true rfl) hd) (hS.le (Nat.le_of_ble_eq_true rfl)) (hR.le (Nat.le_of_ble_eq_true rfl))  s.1 h5 hq) (g_aload_n rfl (g_getR (mz_at hS (Nat.le_of_ble_eq_true rfl) mzcS_1) mzcf_4_8 (mz_rb hR (Nat.le_of_ble_eq_true rfl) rfl mzcR_1_8) (g_getR (mz_at hS (Nat.le_of_ble_eq_true rfl) mzcS_219) mzcf_8_1 (mz_rb hR (Nat.le_of_ble_eq_true rfl) rfl mzcR_219_1) (g_iload_n rfl (g_bipush mzb_28 (g_imul ?_))))))
      obtain ⟨h6, hp⟩ := hp
      refine g_v5n (Nat.le_of_ble_eq_true rfl) (mz_at hS (Nat.le_of_ble_eq_true rfl) mzcS_1) (fun _ hq => cs_57 (Nat.le_trans (Nat.le_of_ble_eq_true rfl) hd) (hS.le (Nat.le_of_ble_eq_true rfl)) (hR.le (Nat.le_of_ble_eq_true rfl))  (cf_55_0 s.1) (cf_56_0 s.1) (s.1 * 28) s.2 h6 hq) ?_
      refine g_weak ?_ (g_cl (cg_17_119 hd hS hR s.1 (cf_57_0 (cf_55_0 s.1) (cf_56_0 s.1) (s.1 * 28) s.2) b hr hc1 hx1 hp hC))
      exact ⟨rfl, rfl, trivial⟩
    · have hp := hp.2 h3
      refine g_weak ?_ (g_cl (cg_17_119 hd hS hR s.1 s.2 b hr hc1 hx1 hp hC))
      exact ⟨rfl, rfl, trivial⟩
  · have hp := hp.2 h1
    refine g_aload_n rfl (g_getR (mz_at hS (Nat.le_of_ble_eq_true rfl) mzcS_1) mzcf_4_1 (mz_rb hR (Nat.le_of_ble_eq_true rfl) rfl mzcR_1_1) (g_aload_n rfl (g_getR (mz_at hS (Nat.le_of_ble_eq_true rfl) mzcS_1) mzcf_4_8 (mz_rb hR (Nat.le_of_ble_eq_true rfl) rfl mzcR_1_8) (g_getR (mz_at hS (Nat.le_of_ble_eq_true rfl) mzcS_219) mzcf_8_1 (mz_rb hR (Nat.le_of_ble_eq_true rfl) rfl mzcR_219_1) (g_sipush mzs_728 ?_)))))
    obtain ⟨h7, hp⟩ := hp
    refine g_v3n (Nat.le_of_ble_eq_true rfl) (mz_at hS (Nat.le_of_ble_eq_true rfl) mzcS_41) (fun _ hq => cs_73 (Nat.le_trans (Nat.le_of_ble_eq_true rfl) hd) (hS.le (Nat.le_of_ble_eq_true rfl)) (hR.le (Nat.le_of_ble_eq_true rfl))  728 s.2 b h7 hq) (g_aload_n rfl (g_getR (mz_at hS (Nat.le_of_ble_eq_true rfl) mzcS_1) mzcf_4_0 (mz_rb hR (Nat.le_of_ble_eq_true rfl) rfl mzcR_1_0) ?_))
    obtain ⟨h8, hp⟩ := hp
    refine g_v1n (Nat.le_of_ble_eq_true rfl) (mz_at hS (Nat.le_of_ble_eq_true rfl) mzcS_2) (fun _ hq => cs_77 (Nat.le_trans (Nat.le_of_ble_eq_true rfl) hd) (hS.le (Nat.le_of_ble_eq_true rfl)) (hR.le (Nat.le_of_ble_eq_true rfl))  ((cf_73_0 728 s.2 b).1) h8 hq) (g_iconst mzi_0 (g_istore_n (Nat.le_of_ble_eq_true rfl) rfl ?_))
    refine g_weak ?_ (g_cl (cg_17_151 hd hS hR 0 (cf_77_0 ((cf_73_0 728 s.2 b).1)) ((cf_73_0 728 s.2 b).2) hr hp (hx1 _ hC)))
    exact ⟨rfl, rfl, trivial⟩
theorem cg_17_76 (hd : 6 ≤ d) (hS : mz_extR S 232) (hR : mz_rok R 232)  (v1 : Int32) (N : mz_N) (b : Bool) {C0 : (mz_N × Bool) → Prop} (hr : ∀ (N2 : mz_N) (b2 : Bool), C0 (N2, b2) → Q (.inl none) (mz_k S R N2 b2 t)) (hp : cp_17_76 v1 N b) (hC : C0 (cf_17_76 v1 N b)) : mz_G (d, mz_X0 L xs, none, [], mk_17, 2, Q) 76 mt_17_76 [(0, .ref 1), (1, .int v1)] [] false (mz_k S R N b t) := by
  obtain ⟨n, hn⟩ := hp
  exact g_loop (G := fun s => mz_G (d, mz_X0 L xs, none, [], mk_17, 2, Q) 76 mt_17_76 [(0, .ref 1), (1, .int s.1)] [] false (mz_k S R s.2 b t)) (C := C0) (fun C2 hc hx s hP hC => cb_17_76 hd hS hR b s hr hc hx hP hC) n (v1, N) hn hC
theorem cg_17_56 (hd : 6 ≤ d) (hS : mz_extR S 232) (hR : mz_rok R 232)  (N : mz_N) (b : Bool) {C0 : (mz_N × Bool) → Prop} (hr : ∀ (N2 : mz_N) (b2 : Bool), C0 (N2, b2) → Q (.inl none) (mz_k S R N2 b2 t)) (hp : cp_17_56 N b) (hC : C0 (cf_17_56 N b)) : mz_G (d, mz_X0 L xs, none, [], mk_17, 2, Q) 56 mt_17_56 [(0, .ref 1)] [] false (mz_k S R N b t) := by
  unfold cf_17_56 at hC
  unfold cp_17_56 at hp
  refine g_aload_n rfl (g_iconst mzi_0 (g_putI (mz_at hS (Nat.le_of_ble_eq_true rfl) mzcS_1) mzcf_4_10 (g_aload_n rfl (g_iconst mzi_0 (g_putI (mz_at hS (Nat.le_of_ble_eq_true rfl) mzcS_1) mzcf_4_12 (g_aload_n rfl (g_getR (mz_at hS (Nat.le_of_ble_eq_true rfl) mzcS_1) mzcf_4_8 (mz_rb hR (Nat.le_of_ble_eq_true rfl) rfl mzcR_1_8) ?_)))))))
  refine g_iconst mzi_m1 (g_putI (mz_at hS (Nat.le_of_ble_eq_true rfl) mzcS_219) mzcf_8_8 (g_iconst mzi_0 (g_istore_n (Nat.le_of_ble_eq_true rfl) rfl ?_)))
  refine g_weak ?_ (g_cl (cg_17_76 hd hS hR 0 (mz_pI (mz_pI (mz_pI N 1 10 0) 1 12 0) 219 8 (-1)) b hr hp hC))
  exact ⟨rfl, rfl, trivial⟩
theorem cg_17_0 (hd : 6 ≤ d) (hS : mz_extR S 232) (hR : mz_rok R 232)  (N : mz_N) (b : Bool) {C0 : (mz_N × Bool) → Prop} (hr : ∀ (N2 : mz_N) (b2 : Bool), C0 (N2, b2) → Q (.inl none) (mz_k S R N2 b2 t)) (hp : cp_17_0 N b) (hC : C0 (cf_17_0 N b)) : mz_G (d, mz_X0 L xs, none, [], mk_17, 2, Q) 0 mk_17 [(0, .ref 1)] [] true (mz_k S R N b t) := by
  unfold cf_17_0 at hC
  unfold cp_17_0 at hp
  refine g_aload_n rfl (g_getR (mz_at hS (Nat.le_of_ble_eq_true rfl) mzcS_1) mzcf_4_0 (mz_rb hR (Nat.le_of_ble_eq_true rfl) rfl mzcR_1_0) ?_)
  obtain ⟨h1, hp⟩ := hp
  refine g_v1n (Nat.le_of_ble_eq_true rfl) (mz_at hS (Nat.le_of_ble_eq_true rfl) mzcS_2) (fun _ hq => cs_18 (Nat.le_trans (Nat.le_of_ble_eq_true rfl) hd) (hS.le (Nat.le_of_ble_eq_true rfl)) (hR.le (Nat.le_of_ble_eq_true rfl))  N h1 hq) (g_aload_n rfl (g_getR (mz_at hS (Nat.le_of_ble_eq_true rfl) mzcS_1) mzcf_4_1 (mz_rb hR (Nat.le_of_ble_eq_true rfl) rfl mzcR_1_1) ?_))
  obtain ⟨h2, hp⟩ := hp
  refine g_v1n (Nat.le_of_ble_eq_true rfl) (mz_at hS (Nat.le_of_ble_eq_true rfl) mzcS_41) (fun _ hq => cs_22 (Nat.le_trans (Nat.le_of_ble_eq_true rfl) hd) (hS.le (Nat.le_of_ble_eq_true rfl)) (hR.le (Nat.le_of_ble_eq_true rfl))  (cf_18_0 N) b h2 hq) (g_aload_n rfl (g_getR (mz_at hS (Nat.le_of_ble_eq_true rfl) mzcS_1) mzcf_4_2 (mz_rb hR (Nat.le_of_ble_eq_true rfl) rfl mzcR_1_2) ?_))
  obtain ⟨h3, hp⟩ := hp
  refine g_v1n (Nat.le_of_ble_eq_true rfl) (mz_at hS (Nat.le_of_ble_eq_true rfl) mzcS_56) (fun _ hq => cs_47 (Nat.le_trans (Nat.le_of_ble_eq_true rfl) hd) (hS.le (Nat.le_of_ble_eq_true rfl)) (hR.le (Nat.le_of_ble_eq_true rfl))  (cf_22_0 (cf_18_0 N) b) h3 hq) (g_aload_n rfl (g_getR (mz_at hS (Nat.le_of_ble_eq_true rfl) mzcS_1) mzcf_4_3 (mz_rb hR (Nat.le_of_ble_eq_true rfl) rfl mzcR_1_3) ?_))
  obtain ⟨h4, hp⟩ := hp
  refine g_v1n (Nat.le_of_ble_eq_true rfl) (mz_at hS (Nat.le_of_ble_eq_true rfl) mzcS_65) (fun _ hq => cs_48 (Nat.le_trans (Nat.le_of_ble_eq_true rfl) hd) (hS.le (Nat.le_of_ble_eq_true rfl)) (hR.le (Nat.le_of_ble_eq_true rfl))  (cf_47_0 (cf_22_0 (cf_18_0 N) b)) h4 hq) (g_aload_n rfl (g_getR (mz_at hS (Nat.le_of_ble_eq_true rfl) mzcS_1) mzcf_4_4 (mz_rb hR (Nat.le_of_ble_eq_true rfl) rfl mzcR_1_4) ?_))
  obtain ⟨h5, hp⟩ := hp
  refine g_v1n (Nat.le_of_ble_eq_true rfl) (mz_at hS (Nat.le_of_ble_eq_true rfl) mzcS_81) (fun _ hq => cs_50 (Nat.le_trans (Nat.le_of_ble_eq_true rfl) hd) (hS.le (Nat.le_of_ble_eq_true rfl)) (hR.le (Nat.le_of_ble_eq_true rfl))  (cf_48_0 (cf_47_0 (cf_22_0 (cf_18_0 N) b))) h5 hq) (g_aload_n rfl (g_getR (mz_at hS (Nat.le_of_ble_eq_true rfl) mzcS_1) mzcf_4_5 (mz_rb hR (Nat.le_of_ble_eq_true rfl) rfl mzcR_1_5) ?_))
  obtain ⟨h6, hp⟩ := hp
  refine g_v1n (Nat.le_of_ble_eq_true rfl) (mz_at hS (Nat.le_of_ble_eq_true rfl) mzcS_100) (fun _ hq => cs_51 (Nat.le_trans (Nat.le_of_ble_eq_true rfl) hd) (hS.le (Nat.le_of_ble_eq_true rfl)) (hR.le (Nat.le_of_ble_eq_true rfl))  (cf_50_0 (cf_48_0 (cf_47_0 (cf_22_0 (cf_18_0 N) b)))) h6 hq) (g_aload_n rfl (g_getR (mz_at hS (Nat.le_of_ble_eq_true rfl) mzcS_1) mzcf_4_6 (mz_rb hR (Nat.le_of_ble_eq_true rfl) rfl mzcR_1_6) ?_))
  obtain ⟨h7, hp⟩ := hp
  refine g_v1n (Nat.le_of_ble_eq_true rfl) (mz_at hS (Nat.le_of_ble_eq_true rfl) mzcS_115) (fun _ hq => cs_52 (Nat.le_trans (Nat.le_of_ble_eq_true rfl) hd) (hS.le (Nat.le_of_ble_eq_true rfl)) (hR.le (Nat.le_of_ble_eq_true rfl))  (cf_51_0 (cf_50_0 (cf_48_0 (cf_47_0 (cf_22_0 (cf_18_0 N) b))))) h7 hq) (g_aload_n rfl (g_getR (mz_at hS (Nat.le_of_ble_eq_true rfl) mzcS_1) mzcf_4_7 (mz_rb hR (Nat.le_of_ble_eq_true rfl) rfl mzcR_1_7) ?_))
  obtain ⟨h8, hp⟩ := hp
  refine g_v1n (Nat.le_of_ble_eq_true rfl) (mz_at hS (Nat.le_of_ble_eq_true rfl) mzcS_208) (fun _ hq => cs_53 (Nat.le_trans (Nat.le_of_ble_eq_true rfl) hd) (hS.le (Nat.le_of_ble_eq_true rfl)) (hR.le (Nat.le_of_ble_eq_true rfl))  (cf_52_0 (cf_51_0 (cf_50_0 (cf_48_0 (cf_47_0 (cf_22_0 (cf_18_0 N) b)))))) h8 hq) ?_
  refine g_weak ?_ (g_cl (cg_17_56 hd hS hR (cf_53_0 (cf_52_0 (cf_51_0 (cf_50_0 (cf_48_0 (cf_47_0 (cf_22_0 (cf_18_0 N) b))))))) b hr hp hC))
  exact ⟨rfl, trivial⟩
theorem cs_17 (hd : 7 ≤ d) (hS : mz_extR S 232) (hR : mz_rok R 232)  (N : mz_N) (b : Bool) (hp : cp_17_0 N b) (hq : Q (.inl none) (mz_k S R ((cf_17_0 N b).1) ((cf_17_0 N b).2) t)) : mz_Ed (mz_X0 L xs) d 17 [.ref 1] (mz_k S R N b t) Q :=
  by
  refine g_in mzq_17 (Nat.le_of_ble_eq_true rfl) (Nat.le_of_ble_eq_true rfl) (Nat.le_trans (Nat.le_of_ble_eq_true rfl) hd) ?_
  refine g_weak ?_ (cg_17_0 (d := d - 1) (by omega) hS hR N b (C0 := fun z => Q (.inl none) (mz_k S R z.1 z.2 t)) (fun _ _ h => h) hp hq)
  exact ⟨rfl, trivial⟩
/-! 94 KeptHouse$Store.isWhole (II)Z -/
theorem ms_94_0 : mz_sf mk_94 0 = mk_94 := mz_sf_zero _
theorem ms_94_19 : mz_sf mk_94 19 = mt_94_19 := mz_sf_add ms_94_0 (t := 19) rfl rfl
theorem ms_94_49 : mz_sf mk_94 49 = mt_94_49 := mz_sf_add ms_94_19 (t := 30) rfl rfl
theorem ms_94_68 : mz_sf mk_94 68 = mt_94_68 := mz_sf_add ms_94_49 (t := 19) rfl rfl
theorem ms_94_72 : mz_sf mk_94 72 = mt_94_72 := mz_sf_add ms_94_68 (t := 4) rfl rfl
theorem ms_94_73 : mz_sf mk_94 73 = mt_94_73 := mz_sf_add ms_94_72 (t := 1) rfl rfl
set_option maxRecDepth 100000 in
theorem mzq_94 : mz_PG0 94 = some (8, ⟨"KeptHouse$Store", "isWhole", "(II)Z"⟩, prog_10_method_19_code, 4, some .boolean, [], mk_94, []) := rfl
theorem cg_94_0 (hd : 1 ≤ d) (hS : mz_extR S 232) (hR : mz_rok R 232)  (v1 : Int32) (v2 : Int32) (N : mz_N) {C0 : (Bool) → Prop} (hr : ∀ (w : Bool), C0 w → Q (.inl (some (.int (mz_b01 w)))) (mz_k S R N b t)) (hp : cp_94_0 v1 v2 N) (hC : C0 (cf_94_0 v1 v2 N)) : mz_G (d, mz_X0 L xs, some .boolean, [], mk_94, 4, Q) 0 mk_94 [(0, .ref 219), (1, .int v1), (2, .int v2)] [] true (mz_k S R N b t) := by
  unfold cf_94_0 at hC
  unfold cp_94_0 at hp
  refine g_iload_n rfl (g_bipush mzb_48 (g_imul (g_istore_n (Nat.le_of_ble_eq_true rfl) rfl (g_aload_n rfl (g_getR (mz_at hS (Nat.le_of_ble_eq_true rfl) mzcS_219) mzcf_8_0 (mz_rb hR (Nat.le_of_ble_eq_true rfl) rfl mzcR_219_0) (g_iload_n rfl ?_))))))
  obtain ⟨h1, hp⟩ := hp
  refine g_aald4 (mz_at hS (Nat.le_of_ble_eq_true rfl) mzcS_220) h1 (mz_rb hR (Nat.le_of_ble_eq_true rfl) rfl (mzcR2_220 h1)) (g_iload_n rfl (g_iconst mzi_3 (g_iadd ?_)))
  obtain ⟨h2, hp⟩ := hp
  refine g_iald hS.1 (mz_at hS (mzcL2_220 h1 (Nat.le_of_ble_eq_true rfl)) (mzcS2_220 h1)) h2 (g_iconst mzi_1 ?_)
  refine g_iceq (tg := 72) rfl ms_94_72 hC (fun h3 hC => ?_) (fun h3 hC => ?_)
  · have hp := hp.1 h3
    refine g_iconst mzi_0 ?_
    exact g_zret (z := false) rfl (hr _ hC)
  · have hp := hp.2 h3
    refine g_aload_n rfl (g_getR (mz_at hS (Nat.le_of_ble_eq_true rfl) mzcS_219) mzcf_8_0 (mz_rb hR (Nat.le_of_ble_eq_true rfl) rfl mzcR_219_0) (g_iload_n rfl ?_))
    obtain ⟨h4, hp⟩ := hp
    refine g_aald4 (mz_at hS (Nat.le_of_ble_eq_true rfl) mzcS_220) h4 (mz_rb hR (Nat.le_of_ble_eq_true rfl) rfl (mzcR2_220 h4)) (g_iload_n rfl (g_bipush mzb_44 (g_iadd (g_iconst mzi_4 ?_))))
    obtain ⟨h5, hp⟩ := hp
    refine g_s3v (Nat.le_of_ble_eq_true rfl) (fun _ hq => cs_61 (Nat.le_trans (Nat.le_of_ble_eq_true rfl) hd) (hS.le (Nat.le_of_ble_eq_true rfl)) (hR.le (Nat.le_of_ble_eq_true rfl)) (221 + v1.toNatClampNeg) 9600 (mz_at hS (mzcL2_220 h4 (Nat.le_of_ble_eq_true rfl)) (mzcS2_220 h4)) ((v2 * 48) + 44) 4 N h5 hq) (g_l2i (g_aload_n rfl (g_getR (mz_at hS (Nat.le_of_ble_eq_true rfl) mzcS_219) mzcf_8_0 (mz_rb hR (Nat.le_of_ble_eq_true rfl) rfl mzcR_219_0) (g_iload_n rfl ?_))))
    obtain ⟨h6, hp⟩ := hp
    refine g_aald4 (mz_at hS (Nat.le_of_ble_eq_true rfl) mzcS_220) h6 (mz_rb hR (Nat.le_of_ble_eq_true rfl) rfl (mzcR2_220 h6)) (g_iload_n rfl (g_bipush mzb_44 ?_))
    obtain ⟨h7, hp⟩ := hp
    refine g_s3v (Nat.le_of_ble_eq_true rfl) (fun _ hq => cs_16 (Nat.le_trans (Nat.le_of_ble_eq_true rfl) hd) (hS.le (Nat.le_of_ble_eq_true rfl)) (mz_rs_of hR (Nat.le_of_ble_eq_true rfl)) (221 + v1.toNatClampNeg) 9600 (mz_at hS (mzcL2_220 h6 (Nat.le_of_ble_eq_true rfl)) (mzcS2_220 h6)) (v2 * 48) 44 N h7 hq) ?_
    refine g_icne (tg := 72) rfl ms_94_72 hC (fun h8 hC => ?_) (fun h8 hC => ?_)
    · have hp := hp.1 h8
      refine g_aload_n rfl (g_getR (mz_at hS (Nat.le_of_ble_eq_true rfl) mzcS_219) mzcf_8_0 (mz_rb hR (Nat.le_of_ble_eq_true rfl) rfl mzcR_219_0) (g_iload_n rfl ?_))
      obtain ⟨h9, hp⟩ := hp
      refine g_aald4 (mz_at hS (Nat.le_of_ble_eq_true rfl) mzcS_220) h9 (mz_rb hR (Nat.le_of_ble_eq_true rfl) rfl (mzcR2_220 h9)) (g_iload_n rfl (g_iconst mzi_4 (g_iadd (g_iconst mzi_4 ?_))))
      have h10 := hp
      refine g_s3v (Nat.le_of_ble_eq_true rfl) (fun _ hq => cs_61 (Nat.le_trans (Nat.le_of_ble_eq_true rfl) hd) (hS.le (Nat.le_of_ble_eq_true rfl)) (hR.le (Nat.le_of_ble_eq_true rfl)) (221 + v1.toNatClampNeg) 9600 (mz_at hS (mzcL2_220 h9 (Nat.le_of_ble_eq_true rfl)) (mzcS2_220 h9)) ((v2 * 48) + 4) 4 N h10 hq) (g_iload_n rfl (g_i2l (g_lcmp ?_)))
      refine g_lne (tg := 72) rfl ms_94_72 hC (fun h11 hC => ?_) (fun h11 hC => ?_)
      · refine g_iconst mzi_1 (g_goto (tg := 73) rfl ms_94_73 ?_)
        exact g_zret (z := true) rfl (hr _ hC)
      · refine g_iconst mzi_0 ?_
        exact g_zret (z := false) rfl (hr _ hC)
    · have hp := hp.2 h8
      refine g_iconst mzi_0 ?_
      exact g_zret (z := false) rfl (hr _ hC)
theorem cs_94 (hd : 2 ≤ d) (hS : mz_extR S 232) (hR : mz_rok R 232)  (v1 : Int32) (v2 : Int32) (N : mz_N) (hp : cp_94_0 v1 v2 N) (hq : Q (.inl (some (.int (mz_b01 (cf_94_0 v1 v2 N))))) (mz_k S R N b t)) : mz_Ed (mz_X0 L xs) d 94 [.ref 219, .int v1, .int v2] (mz_k S R N b t) Q :=
  by
  refine g_in mzq_94 (Nat.le_of_ble_eq_true rfl) (Nat.le_of_ble_eq_true rfl) (Nat.le_trans (Nat.le_of_ble_eq_true rfl) hd) ?_
  refine g_weak ?_ (cg_94_0 (d := d - 1) (by omega) hS hR v1 v2 N (C0 := fun z => Q (.inl (some (.int (mz_b01 z)))) (mz_k S R N b t)) (fun _ h => h) hp hq)
  exact ⟨rfl, rfl, rfl, trivial⟩
/-! 95 KeptHouse$Store.isLast (II)Z -/
theorem ms_95_0 : mz_sf mk_95 0 = mk_95 := mz_sf_zero _
theorem ms_95_17 : mz_sf mk_95 17 = mt_95_17 := mz_sf_add ms_95_0 (t := 17) rfl rfl
theorem ms_95_21 : mz_sf mk_95 21 = mt_95_21 := mz_sf_add ms_95_17 (t := 4) rfl rfl
theorem ms_95_22 : mz_sf mk_95 22 = mt_95_22 := mz_sf_add ms_95_21 (t := 1) rfl rfl
set_option maxRecDepth 100000 in
theorem mzq_95 : mz_PG0 95 = some (8, ⟨"KeptHouse$Store", "isLast", "(II)Z"⟩, prog_10_method_21_code, 3, some .boolean, [], mk_95, []) := rfl
theorem cg_95_0 (hd : 0 ≤ d) (hS : mz_extR S 232) (hR : mz_rok R 232)  (v1 : Int32) (v2 : Int32) (N : mz_N) {C0 : (Bool) → Prop} (hr : ∀ (w : Bool), C0 w → Q (.inl (some (.int (mz_b01 w)))) (mz_k S R N b t)) (hp : cp_95_0 v1 v2 N) (hC : C0 (cf_95_0 v1 v2 N)) : mz_G (d, mz_X0 L xs, some .boolean, [], mk_95, 3, Q) 0 mk_95 [(0, .ref 219), (1, .int v1), (2, .int v2)] [] true (mz_k S R N b t) := by
  unfold cf_95_0 at hC
  unfold cp_95_0 at hp
  refine g_aload_n rfl (g_getR (mz_at hS (Nat.le_of_ble_eq_true rfl) mzcS_219) mzcf_8_0 (mz_rb hR (Nat.le_of_ble_eq_true rfl) rfl mzcR_219_0) (g_iload_n rfl ?_))
  obtain ⟨h1, hp⟩ := hp
  refine g_aald4 (mz_at hS (Nat.le_of_ble_eq_true rfl) mzcS_220) h1 (mz_rb hR (Nat.le_of_ble_eq_true rfl) rfl (mzcR2_220 h1)) (g_iload_n rfl (g_bipush mzb_48 (g_imul (g_iconst mzi_2 (g_iadd ?_)))))
  have h2 := hp
  refine g_iald hS.1 (mz_at hS (mzcL2_220 h1 (Nat.le_of_ble_eq_true rfl)) (mzcS2_220 h1)) h2 (g_iconst mzi_1 ?_)
  refine g_icne (tg := 21) rfl ms_95_21 hC (fun h3 hC => ?_) (fun h3 hC => ?_)
  · refine g_iconst mzi_1 (g_goto (tg := 22) rfl ms_95_22 ?_)
    exact g_zret (z := true) rfl (hr _ hC)
  · refine g_iconst mzi_0 ?_
    exact g_zret (z := false) rfl (hr _ hC)
theorem cs_95 (hd : 1 ≤ d) (hS : mz_extR S 232) (hR : mz_rok R 232)  (v1 : Int32) (v2 : Int32) (N : mz_N) (hp : cp_95_0 v1 v2 N) (hq : Q (.inl (some (.int (mz_b01 (cf_95_0 v1 v2 N))))) (mz_k S R N b t)) : mz_Ed (mz_X0 L xs) d 95 [.ref 219, .int v1, .int v2] (mz_k S R N b t) Q :=
  by
  refine g_in mzq_95 (Nat.le_of_ble_eq_true rfl) (Nat.le_of_ble_eq_true rfl) (Nat.le_trans (Nat.le_of_ble_eq_true rfl) hd) ?_
  refine g_weak ?_ (cg_95_0 (d := d - 1) (by omega) hS hR v1 v2 N (C0 := fun z => Q (.inl (some (.int (mz_b01 z)))) (mz_k S R N b t)) (fun _ h => h) hp hq)
  exact ⟨rfl, rfl, rfl, trivial⟩
/-! 96 KeptHouse$Store.ageOf (II)I -/
theorem ms_96_0 : mz_sf mk_96 0 = mk_96 := mz_sf_zero _
set_option maxRecDepth 100000 in
theorem mzq_96 : mz_PG0 96 = some (8, ⟨"KeptHouse$Store", "ageOf", "(II)I"⟩, prog_10_method_13_code, 3, some .int, [], mk_96, []) := rfl
theorem cg_96_0 (hd : 1 ≤ d) (hS : mz_extR S 232) (hR : mz_rok R 232)  (v1 : Int32) (v2 : Int32) (N : mz_N) {C0 : (Int32) → Prop} (hr : ∀ (w : Int32), C0 w → Q (.inl (some (.int w))) (mz_k S R N b t)) (hp : cp_96_0 v1 v2 N) (hC : C0 (cf_96_0 v1 v2 N)) : mz_G (d, mz_X0 L xs, some .int, [], mk_96, 3, Q) 0 mk_96 [(0, .ref 219), (1, .int v1), (2, .int v2)] [] true (mz_k S R N b t) := by
  unfold cf_96_0 at hC
  unfold cp_96_0 at hp
  refine g_aload_n rfl (g_getR (mz_at hS (Nat.le_of_ble_eq_true rfl) mzcS_219) mzcf_8_0 (mz_rb hR (Nat.le_of_ble_eq_true rfl) rfl mzcR_219_0) (g_iload_n rfl ?_))
  obtain ⟨h1, hp⟩ := hp
  refine g_aald4 (mz_at hS (Nat.le_of_ble_eq_true rfl) mzcS_220) h1 (mz_rb hR (Nat.le_of_ble_eq_true rfl) rfl (mzcR2_220 h1)) (g_iload_n rfl (g_bipush mzb_48 (g_imul (g_bipush mzb_8 (g_iadd (g_iconst mzi_4 ?_))))))
  have h2 := hp
  refine g_s3v (Nat.le_of_ble_eq_true rfl) (fun _ hq => cs_61 (Nat.le_trans (Nat.le_of_ble_eq_true rfl) hd) (hS.le (Nat.le_of_ble_eq_true rfl)) (hR.le (Nat.le_of_ble_eq_true rfl)) (221 + v1.toNatClampNeg) 9600 (mz_at hS (mzcL2_220 h1 (Nat.le_of_ble_eq_true rfl)) (mzcS2_220 h1)) ((v2 * 48) + 8) 4 N h2 hq) (g_l2i ?_)
  exact g_iret rfl (hr _ hC)
theorem cs_96 (hd : 2 ≤ d) (hS : mz_extR S 232) (hR : mz_rok R 232)  (v1 : Int32) (v2 : Int32) (N : mz_N) (hp : cp_96_0 v1 v2 N) (hq : Q (.inl (some (.int (cf_96_0 v1 v2 N)))) (mz_k S R N b t)) : mz_Ed (mz_X0 L xs) d 96 [.ref 219, .int v1, .int v2] (mz_k S R N b t) Q :=
  by
  refine g_in mzq_96 (Nat.le_of_ble_eq_true rfl) (Nat.le_of_ble_eq_true rfl) (Nat.le_trans (Nat.le_of_ble_eq_true rfl) hd) ?_
  refine g_weak ?_ (cg_96_0 (d := d - 1) (by omega) hS hR v1 v2 N (C0 := fun z => Q (.inl (some (.int z))) (mz_k S R N b t)) (fun _ h => h) hp hq)
  exact ⟨rfl, rfl, rfl, trivial⟩
/-! 98 KeptHouse$Store.keyOf (II)I -/
theorem ms_98_0 : mz_sf mk_98 0 = mk_98 := mz_sf_zero _
theorem ms_98_15 : mz_sf mk_98 15 = mt_98_15 := mz_sf_add ms_98_0 (t := 15) rfl rfl
theorem ms_98_17 : mz_sf mk_98 17 = mt_98_17 := mz_sf_add ms_98_15 (t := 2) rfl rfl
theorem ms_98_36 : mz_sf mk_98 36 = mt_98_36 := mz_sf_add ms_98_17 (t := 19) rfl rfl
theorem ms_98_40 : mz_sf mk_98 40 = mt_98_40 := mz_sf_add ms_98_36 (t := 4) rfl rfl
theorem ms_98_41 : mz_sf mk_98 41 = mt_98_41 := mz_sf_add ms_98_40 (t := 1) rfl rfl
set_option maxRecDepth 100000 in
theorem mzq_98 : mz_PG0 98 = some (8, ⟨"KeptHouse$Store", "keyOf", "(II)I"⟩, prog_10_method_7_code, 3, some .int, [], mk_98, []) := rfl
theorem cg_98_0 (hd : 0 ≤ d) (hS : mz_extR S 232) (hR : mz_rok R 232)  (v0 : Int32) (v1 : Int32) {C0 : (Int32) → Prop} (hr : ∀ (w : Int32), C0 w → Q (.inl (some (.int w))) (mz_k S R N b t)) (hp : cp_98_0 v0 v1) (hC : C0 (cf_98_0 v0 v1)) : mz_G (d, mz_X0 L xs, some .int, [], mk_98, 3, Q) 0 mk_98 [(0, .int v0), (1, .int v1)] [] true (mz_k S R N b t) := by
  unfold cf_98_0 at hC
  unfold cp_98_0 at hp
  refine g_iload_n rfl (g_iconst mzi_1 ?_)
  refine g_iclt (tg := 15) rfl ms_98_15 hC (fun h1 hC => ?_) (fun h1 hC => ?_)
  · have hp := hp.1 h1
    refine g_iconst mzi_m1 ?_
    exact g_iret rfl (hr _ hC)
  · have hp := hp.2 h1
    refine g_iload_n rfl (g_bipush mzb_15 ?_)
    refine g_icgt (tg := 15) rfl ms_98_15 hC (fun h2 hC => ?_) (fun h2 hC => ?_)
    · have hp := hp.1 h2
      refine g_iconst mzi_m1 ?_
      exact g_iret rfl (hr _ hC)
    · have hp := hp.2 h2
      refine g_iload_n rfl ?_
      refine g_ifge (tg := 17) rfl ms_98_17 hC (fun h3 hC => ?_) (fun h3 hC => ?_)
      · have hp := hp.1 h3
        refine g_iconst mzi_m1 ?_
        exact g_iret rfl (hr _ hC)
      · have hp := hp.2 h3
        refine g_gst (g_iload_n rfl (g_iconst mzi_1 (g_isub ?_)))
        obtain ⟨h4, hp⟩ := hp
        refine g_iald1000 h4 (g_iload_n rfl (g_iadd (g_istore_n (Nat.le_of_ble_eq_true rfl) rfl (g_iload_n rfl (g_gst (g_iload_n rfl ?_))))))
        have h5 := hp
        refine g_iald1000 h5 ?_
        refine g_icge (tg := 40) rfl ms_98_40 hC (fun h6 hC => ?_) (fun h6 hC => ?_)
        · refine g_iload_n rfl (g_goto (tg := 41) rfl ms_98_41 ?_)
          exact g_iret rfl (hr _ hC)
        · refine g_iconst mzi_m1 ?_
          exact g_iret rfl (hr _ hC)
theorem cs_98 (hd : 1 ≤ d) (hS : mz_extR S 232) (hR : mz_rok R 232)  (v0 : Int32) (v1 : Int32) (hp : cp_98_0 v0 v1) (hq : Q (.inl (some (.int (cf_98_0 v0 v1)))) (mz_k S R N b t)) : mz_Ed (mz_X0 L xs) d 98 [.int v0, .int v1] (mz_k S R N b t) Q :=
  by
  refine g_in mzq_98 (Nat.le_of_ble_eq_true rfl) (Nat.le_of_ble_eq_true rfl) (Nat.le_trans (Nat.le_of_ble_eq_true rfl) hd) ?_
  refine g_weak ?_ (cg_98_0 (d := d - 1) (by omega) hS hR v0 v1 (C0 := fun z => Q (.inl (some (.int z))) (mz_k S R N b t)) (fun _ h => h) hp hq)
  exact ⟨rfl, rfl, trivial⟩
/-! 97 KeptHouse$Store.isKeyRow (III)Z -/
theorem ms_97_0 : mz_sf mk_97 0 = mk_97 := mz_sf_zero _
theorem ms_97_25 : mz_sf mk_97 25 = mt_97_25 := mz_sf_add ms_97_0 (t := 25) rfl rfl
theorem ms_97_52 : mz_sf mk_97 52 = mt_97_52 := mz_sf_add ms_97_25 (t := 27) rfl rfl
theorem ms_97_56 : mz_sf mk_97 56 = mt_97_56 := mz_sf_add ms_97_52 (t := 4) rfl rfl
theorem ms_97_57 : mz_sf mk_97 57 = mt_97_57 := mz_sf_add ms_97_56 (t := 1) rfl rfl
set_option maxRecDepth 100000 in
theorem mzq_97 : mz_PG0 97 = some (8, ⟨"KeptHouse$Store", "isKeyRow", "(III)Z"⟩, prog_10_method_20_code, 5, some .boolean, [], mk_97, []) := rfl
theorem cg_97_0 (hd : 2 ≤ d) (hS : mz_extR S 232) (hR : mz_rok R 232)  (v1 : Int32) (v2 : Int32) (v3 : Int32) (N : mz_N) {C0 : (Bool) → Prop} (hr : ∀ (w : Bool), C0 w → Q (.inl (some (.int (mz_b01 w)))) (mz_k S R N b t)) (hp : cp_97_0 v1 v2 v3 N) (hC : C0 (cf_97_0 v1 v2 v3 N)) : mz_G (d, mz_X0 L xs, some .boolean, [], mk_97, 5, Q) 0 mk_97 [(0, .ref 219), (1, .int v1), (2, .int v2), (3, .int v3)] [] true (mz_k S R N b t) := by
  unfold cf_97_0 at hC
  unfold cp_97_0 at hp
  refine g_iload_n rfl (g_bipush mzb_48 (g_imul (g_istore (Nat.le_of_ble_eq_true rfl) rfl (g_aload_n rfl (g_iload_n rfl (g_iload_n rfl ?_))))))
  obtain ⟨h1, hp⟩ := hp
  refine g_v3v (Nat.le_of_ble_eq_true rfl) (mz_at hS (Nat.le_of_ble_eq_true rfl) mzcS_219) (fun _ hq => cs_94 (Nat.le_trans (Nat.le_of_ble_eq_true rfl) hd) (hS.le (Nat.le_of_ble_eq_true rfl)) (hR.le (Nat.le_of_ble_eq_true rfl))  v1 v2 N h1 hq) ?_
  refine g_zeq (tg := 56) rfl ms_97_56 hC (fun h2 hC => ?_) (fun h2 hC => ?_)
  · have hp := hp.1 h2
    refine g_aload_n rfl (g_iload_n rfl (g_iload_n rfl ?_))
    obtain ⟨h3, hp⟩ := hp
    refine g_v3v (Nat.le_of_ble_eq_true rfl) (mz_at hS (Nat.le_of_ble_eq_true rfl) mzcS_219) (fun _ hq => cs_96 (Nat.le_trans (Nat.le_of_ble_eq_true rfl) hd) (hS.le (Nat.le_of_ble_eq_true rfl)) (hR.le (Nat.le_of_ble_eq_true rfl))  v1 v2 N h3 hq) (g_iload_n rfl ?_)
    refine g_icne (tg := 56) rfl ms_97_56 hC (fun h4 hC => ?_) (fun h4 hC => ?_)
    · have hp := hp.1 h4
      refine g_aload_n rfl (g_getR (mz_at hS (Nat.le_of_ble_eq_true rfl) mzcS_219) mzcf_8_0 (mz_rb hR (Nat.le_of_ble_eq_true rfl) rfl mzcR_219_0) (g_iload_n rfl ?_))
      obtain ⟨h5, hp⟩ := hp
      refine g_aald4 (mz_at hS (Nat.le_of_ble_eq_true rfl) mzcS_220) h5 (mz_rb hR (Nat.le_of_ble_eq_true rfl) rfl (mzcR2_220 h5)) (g_iload rfl ?_)
      obtain ⟨h6, hp⟩ := hp
      refine g_iald hS.1 (mz_at hS (mzcL2_220 h5 (Nat.le_of_ble_eq_true rfl)) (mzcS2_220 h5)) h6 (g_aload_n rfl (g_getR (mz_at hS (Nat.le_of_ble_eq_true rfl) mzcS_219) mzcf_8_0 (mz_rb hR (Nat.le_of_ble_eq_true rfl) rfl mzcR_219_0) (g_iload_n rfl ?_)))
      obtain ⟨h7, hp⟩ := hp
      refine g_aald4 (mz_at hS (Nat.le_of_ble_eq_true rfl) mzcS_220) h7 (mz_rb hR (Nat.le_of_ble_eq_true rfl) rfl (mzcR2_220 h7)) (g_iload rfl (g_iconst mzi_1 (g_iadd ?_)))
      obtain ⟨h8, hp⟩ := hp
      refine g_iald hS.1 (mz_at hS (mzcL2_220 h7 (Nat.le_of_ble_eq_true rfl)) (mzcS2_220 h7)) h8 ?_
      have h9 := hp
      refine g_s2v (Nat.le_of_ble_eq_true rfl) (fun _ hq => cs_98 (Nat.le_trans (Nat.le_of_ble_eq_true rfl) hd) (hS.le (Nat.le_of_ble_eq_true rfl)) (hR.le (Nat.le_of_ble_eq_true rfl))  (mz_gI N (221 + v1.toNatClampNeg) (v2 * 48)) (mz_gI N (221 + v1.toNatClampNeg) ((v2 * 48) + 1)) h9 hq) (g_iconst mzi_m1 ?_)
      refine g_iceq (tg := 56) rfl ms_97_56 hC (fun h10 hC => ?_) (fun h10 hC => ?_)
      · refine g_iconst mzi_0 ?_
        exact g_zret (z := false) rfl (hr _ hC)
      · refine g_iconst mzi_1 (g_goto (tg := 57) rfl ms_97_57 ?_)
        exact g_zret (z := true) rfl (hr _ hC)
    · have hp := hp.2 h4
      refine g_iconst mzi_0 ?_
      exact g_zret (z := false) rfl (hr _ hC)
  · have hp := hp.2 h2
    refine g_iconst mzi_0 ?_
    exact g_zret (z := false) rfl (hr _ hC)
theorem cs_97 (hd : 3 ≤ d) (hS : mz_extR S 232) (hR : mz_rok R 232)  (v1 : Int32) (v2 : Int32) (v3 : Int32) (N : mz_N) (hp : cp_97_0 v1 v2 v3 N) (hq : Q (.inl (some (.int (mz_b01 (cf_97_0 v1 v2 v3 N))))) (mz_k S R N b t)) : mz_Ed (mz_X0 L xs) d 97 [.ref 219, .int v1, .int v2, .int v3] (mz_k S R N b t) Q :=
  by
  refine g_in mzq_97 (Nat.le_of_ble_eq_true rfl) (Nat.le_of_ble_eq_true rfl) (Nat.le_trans (Nat.le_of_ble_eq_true rfl) hd) ?_
  refine g_weak ?_ (cg_97_0 (d := d - 1) (by omega) hS hR v1 v2 v3 N (C0 := fun z => Q (.inl (some (.int (mz_b01 z)))) (mz_k S R N b t)) (fun _ h => h) hp hq)
  exact ⟨rfl, rfl, rfl, rfl, trivial⟩
/-! 93 KeptHouse$Store.snapshotRows (I)I -/
theorem ms_93_0 : mz_sf mk_93 0 = mk_93 := mz_sf_zero _
theorem ms_93_23 : mz_sf mk_93 23 = mt_93_23 := mz_sf_add ms_93_0 (t := 23) rfl rfl
theorem ms_93_45 : mz_sf mk_93 45 = mt_93_45 := mz_sf_add ms_93_23 (t := 22) rfl rfl
theorem ms_93_65 : mz_sf mk_93 65 = mt_93_65 := mz_sf_add ms_93_45 (t := 20) rfl rfl
theorem ms_93_67 : mz_sf mk_93 67 = mt_93_67 := mz_sf_add ms_93_65 (t := 2) rfl rfl
theorem ms_93_69 : mz_sf mk_93 69 = mt_93_69 := mz_sf_add ms_93_67 (t := 2) rfl rfl
theorem ms_93_89 : mz_sf mk_93 89 = mt_93_89 := mz_sf_add ms_93_69 (t := 20) rfl rfl
theorem ms_93_91 : mz_sf mk_93 91 = mt_93_91 := mz_sf_add ms_93_89 (t := 2) rfl rfl
theorem ms_93_97 : mz_sf mk_93 97 = mt_93_97 := mz_sf_add ms_93_91 (t := 6) rfl rfl
theorem ms_93_110 : mz_sf mk_93 110 = mt_93_110 := mz_sf_add ms_93_97 (t := 13) rfl rfl
theorem ms_93_114 : mz_sf mk_93 114 = mt_93_114 := mz_sf_add ms_93_110 (t := 4) rfl rfl
theorem ms_93_115 : mz_sf mk_93 115 = mt_93_115 := mz_sf_add ms_93_114 (t := 1) rfl rfl
set_option maxRecDepth 100000 in
theorem mzq_93 : mz_PG0 93 = some (8, ⟨"KeptHouse$Store", "snapshotRows", "(I)I"⟩, prog_10_method_22_code, 4, some .int, [], mk_93, []) := rfl
theorem cb_93_69 (hd : 3 ≤ d) (hS : mz_extR S 232) (hR : mz_rok R 232)  (v1 : Int32) (v2 : Int32) (N : mz_N) (s : Int32) {C0 : (Int32) → Prop} (hr : ∀ (w : Int32), C0 w → Q (.inl (some (.int w))) (mz_k S R N b t)) {C1 : ((Int32) ⊕ (Int32)) → Prop} (hc1 : ∀ s2, C1 (.inl s2) → mz_G (d, mz_X0 L xs, some .int, [], mk_93, 4, Q) 69 mt_93_69 [(0, .ref 219), (1, .int v1), (2, .int v2), (3, .int s2)] [] false (mz_k S R N b t)) (hx1 : ∀ z, C1 (.inr z) → C0 z) (hp : cd_93_69 v1 v2 N s) (hC : C1 (cq_93_69 v1 v2 N s)) : mz_G (d, mz_X0 L xs, some .int, [], mk_93, 4, Q) 69 mt_93_69 [(0, .ref 219), (1, .int v1), (2, .int v2), (3, .int s)] [] false (mz_k S R N b t) := by
  unfold cq_93_69 at hC
  unfold cd_93_69 at hp
  refine g_iload_n rfl (g_iload_n rfl ?_)
  refine g_icgt (tg := 97) rfl ms_93_97 hC (fun h1 hC => ?_) (fun h1 hC => ?_)
  · have hp := hp.1 h1
    refine g_iload_n rfl ?_
    refine g_ifeq (tg := 110) rfl ms_93_110 hC (fun h2 hC => ?_) (fun h2 hC => ?_)
    · have hp := hp.1 h2
      refine g_iload_n rfl (g_goto (tg := 115) rfl ms_93_115 ?_)
      exact g_iret rfl (hr _ (hx1 _ hC))
    · have hp := hp.2 h2
      refine g_aload_n rfl (g_iload_n rfl (g_iload_n rfl ?_))
      have h3 := hp
      refine g_v3v (Nat.le_of_ble_eq_true rfl) (mz_at hS (Nat.le_of_ble_eq_true rfl) mzcS_219) (fun _ hq => cs_95 (Nat.le_trans (Nat.le_of_ble_eq_true rfl) hd) (hS.le (Nat.le_of_ble_eq_true rfl)) (hR.le (Nat.le_of_ble_eq_true rfl))  v1 v2 N h3 hq) ?_
      refine g_zeq (tg := 114) rfl ms_93_114 hC (fun h4 hC => ?_) (fun h4 hC => ?_)
      · refine g_iload_n rfl (g_goto (tg := 115) rfl ms_93_115 ?_)
        exact g_iret rfl (hr _ (hx1 _ hC))
      · refine g_iconst mzi_m1 ?_
        exact g_iret rfl (hr _ (hx1 _ hC))
  · have hp := hp.2 h1
    refine g_aload_n rfl (g_iload_n rfl (g_iload_n rfl (g_aload_n rfl (g_iload_n rfl (g_iconst mzi_0 ?_)))))
    obtain ⟨h5, hp⟩ := hp
    refine g_v3v (Nat.le_of_ble_eq_true rfl) (mz_at hS (Nat.le_of_ble_eq_true rfl) mzcS_219) (fun _ hq => cs_96 (Nat.le_trans (Nat.le_of_ble_eq_true rfl) hd) (hS.le (Nat.le_of_ble_eq_true rfl)) (hR.le (Nat.le_of_ble_eq_true rfl))  v1 0 N h5 hq) ?_
    have h6 := hp
    refine g_v4v (Nat.le_of_ble_eq_true rfl) (mz_at hS (Nat.le_of_ble_eq_true rfl) mzcS_219) (fun _ hq => cs_97 (Nat.le_trans (Nat.le_of_ble_eq_true rfl) hd) (hS.le (Nat.le_of_ble_eq_true rfl)) (hR.le (Nat.le_of_ble_eq_true rfl))  v1 s (cf_96_0 v1 0 N) N h6 hq) ?_
    refine g_zne (tg := 91) rfl ms_93_91 hC (fun h7 hC => ?_) (fun h7 hC => ?_)
    · refine g_iinc rfl mzi_1 (Nat.le_of_ble_eq_true rfl) rfl (g_goto (tg := 69) rfl ms_93_69 ?_)
      refine g_weak ?_ (g_cl (hc1 ((s + 1)) hC))
      exact ⟨rfl, rfl, rfl, rfl, trivial⟩
    · refine g_iconst mzi_m1 ?_
      exact g_iret rfl (hr _ (hx1 _ hC))
theorem cg_93_69 (hd : 3 ≤ d) (hS : mz_extR S 232) (hR : mz_rok R 232)  (v1 : Int32) (v2 : Int32) (v3 : Int32) (N : mz_N) {C0 : (Int32) → Prop} (hr : ∀ (w : Int32), C0 w → Q (.inl (some (.int w))) (mz_k S R N b t)) (hp : cp_93_69 v1 v2 v3 N) (hC : C0 (cf_93_69 v1 v2 v3 N)) : mz_G (d, mz_X0 L xs, some .int, [], mk_93, 4, Q) 69 mt_93_69 [(0, .ref 219), (1, .int v1), (2, .int v2), (3, .int v3)] [] false (mz_k S R N b t) := by
  obtain ⟨n, hn⟩ := hp
  exact g_loop (G := fun s => mz_G (d, mz_X0 L xs, some .int, [], mk_93, 4, Q) 69 mt_93_69 [(0, .ref 219), (1, .int v1), (2, .int v2), (3, .int s)] [] false (mz_k S R N b t)) (C := C0) (fun C2 hc hx s hP hC => cb_93_69 hd hS hR v1 v2 N s hr hc hx hP hC) n (v3) hn hC
theorem cg_93_0 (hd : 3 ≤ d) (hS : mz_extR S 232) (hR : mz_rok R 232)  (v1 : Int32) (N : mz_N) {C0 : (Int32) → Prop} (hr : ∀ (w : Int32), C0 w → Q (.inl (some (.int w))) (mz_k S R N b t)) (hp : cp_93_0 v1 N) (hC : C0 (cf_93_0 v1 N)) : mz_G (d, mz_X0 L xs, some .int, [], mk_93, 4, Q) 0 mk_93 [(0, .ref 219), (1, .int v1)] [] true (mz_k S R N b t) := by
  unfold cf_93_0 at hC
  unfold cp_93_0 at hp
  refine g_aload_n rfl (g_getR (mz_at hS (Nat.le_of_ble_eq_true rfl) mzcS_219) mzcf_8_0 (mz_rb hR (Nat.le_of_ble_eq_true rfl) rfl mzcR_219_0) (g_iload_n rfl ?_))
  obtain ⟨h1, hp⟩ := hp
  refine g_aald4 (mz_at hS (Nat.le_of_ble_eq_true rfl) mzcS_220) h1 (mz_rb hR (Nat.le_of_ble_eq_true rfl) rfl (mzcR2_220 h1)) (g_bipush mzb_12 (g_iconst mzi_4 ?_))
  obtain ⟨h2, hp⟩ := hp
  refine g_s3v (Nat.le_of_ble_eq_true rfl) (fun _ hq => cs_61 (Nat.le_trans (Nat.le_of_ble_eq_true rfl) hd) (hS.le (Nat.le_of_ble_eq_true rfl)) (hR.le (Nat.le_of_ble_eq_true rfl)) (221 + v1.toNatClampNeg) 9600 (mz_at hS (mzcL2_220 h1 (Nat.le_of_ble_eq_true rfl)) (mzcS2_220 h1)) 12 4 N h2 hq) (g_l2i (g_istore_n (Nat.le_of_ble_eq_true rfl) rfl (g_aload_n rfl (g_iload_n rfl (g_iconst mzi_0 ?_)))))
  obtain ⟨h3, hp⟩ := hp
  refine g_v3v (Nat.le_of_ble_eq_true rfl) (mz_at hS (Nat.le_of_ble_eq_true rfl) mzcS_219) (fun _ hq => cs_94 (Nat.le_trans (Nat.le_of_ble_eq_true rfl) hd) (hS.le (Nat.le_of_ble_eq_true rfl)) (hR.le (Nat.le_of_ble_eq_true rfl))  v1 0 N h3 hq) ?_
  refine g_zeq (tg := 65) rfl ms_93_65 hC (fun h4 hC => ?_) (fun h4 hC => ?_)
  · have hp := hp.1 h4
    refine g_aload_n rfl (g_getR (mz_at hS (Nat.le_of_ble_eq_true rfl) mzcS_219) mzcf_8_0 (mz_rb hR (Nat.le_of_ble_eq_true rfl) rfl mzcR_219_0) (g_iload_n rfl ?_))
    obtain ⟨h5, hp⟩ := hp
    refine g_aald4 (mz_at hS (Nat.le_of_ble_eq_true rfl) mzcS_220) h5 (mz_rb hR (Nat.le_of_ble_eq_true rfl) rfl (mzcR2_220 h5)) (g_iconst mzi_0 (g_iald hS.1 (mz_at hS (mzcL2_220 h5 (Nat.le_of_ble_eq_true rfl)) (mzcS2_220 h5)) (mz_ibd (by decide)) ?_))
    refine g_ifne (tg := 65) rfl ms_93_65 hC (fun h6 hC => ?_) (fun h6 hC => ?_)
    · have hp := hp.1 h6
      refine g_aload_n rfl (g_getR (mz_at hS (Nat.le_of_ble_eq_true rfl) mzcS_219) mzcf_8_0 (mz_rb hR (Nat.le_of_ble_eq_true rfl) rfl mzcR_219_0) (g_iload_n rfl ?_))
      obtain ⟨h7, hp⟩ := hp
      refine g_aald4 (mz_at hS (Nat.le_of_ble_eq_true rfl) mzcS_220) h7 (mz_rb hR (Nat.le_of_ble_eq_true rfl) rfl (mzcR2_220 h7)) (g_iconst mzi_1 (g_iald hS.1 (mz_at hS (mzcL2_220 h7 (Nat.le_of_ble_eq_true rfl)) (mzcS2_220 h7)) (mz_ibd (by decide)) ?_))
      refine g_ifne (tg := 65) rfl ms_93_65 hC (fun h8 hC => ?_) (fun h8 hC => ?_)
      · have hp := hp.1 h8
        refine g_aload_n rfl (g_iload_n rfl (g_iconst mzi_0 ?_))
        obtain ⟨h9, hp⟩ := hp
        refine g_v3v (Nat.le_of_ble_eq_true rfl) (mz_at hS (Nat.le_of_ble_eq_true rfl) mzcS_219) (fun _ hq => cs_95 (Nat.le_trans (Nat.le_of_ble_eq_true rfl) hd) (hS.le (Nat.le_of_ble_eq_true rfl)) (hR.le (Nat.le_of_ble_eq_true rfl))  v1 0 N h9 hq) ?_
        refine g_zeq (tg := 65) rfl ms_93_65 hC (fun h10 hC => ?_) (fun h10 hC => ?_)
        · have hp := hp.1 h10
          refine g_iload_n rfl ?_
          refine g_iflt (tg := 65) rfl ms_93_65 hC (fun h11 hC => ?_) (fun h11 hC => ?_)
          · have hp := hp.1 h11
            refine g_iconst mzi_m1 ?_
            exact g_iret rfl (hr _ hC)
          · have hp := hp.2 h11
            refine g_iload_n rfl (g_sipush mzs_200 ?_)
            refine g_iclt (tg := 67) rfl ms_93_67 hC (fun h12 hC => ?_) (fun h12 hC => ?_)
            · have hp := hp.1 h12
              refine g_iconst mzi_1 (g_istore_n (Nat.le_of_ble_eq_true rfl) rfl ?_)
              refine g_weak ?_ (g_cl (cg_93_69 hd hS hR v1 ((cf_61_0 (221 + v1.toNatClampNeg) 9600 12 4 N).toInt32) 1 N hr hp hC))
              exact ⟨rfl, rfl, rfl, rfl, trivial⟩
            · have hp := hp.2 h12
              refine g_iconst mzi_m1 ?_
              exact g_iret rfl (hr _ hC)
        · have hp := hp.2 h10
          refine g_iconst mzi_m1 ?_
          exact g_iret rfl (hr _ hC)
      · have hp := hp.2 h8
        refine g_iconst mzi_m1 ?_
        exact g_iret rfl (hr _ hC)
    · have hp := hp.2 h6
      refine g_iconst mzi_m1 ?_
      exact g_iret rfl (hr _ hC)
  · have hp := hp.2 h4
    refine g_iconst mzi_m1 ?_
    exact g_iret rfl (hr _ hC)
theorem cs_93 (hd : 4 ≤ d) (hS : mz_extR S 232) (hR : mz_rok R 232)  (v1 : Int32) (N : mz_N) (hp : cp_93_0 v1 N) (hq : Q (.inl (some (.int (cf_93_0 v1 N)))) (mz_k S R N b t)) : mz_Ed (mz_X0 L xs) d 93 [.ref 219, .int v1] (mz_k S R N b t) Q :=
  by
  refine g_in mzq_93 (Nat.le_of_ble_eq_true rfl) (Nat.le_of_ble_eq_true rfl) (Nat.le_trans (Nat.le_of_ble_eq_true rfl) hd) ?_
  refine g_weak ?_ (cg_93_0 (d := d - 1) (by omega) hS hR v1 N (C0 := fun z => Q (.inl (some (.int z))) (mz_k S R N b t)) (fun _ h => h) hp hq)
  exact ⟨rfl, rfl, trivial⟩
/-! 99 KeptHouse$Store.lastCounting (II)I -/
theorem ms_99_0 : mz_sf mk_99 0 = mk_99 := mz_sf_zero _
theorem ms_99_7 : mz_sf mk_99 7 = mt_99_7 := mz_sf_add ms_99_0 (t := 7) rfl rfl
theorem ms_99_39 : mz_sf mk_99 39 = mt_99_39 := mz_sf_add ms_99_7 (t := 32) rfl rfl
theorem ms_99_42 : mz_sf mk_99 42 = mt_99_42 := mz_sf_add ms_99_39 (t := 3) rfl rfl
theorem ms_99_48 : mz_sf mk_99 48 = mt_99_48 := mz_sf_add ms_99_42 (t := 6) rfl rfl
set_option maxRecDepth 100000 in
theorem mzq_99 : mz_PG0 99 = some (8, ⟨"KeptHouse$Store", "lastCounting", "(II)I"⟩, prog_10_method_23_code, 5, some .int, [], mk_99, []) := rfl
theorem cg_99_42 (hd : 3 ≤ d) (hS : mz_extR S 232) (hR : mz_rok R 232)  (v1 : Int32) (v3 : Int32) (v4 : Int32) (N : mz_N) {C0 : (Int32) → Prop} (hr : ∀ (w : Int32), C0 w → Q (.inl (some (.int w))) (mz_k S R N b t)) {C1 : ((Int32 × Int32) ⊕ (Int32)) → Prop} (hc1 : ∀ s2, C1 (.inl s2) → mz_G (d, mz_X0 L xs, some .int, [], mk_99, 5, Q) 7 mt_99_7 [(0, .ref 219), (1, .int v1), (3, .int s2.1), (4, .int s2.2)] [] false (mz_k S R N b t)) (hx1 : ∀ z, C1 (.inr z) → C0 z) (hp : cp_99_42 v1 v3 v4 N) (hC : C1 (cf_99_42 v1 v3 v4 N)) : mz_G (d, mz_X0 L xs, some .int, [], mk_99, 5, Q) 42 mt_99_42 [(0, .ref 219), (1, .int v1), (3, .int v3), (4, .int v4)] [] false (mz_k S R N b t) := by
  unfold cf_99_42 at hC
  unfold cp_99_42 at hp
  refine g_iinc rfl mzi_1 (Nat.le_of_ble_eq_true rfl) rfl (g_goto (tg := 7) rfl ms_99_7 ?_)
  refine g_weak ?_ (g_cl (hc1 (v3, (v4 + 1)) hC))
  exact ⟨rfl, rfl, rfl, rfl, trivial⟩
theorem cb_99_7 (hd : 3 ≤ d) (hS : mz_extR S 232) (hR : mz_rok R 232)  (v1 : Int32) (N : mz_N) (s : Int32 × Int32) {C0 : (Int32) → Prop} (hr : ∀ (w : Int32), C0 w → Q (.inl (some (.int w))) (mz_k S R N b t)) {C1 : ((Int32 × Int32) ⊕ (Int32)) → Prop} (hc1 : ∀ s2, C1 (.inl s2) → mz_G (d, mz_X0 L xs, some .int, [], mk_99, 5, Q) 7 mt_99_7 [(0, .ref 219), (1, .int v1), (3, .int s2.1), (4, .int s2.2)] [] false (mz_k S R N b t)) (hx1 : ∀ z, C1 (.inr z) → C0 z) (hp : cd_99_7 v1 N s) (hC : C1 (cq_99_7 v1 N s)) : mz_G (d, mz_X0 L xs, some .int, [], mk_99, 5, Q) 7 mt_99_7 [(0, .ref 219), (1, .int v1), (3, .int s.1), (4, .int s.2)] [] false (mz_k S R N b t) := by
  unfold cq_99_7 at hC
  unfold cd_99_7 at hp
  refine g_iload rfl (g_sipush mzs_200 ?_)
  refine g_icge (tg := 48) rfl ms_99_48 hC (fun h1 hC => ?_) (fun h1 hC => ?_)
  · have hp := hp.1 h1
    refine g_aload_n rfl (g_iload_n rfl (g_iload rfl (g_aload_n rfl (g_getI (mz_at hS (Nat.le_of_ble_eq_true rfl) mzcS_219) mzcf_8_5 ?_))))
    obtain ⟨h2, hp⟩ := hp
    refine g_v4v (Nat.le_of_ble_eq_true rfl) (mz_at hS (Nat.le_of_ble_eq_true rfl) mzcS_219) (fun _ hq => cs_97 (Nat.le_trans (Nat.le_of_ble_eq_true rfl) hd) (hS.le (Nat.le_of_ble_eq_true rfl)) (hR.le (Nat.le_of_ble_eq_true rfl))  v1 s.2 (N.1 219 5) N h2 hq) ?_
    refine g_zeq (tg := 48) rfl ms_99_48 hC (fun h3 hC => ?_) (fun h3 hC => ?_)
    · have hp := hp.1 h3
      refine g_aload_n rfl (g_iload_n rfl (g_iload rfl ?_))
      obtain ⟨h4, hp⟩ := hp
      refine g_v3v (Nat.le_of_ble_eq_true rfl) (mz_at hS (Nat.le_of_ble_eq_true rfl) mzcS_219) (fun _ hq => cs_95 (Nat.le_trans (Nat.le_of_ble_eq_true rfl) hd) (hS.le (Nat.le_of_ble_eq_true rfl)) (hR.le (Nat.le_of_ble_eq_true rfl))  v1 s.2 N h4 hq) ?_
      refine g_zeq (tg := 42) rfl ms_99_42 hC (fun h5 hC => ?_) (fun h5 hC => ?_)
      · have hp := hp.1 h5
        refine g_iload rfl (g_istore_n (Nat.le_of_ble_eq_true rfl) rfl ?_)
        refine g_weak ?_ (g_cl (cg_99_42 hd hS hR v1 s.2 s.2 N hr hc1 hx1 hp hC))
        exact ⟨rfl, rfl, rfl, rfl, trivial⟩
      · have hp := hp.2 h5
        refine g_weak ?_ (g_cl (cg_99_42 hd hS hR v1 s.1 s.2 N hr hc1 hx1 hp hC))
        exact ⟨rfl, rfl, rfl, rfl, trivial⟩
    · have hp := hp.2 h3
      refine g_iload_n rfl ?_
      exact g_iret rfl (hr _ (hx1 _ hC))
  · have hp := hp.2 h1
    refine g_iload_n rfl ?_
    exact g_iret rfl (hr _ (hx1 _ hC))
theorem cg_99_7 (hd : 3 ≤ d) (hS : mz_extR S 232) (hR : mz_rok R 232)  (v1 : Int32) (v3 : Int32) (v4 : Int32) (N : mz_N) {C0 : (Int32) → Prop} (hr : ∀ (w : Int32), C0 w → Q (.inl (some (.int w))) (mz_k S R N b t)) (hp : cp_99_7 v1 v3 v4 N) (hC : C0 (cf_99_7 v1 v3 v4 N)) : mz_G (d, mz_X0 L xs, some .int, [], mk_99, 5, Q) 7 mt_99_7 [(0, .ref 219), (1, .int v1), (3, .int v3), (4, .int v4)] [] false (mz_k S R N b t) := by
  obtain ⟨n, hn⟩ := hp
  exact g_loop (G := fun s => mz_G (d, mz_X0 L xs, some .int, [], mk_99, 5, Q) 7 mt_99_7 [(0, .ref 219), (1, .int v1), (3, .int s.1), (4, .int s.2)] [] false (mz_k S R N b t)) (C := C0) (fun C2 hc hx s hP hC => cb_99_7 hd hS hR v1 N s hr hc hx hP hC) n (v3, v4) hn hC
theorem cg_99_0 (hd : 3 ≤ d) (hS : mz_extR S 232) (hR : mz_rok R 232)  (v1 : Int32) (v2 : Int32) (N : mz_N) {C0 : (Int32) → Prop} (hr : ∀ (w : Int32), C0 w → Q (.inl (some (.int w))) (mz_k S R N b t)) (hp : cp_99_0 v1 v2 N) (hC : C0 (cf_99_0 v1 v2 N)) : mz_G (d, mz_X0 L xs, some .int, [], mk_99, 5, Q) 0 mk_99 [(0, .ref 219), (1, .int v1), (2, .int v2)] [] true (mz_k S R N b t) := by
  unfold cf_99_0 at hC
  unfold cp_99_0 at hp
  refine g_iload_n rfl (g_istore_n (Nat.le_of_ble_eq_true rfl) rfl (g_iload_n rfl (g_iconst mzi_1 (g_iadd (g_istore (Nat.le_of_ble_eq_true rfl) rfl ?_)))))
  refine g_weak ?_ (g_cl (cg_99_7 hd hS hR v1 v2 (v2 + 1) N hr hp hC))
  exact ⟨rfl, rfl, rfl, rfl, trivial⟩
theorem cs_99 (hd : 4 ≤ d) (hS : mz_extR S 232) (hR : mz_rok R 232)  (v1 : Int32) (v2 : Int32) (N : mz_N) (hp : cp_99_0 v1 v2 N) (hq : Q (.inl (some (.int (cf_99_0 v1 v2 N)))) (mz_k S R N b t)) : mz_Ed (mz_X0 L xs) d 99 [.ref 219, .int v1, .int v2] (mz_k S R N b t) Q :=
  by
  refine g_in mzq_99 (Nat.le_of_ble_eq_true rfl) (Nat.le_of_ble_eq_true rfl) (Nat.le_trans (Nat.le_of_ble_eq_true rfl) hd) ?_
  refine g_weak ?_ (cg_99_0 (d := d - 1) (by omega) hS hR v1 v2 N (C0 := fun z => Q (.inl (some (.int z))) (mz_k S R N b t)) (fun _ h => h) hp hq)
  exact ⟨rfl, rfl, rfl, trivial⟩
/-! 92 KeptHouse$Store.open ()I -/
theorem ms_92_0 : mz_sf mk_92 0 = mk_92 := mz_sf_zero _
theorem ms_92_22 : mz_sf mk_92 22 = mt_92_22 := mz_sf_add ms_92_0 (t := 22) rfl rfl
theorem ms_92_37 : mz_sf mk_92 37 = mt_92_37 := mz_sf_add ms_92_22 (t := 15) rfl rfl
theorem ms_92_41 : mz_sf mk_92 41 = mt_92_41 := mz_sf_add ms_92_37 (t := 4) rfl rfl
theorem ms_92_42 : mz_sf mk_92 42 = mt_92_42 := mz_sf_add ms_92_41 (t := 1) rfl rfl
theorem ms_92_52 : mz_sf mk_92 52 = mt_92_52 := mz_sf_add ms_92_42 (t := 10) rfl rfl
theorem ms_92_53 : mz_sf mk_92 53 = mt_92_53 := mz_sf_add ms_92_52 (t := 1) rfl rfl
theorem ms_92_83 : mz_sf mk_92 83 = mt_92_83 := mz_sf_add ms_92_53 (t := 30) rfl rfl
theorem ms_92_84 : mz_sf mk_92 84 = mt_92_84 := mz_sf_add ms_92_83 (t := 1) rfl rfl
theorem ms_92_111 : mz_sf mk_92 111 = mt_92_111 := mz_sf_add ms_92_84 (t := 27) rfl rfl
theorem ms_92_156 : mz_sf mk_92 156 = mt_92_156 := mz_sf_add ms_92_111 (t := 45) rfl rfl
theorem ms_92_190 : mz_sf mk_92 190 = mt_92_190 := mz_sf_add ms_92_156 (t := 34) rfl rfl
theorem ms_92_198 : mz_sf mk_92 198 = mt_92_198 := mz_sf_add ms_92_190 (t := 8) rfl rfl
theorem ms_92_204 : mz_sf mk_92 204 = mt_92_204 := mz_sf_add ms_92_198 (t := 6) rfl rfl
set_option maxRecDepth 100000 in
theorem mzq_92 : mz_PG0 92 = some (8, ⟨"KeptHouse$Store", "open", "()I"⟩, prog_10_method_18_code, 8, some .int, [], mk_92, []) := rfl
theorem cg_92_198 (hd : 4 ≤ d) (hS : mz_extR S 232) (hR : mz_rok R 232)  (v4 : Int32) (v5 : Int32) (N : mz_N) {C0 : (Int32 × mz_N) → Prop} (hr : ∀ (w : Int32) (N2 : mz_N), C0 (w, N2) → Q (.inl (some (.int w))) (mz_k S R N2 b t)) {C1 : ((Int32 × mz_N) ⊕ (Int32 × mz_N)) → Prop} (hc1 : ∀ s2, C1 (.inl s2) → mz_G (d, mz_X0 L xs, some .int, [], mk_92, 8, Q) 111 mt_92_111 [(0, .ref 219), (4, .int v4), (5, .int s2.1)] [] false (mz_k S R s2.2 b t)) (hx1 : ∀ z, C1 (.inr z) → C0 z) (hp : cp_92_198 v4 v5 N) (hC : C1 (cf_92_198 v4 v5 N)) : mz_G (d, mz_X0 L xs, some .int, [], mk_92, 8, Q) 198 mt_92_198 [(0, .ref 219), (4, .int v4), (5, .int v5)] [] false (mz_k S R N b t) := by
  unfold cf_92_198 at hC
  unfold cp_92_198 at hp
  refine g_iinc rfl mzi_1 (Nat.le_of_ble_eq_true rfl) rfl (g_goto (tg := 111) rfl ms_92_111 ?_)
  refine g_weak ?_ (g_cl (hc1 ((v5 + 1), N) hC))
  exact ⟨rfl, rfl, rfl, trivial⟩
theorem cg_92_190 (hd : 4 ≤ d) (hS : mz_extR S 232) (hR : mz_rok R 232)  (v4 : Int32) (v5 : Int32) (v7 : Int32) (N : mz_N) {C0 : (Int32 × mz_N) → Prop} (hr : ∀ (w : Int32) (N2 : mz_N), C0 (w, N2) → Q (.inl (some (.int w))) (mz_k S R N2 b t)) {C1 : ((Int32 × mz_N) ⊕ (Int32 × mz_N)) → Prop} (hc1 : ∀ s2, C1 (.inl s2) → mz_G (d, mz_X0 L xs, some .int, [], mk_92, 8, Q) 111 mt_92_111 [(0, .ref 219), (4, .int v4), (5, .int s2.1)] [] false (mz_k S R s2.2 b t)) (hx1 : ∀ z, C1 (.inr z) → C0 z) (hp : cp_92_190 v4 v5 v7 N) (hC : C1 (cf_92_190 v4 v5 v7 N)) : mz_G (d, mz_X0 L xs, some .int, [], mk_92, 8, Q) 190 mt_92_190 [(0, .ref 219), (4, .int v4), (5, .int v5), (7, .int v7)] [] false (mz_k S R N b t) := by
  unfold cf_92_190 at hC
  unfold cp_92_190 at hp
  refine g_aload_n rfl (g_getR (mz_at hS (Nat.le_of_ble_eq_true rfl) mzcS_219) mzcf_8_2 (mz_rb hR (Nat.le_of_ble_eq_true rfl) rfl mzcR_219_2) (g_iload rfl (g_iconst mzi_1 ?_)))
  obtain ⟨h1, hp⟩ := hp
  refine g_iast (mz_at hS (Nat.le_of_ble_eq_true rfl) mzcS_224) h1 ?_
  refine g_weak ?_ (g_cl (cg_92_198 hd hS hR v4 v5 (mz_wI N 224 v7 1) hr hc1 hx1 hp hC))
  exact ⟨rfl, rfl, rfl, trivial⟩
theorem cb_92_111 (hd : 4 ≤ d) (hS : mz_extR S 232) (hR : mz_rok R 232)  (v4 : Int32) (s : Int32 × mz_N) {C0 : (Int32 × mz_N) → Prop} (hr : ∀ (w : Int32) (N2 : mz_N), C0 (w, N2) → Q (.inl (some (.int w))) (mz_k S R N2 b t)) {C1 : ((Int32 × mz_N) ⊕ (Int32 × mz_N)) → Prop} (hc1 : ∀ s2, C1 (.inl s2) → mz_G (d, mz_X0 L xs, some .int, [], mk_92, 8, Q) 111 mt_92_111 [(0, .ref 219), (4, .int v4), (5, .int s2.1)] [] false (mz_k S R s2.2 b t)) (hx1 : ∀ z, C1 (.inr z) → C0 z) (hp : cd_92_111 v4 s) (hC : C1 (cq_92_111 v4 s)) : mz_G (d, mz_X0 L xs, some .int, [], mk_92, 8, Q) 111 mt_92_111 [(0, .ref 219), (4, .int v4), (5, .int s.1)] [] false (mz_k S R s.2 b t) := by
  unfold cq_92_111 at hC
  unfold cd_92_111 at hp
  refine g_iload rfl (g_iload rfl ?_)
  refine g_icgt (tg := 204) rfl ms_92_204 hC (fun h1 hC => ?_) (fun h1 hC => ?_)
  · have hp := hp.1 h1
    refine g_aload_n rfl (g_iload rfl (g_iconst mzi_1 (g_iadd (g_putI (mz_at hS (Nat.le_of_ble_eq_true rfl) mzcS_219) mzcf_8_6 (g_aload_n rfl (g_iconst mzi_0 (g_putZ (z := false) (mz_at hS (Nat.le_of_ble_eq_true rfl) mzcS_219) mzcf_8_7 ?_)))))))
    refine g_iload rfl ?_
    exact g_iret rfl (hr _ _ (hx1 _ hC))
  · have hp := hp.2 h1
    refine g_iload rfl (g_bipush mzb_48 (g_imul (g_istore (Nat.le_of_ble_eq_true rfl) rfl (g_aload_n rfl (g_getR (mz_at hS (Nat.le_of_ble_eq_true rfl) mzcS_219) mzcf_8_0 (mz_rb hR (Nat.le_of_ble_eq_true rfl) rfl mzcR_219_0) (g_aload_n rfl (g_getI (mz_at hS (Nat.le_of_ble_eq_true rfl) mzcS_219) mzcf_8_4 ?_)))))))
    obtain ⟨h2, hp⟩ := hp
    refine g_aald4 (mz_at hS (Nat.le_of_ble_eq_true rfl) mzcS_220) h2 (mz_rb hR (Nat.le_of_ble_eq_true rfl) rfl (mzcR2_220 h2)) (g_iload rfl ?_)
    obtain ⟨h3, hp⟩ := hp
    refine g_iald hS.1 (mz_at hS (mzcL2_220 h2 (Nat.le_of_ble_eq_true rfl)) (mzcS2_220 h2)) h3 (g_aload_n rfl (g_getR (mz_at hS (Nat.le_of_ble_eq_true rfl) mzcS_219) mzcf_8_0 (mz_rb hR (Nat.le_of_ble_eq_true rfl) rfl mzcR_219_0) (g_aload_n rfl (g_getI (mz_at hS (Nat.le_of_ble_eq_true rfl) mzcS_219) mzcf_8_4 ?_))))
    obtain ⟨h4, hp⟩ := hp
    refine g_aald4 (mz_at hS (Nat.le_of_ble_eq_true rfl) mzcS_220) h4 (mz_rb hR (Nat.le_of_ble_eq_true rfl) rfl (mzcR2_220 h4)) (g_iload rfl (g_iconst mzi_1 (g_iadd ?_)))
    obtain ⟨h5, hp⟩ := hp
    refine g_iald hS.1 (mz_at hS (mzcL2_220 h4 (Nat.le_of_ble_eq_true rfl)) (mzcS2_220 h4)) h5 ?_
    obtain ⟨h6, hp⟩ := hp
    refine g_s2v (Nat.le_of_ble_eq_true rfl) (fun _ hq => cs_98 (Nat.le_trans (Nat.le_of_ble_eq_true rfl) hd) (hS.le (Nat.le_of_ble_eq_true rfl)) (hR.le (Nat.le_of_ble_eq_true rfl))  (mz_gI s.2 (221 + (s.2.1 219 4).toNatClampNeg) (s.1 * 48)) (mz_gI s.2 (221 + (s.2.1 219 4).toNatClampNeg) ((s.1 * 48) + 1)) h6 hq) (g_istore (Nat.le_of_ble_eq_true rfl) rfl (g_iload rfl (g_iconst mzi_m1 ?_)))
    refine g_iceq (tg := 198) rfl ms_92_198 hC (fun h7 hC => ?_) (fun h7 hC => ?_)
    · have hp := hp.1 h7
      refine g_weak ?_ (g_cl (cg_92_198 hd hS hR v4 s.1 s.2 hr hc1 hx1 hp hC))
      exact ⟨rfl, rfl, rfl, trivial⟩
    · have hp := hp.2 h7
      refine g_aload_n rfl (g_getR (mz_at hS (Nat.le_of_ble_eq_true rfl) mzcS_219) mzcf_8_0 (mz_rb hR (Nat.le_of_ble_eq_true rfl) rfl mzcR_219_0) (g_aload_n rfl (g_getI (mz_at hS (Nat.le_of_ble_eq_true rfl) mzcS_219) mzcf_8_4 ?_)))
      obtain ⟨h8, hp⟩ := hp
      refine g_aald4 (mz_at hS (Nat.le_of_ble_eq_true rfl) mzcS_220) h8 (mz_rb hR (Nat.le_of_ble_eq_true rfl) rfl (mzcR2_220 h8)) (g_iload rfl (g_bipush mzb_12 (g_iadd (g_aload_n rfl (g_getR (mz_at hS (Nat.le_of_ble_eq_true rfl) mzcS_219) mzcf_8_1 (mz_rb hR (Nat.le_of_ble_eq_true rfl) rfl mzcR_219_1) (g_iload rfl (g_bipush mzb_28 ?_)))))))
      refine g_imul (g_bipush mzb_28 ?_)
      obtain ⟨h9, hp⟩ := hp
      refine g_cpI (Nat.le_of_ble_eq_true rfl) (mz_at hS (mzcL2_220 h8 (Nat.le_of_ble_eq_true rfl)) (mzcS2_220 h8)) (mz_at hS (Nat.le_of_ble_eq_true rfl) mzcS_223) h9 ?_
      refine g_weak ?_ (g_cl (cg_92_190 hd hS hR v4 s.1 (cf_98_0 (mz_gI s.2 (221 + (s.2.1 219 4).toNatClampNeg) (s.1 * 48)) (mz_gI s.2 (221 + (s.2.1 219 4).toNatClampNeg) ((s.1 * 48) + 1))) (mz_yI s.2 (221 + (s.2.1 219 4).toNatClampNeg) ((s.1 * 48) + 12) 223 ((cf_98_0 (mz_gI s.2 (221 + (s.2.1 219 4).toNatClampNeg) (s.1 * 48)) (mz_gI s.2 (221 + (s.2.1 219 4).toNatClampNeg) ((s.1 * 48) + 1))) * 28) 28) hr hc1 hx1 hp hC))
      exact ⟨rfl, rfl, rfl, rfl, trivial⟩
theorem cg_92_111 (hd : 4 ≤ d) (hS : mz_extR S 232) (hR : mz_rok R 232)  (v4 : Int32) (v5 : Int32) (N : mz_N) {C0 : (Int32 × mz_N) → Prop} (hr : ∀ (w : Int32) (N2 : mz_N), C0 (w, N2) → Q (.inl (some (.int w))) (mz_k S R N2 b t)) (hp : cp_92_111 v4 v5 N) (hC : C0 (cf_92_111 v4 v5 N)) : mz_G (d, mz_X0 L xs, some .int, [], mk_92, 8, Q) 111 mt_92_111 [(0, .ref 219), (4, .int v4), (5, .int v5)] [] false (mz_k S R N b t) := by
  obtain ⟨n, hn⟩ := hp
  exact g_loop (G := fun s => mz_G (d, mz_X0 L xs, some .int, [], mk_92, 8, Q) 111 mt_92_111 [(0, .ref 219), (4, .int v4), (5, .int s.1)] [] false (mz_k S R s.2 b t)) (C := C0) (fun C2 hc hx s hP hC => cb_92_111 hd hS hR v4 s hr hc hx hP hC) n (v5, N) hn hC
theorem cg_92_84 (hd : 4 ≤ d) (hS : mz_extR S 232) (hR : mz_rok R 232)  (s1 : Int32) (s2 : Int32) (s3 : Int32) (N : mz_N) {C0 : (Int32 × mz_N) → Prop} (hr : ∀ (w : Int32) (N2 : mz_N), C0 (w, N2) → Q (.inl (some (.int w))) (mz_k S R N2 b t)) (hp : cp_92_84 s1 s2 s3 N) (hC : C0 (cf_92_84 s1 s2 s3 N)) : mz_G (d, mz_X0 L xs, some .int, [], mk_92, 8, Q) 84 mt_92_84 [(0, .ref 219)] [.int s3, .int s2, .int s1, .ref 219] false (mz_k S R N b t) := by
  unfold cf_92_84 at hC
  unfold cp_92_84 at hp
  refine g_imax (Nat.le_of_ble_eq_true rfl) ?_
  obtain ⟨h1, hp⟩ := hp
  refine g_v3v (Nat.le_of_ble_eq_true rfl) (mz_at hS (Nat.le_of_ble_eq_true rfl) mzcS_219) (fun _ hq => cs_99 (Nat.le_trans (Nat.le_of_ble_eq_true rfl) hd) (hS.le (Nat.le_of_ble_eq_true rfl)) (hR.le (Nat.le_of_ble_eq_true rfl))  s1 (mz_imax s2 s3) N h1 hq) (g_istore (Nat.le_of_ble_eq_true rfl) rfl (g_aload_n rfl (g_getR (mz_at hS (Nat.le_of_ble_eq_true rfl) mzcS_219) mzcf_8_1 (mz_rb hR (Nat.le_of_ble_eq_true rfl) rfl mzcR_219_1) (g_iconst mzi_0 ?_))))
  obtain ⟨h2, hp⟩ := hp
  refine g_s2n (Nat.le_of_ble_eq_true rfl) (fun _ hq => cs_13 (Nat.le_trans (Nat.le_of_ble_eq_true rfl) hd) (hS.le (Nat.le_of_ble_eq_true rfl)) (hR.le (Nat.le_of_ble_eq_true rfl)) 223 3780 (mz_at hS (Nat.le_of_ble_eq_true rfl) mzcS_223) 0 N h2 hq) (g_aload_n rfl (g_getR (mz_at hS (Nat.le_of_ble_eq_true rfl) mzcS_219) mzcf_8_2 (mz_rb hR (Nat.le_of_ble_eq_true rfl) rfl mzcR_219_2) (g_iconst mzi_0 ?_)))
  obtain ⟨h3, hp⟩ := hp
  refine g_s2n (Nat.le_of_ble_eq_true rfl) (fun _ hq => cs_13 (Nat.le_trans (Nat.le_of_ble_eq_true rfl) hd) (hS.le (Nat.le_of_ble_eq_true rfl)) (hR.le (Nat.le_of_ble_eq_true rfl)) 224 135 (mz_at hS (Nat.le_of_ble_eq_true rfl) mzcS_224) 0 (cf_13_0 223 3780 0 N) h3 hq) (g_iconst mzi_1 (g_istore (Nat.le_of_ble_eq_true rfl) rfl ?_))
  refine g_weak ?_ (g_cl (cg_92_111 hd hS hR (cf_99_0 s1 (mz_imax s2 s3) N) 1 (cf_13_0 224 135 0 (cf_13_0 223 3780 0 N)) hr hp hC))
  exact ⟨rfl, rfl, rfl, trivial⟩
theorem cg_92_53 (hd : 4 ≤ d) (hS : mz_extR S 232) (hR : mz_rok R 232)  (s1 : Bool) (v1 : Int32) (v2 : Int32) (v3 : Bool) (N : mz_N) {C0 : (Int32 × mz_N) → Prop} (hr : ∀ (w : Int32) (N2 : mz_N), C0 (w, N2) → Q (.inl (some (.int w))) (mz_k S R N2 b t)) (hp : cp_92_53 s1 v1 v2 v3 N) (hC : C0 (cf_92_53 s1 v1 v2 v3 N)) : mz_G (d, mz_X0 L xs, some .int, [], mk_92, 8, Q) 53 mt_92_53 [(0, .ref 219), (1, .int v1), (2, .int v2), (3, .int (mz_b01 v3))] [.int (mz_b01 s1), .ref 219] false (mz_k S R N b t) := by
  unfold cf_92_53 at hC
  unfold cp_92_53 at hp
  refine g_putI (mz_at hS (Nat.le_of_ble_eq_true rfl) mzcS_219) mzcf_8_4 (g_aload_n rfl (g_aload_n rfl (g_aload_n rfl (g_getI (mz_at hS (Nat.le_of_ble_eq_true rfl) mzcS_219) mzcf_8_4 (g_iconst mzi_0 ?_)))))
  obtain ⟨h1, hp⟩ := hp
  refine g_v3v (Nat.le_of_ble_eq_true rfl) (mz_at hS (Nat.le_of_ble_eq_true rfl) mzcS_219) (fun _ hq => cs_96 (Nat.le_trans (Nat.le_of_ble_eq_true rfl) hd) (hS.le (Nat.le_of_ble_eq_true rfl)) (hR.le (Nat.le_of_ble_eq_true rfl))  ((mz_pI N 219 4 (mz_b01 s1)).1 219 4) 0 (mz_pI N 219 4 (mz_b01 s1)) h1 hq) (g_putI (mz_at hS (Nat.le_of_ble_eq_true rfl) mzcS_219) mzcf_8_5 (g_aload_n rfl (g_aload_n rfl (g_getI (mz_at hS (Nat.le_of_ble_eq_true rfl) mzcS_219) mzcf_8_4 (g_iconst mzi_0 (g_iload_n rfl ?_))))))
  refine g_zeq (tg := 83) rfl ms_92_83 hC (fun h2 hC => ?_) (fun h2 hC => ?_)
  · have hp := hp.1 h2
    refine g_iload_n rfl (g_goto (tg := 84) rfl ms_92_84 ?_)
    refine g_weak ?_ (g_cl (cg_92_84 hd hS hR ((mz_pI (mz_pI N 219 4 (mz_b01 s1)) 219 5 (cf_96_0 ((mz_pI N 219 4 (mz_b01 s1)).1 219 4) 0 (mz_pI N 219 4 (mz_b01 s1)))).1 219 4) 0 v2 (mz_pI (mz_pI N 219 4 (mz_b01 s1)) 219 5 (cf_96_0 ((mz_pI N 219 4 (mz_b01 s1)).1 219 4) 0 (mz_pI N 219 4 (mz_b01 s1)))) hr hp hC))
    exact ⟨rfl, trivial⟩
  · have hp := hp.2 h2
    refine g_iload_n rfl ?_
    refine g_weak ?_ (g_cl (cg_92_84 hd hS hR ((mz_pI (mz_pI N 219 4 (mz_b01 s1)) 219 5 (cf_96_0 ((mz_pI N 219 4 (mz_b01 s1)).1 219 4) 0 (mz_pI N 219 4 (mz_b01 s1)))).1 219 4) 0 v1 (mz_pI (mz_pI N 219 4 (mz_b01 s1)) 219 5 (cf_96_0 ((mz_pI N 219 4 (mz_b01 s1)).1 219 4) 0 (mz_pI N 219 4 (mz_b01 s1)))) hr hp hC))
    exact ⟨rfl, trivial⟩
theorem cg_92_42 (hd : 4 ≤ d) (hS : mz_extR S 232) (hR : mz_rok R 232)  (s0 : Bool) (v1 : Int32) (v2 : Int32) (N : mz_N) {C0 : (Int32 × mz_N) → Prop} (hr : ∀ (w : Int32) (N2 : mz_N), C0 (w, N2) → Q (.inl (some (.int w))) (mz_k S R N2 b t)) (hp : cp_92_42 s0 v1 v2 N) (hC : C0 (cf_92_42 s0 v1 v2 N)) : mz_G (d, mz_X0 L xs, some .int, [], mk_92, 8, Q) 42 mt_92_42 [(0, .ref 219), (1, .int v1), (2, .int v2)] [.int (mz_b01 s0)] false (mz_k S R N b t) := by
  unfold cf_92_42 at hC
  unfold cp_92_42 at hp
  refine g_istore_n (Nat.le_of_ble_eq_true rfl) rfl (g_aload_n rfl (g_iload_n rfl ?_))
  refine g_zeq (tg := 52) rfl ms_92_52 hC (fun h1 hC => ?_) (fun h1 hC => ?_)
  · have hp := hp.1 h1
    refine g_iconst mzi_1 (g_goto (tg := 53) rfl ms_92_53 ?_)
    refine g_weak ?_ (g_cl (cg_92_53 hd hS hR true v1 v2 s0 N hr hp hC))
    exact ⟨rfl, rfl, rfl, rfl, trivial⟩
  · have hp := hp.2 h1
    refine g_iconst mzi_0 ?_
    refine g_weak ?_ (g_cl (cg_92_53 hd hS hR false v1 v2 s0 N hr hp hC))
    exact ⟨rfl, rfl, rfl, rfl, trivial⟩
theorem cg_92_41 (hd : 4 ≤ d) (hS : mz_extR S 232) (hR : mz_rok R 232)  (v1 : Int32) (v2 : Int32) (N : mz_N) {C0 : (Int32 × mz_N) → Prop} (hr : ∀ (w : Int32) (N2 : mz_N), C0 (w, N2) → Q (.inl (some (.int w))) (mz_k S R N2 b t)) (hp : cp_92_41 v1 v2 N) (hC : C0 (cf_92_41 v1 v2 N)) : mz_G (d, mz_X0 L xs, some .int, [], mk_92, 8, Q) 41 mt_92_41 [(0, .ref 219), (1, .int v1), (2, .int v2)] [] false (mz_k S R N b t) := by
  unfold cf_92_41 at hC
  unfold cp_92_41 at hp
  refine g_iconst mzi_0 ?_
  refine g_weak ?_ (g_cl (cg_92_42 hd hS hR false v1 v2 N hr hp hC))
  exact ⟨rfl, rfl, rfl, trivial⟩
theorem cg_92_37 (hd : 4 ≤ d) (hS : mz_extR S 232) (hR : mz_rok R 232)  (v1 : Int32) (v2 : Int32) (N : mz_N) {C0 : (Int32 × mz_N) → Prop} (hr : ∀ (w : Int32) (N2 : mz_N), C0 (w, N2) → Q (.inl (some (.int w))) (mz_k S R N2 b t)) (hp : cp_92_37 v1 v2 N) (hC : C0 (cf_92_37 v1 v2 N)) : mz_G (d, mz_X0 L xs, some .int, [], mk_92, 8, Q) 37 mt_92_37 [(0, .ref 219), (1, .int v1), (2, .int v2)] [] false (mz_k S R N b t) := by
  unfold cf_92_37 at hC
  unfold cp_92_37 at hp
  refine g_iconst mzi_1 (g_goto (tg := 42) rfl ms_92_42 ?_)
  refine g_weak ?_ (g_cl (cg_92_42 hd hS hR true v1 v2 N hr hp hC))
  exact ⟨rfl, rfl, rfl, trivial⟩
theorem cg_92_0 (hd : 4 ≤ d) (hS : mz_extR S 232) (hR : mz_rok R 232)  (N : mz_N) {C0 : (Int32 × mz_N) → Prop} (hr : ∀ (w : Int32) (N2 : mz_N), C0 (w, N2) → Q (.inl (some (.int w))) (mz_k S R N2 b t)) (hp : cp_92_0 N) (hC : C0 (cf_92_0 N)) : mz_G (d, mz_X0 L xs, some .int, [], mk_92, 8, Q) 0 mk_92 [(0, .ref 219)] [] true (mz_k S R N b t) := by
  unfold cf_92_0 at hC
  unfold cp_92_0 at hp
  refine g_aload_n rfl (g_iconst mzi_0 ?_)
  obtain ⟨h1, hp⟩ := hp
  refine g_v2v (Nat.le_of_ble_eq_true rfl) (mz_at hS (Nat.le_of_ble_eq_true rfl) mzcS_219) (fun _ hq => cs_93 (Nat.le_trans (Nat.le_of_ble_eq_true rfl) hd) (hS.le (Nat.le_of_ble_eq_true rfl)) (hR.le (Nat.le_of_ble_eq_true rfl))  0 N h1 hq) (g_istore_n (Nat.le_of_ble_eq_true rfl) rfl (g_aload_n rfl (g_iconst mzi_1 ?_)))
  obtain ⟨h2, hp⟩ := hp
  refine g_v2v (Nat.le_of_ble_eq_true rfl) (mz_at hS (Nat.le_of_ble_eq_true rfl) mzcS_219) (fun _ hq => cs_93 (Nat.le_trans (Nat.le_of_ble_eq_true rfl) hd) (hS.le (Nat.le_of_ble_eq_true rfl)) (hR.le (Nat.le_of_ble_eq_true rfl))  1 N h2 hq) (g_istore_n (Nat.le_of_ble_eq_true rfl) rfl (g_iload_n rfl (g_iconst mzi_m1 ?_)))
  refine g_iceq (tg := 41) rfl ms_92_41 hC (fun h3 hC => ?_) (fun h3 hC => ?_)
  · have hp := hp.1 h3
    refine g_weak ?_ (g_cl (cg_92_41 hd hS hR (cf_93_0 0 N) (cf_93_0 1 N) N hr hp hC))
    exact ⟨rfl, rfl, rfl, trivial⟩
  · have hp := hp.2 h3
    refine g_iload_n rfl (g_iconst mzi_m1 ?_)
    refine g_iceq (tg := 37) rfl ms_92_37 hC (fun h4 hC => ?_) (fun h4 hC => ?_)
    · have hp := hp.1 h4
      refine g_weak ?_ (g_cl (cg_92_37 hd hS hR (cf_93_0 0 N) (cf_93_0 1 N) N hr hp hC))
      exact ⟨rfl, rfl, rfl, trivial⟩
    · have hp := hp.2 h4
      refine g_aload_n rfl (g_iconst mzi_1 (g_iconst mzi_0 ?_))
      obtain ⟨h5, hp⟩ := hp
      refine g_v3v (Nat.le_of_ble_eq_true rfl) (mz_at hS (Nat.le_of_ble_eq_true rfl) mzcS_219) (fun _ hq => cs_96 (Nat.le_trans (Nat.le_of_ble_eq_true rfl) hd) (hS.le (Nat.le_of_ble_eq_true rfl)) (hR.le (Nat.le_of_ble_eq_true rfl))  1 0 N h5 hq) (g_aload_n rfl (g_iconst mzi_0 (g_iconst mzi_0 ?_)))
      obtain ⟨h6, hp⟩ := hp
      refine g_v3v (Nat.le_of_ble_eq_true rfl) (mz_at hS (Nat.le_of_ble_eq_true rfl) mzcS_219) (fun _ hq => cs_96 (Nat.le_trans (Nat.le_of_ble_eq_true rfl) hd) (hS.le (Nat.le_of_ble_eq_true rfl)) (hR.le (Nat.le_of_ble_eq_true rfl))  0 0 N h6 hq) ?_
      refine g_icle (tg := 41) rfl ms_92_41 hC (fun h7 hC => ?_) (fun h7 hC => ?_)
      · have hp := hp.1 h7
        refine g_weak ?_ (g_cl (cg_92_37 hd hS hR (cf_93_0 0 N) (cf_93_0 1 N) N hr hp hC))
        exact ⟨rfl, rfl, rfl, trivial⟩
      · have hp := hp.2 h7
        refine g_weak ?_ (g_cl (cg_92_41 hd hS hR (cf_93_0 0 N) (cf_93_0 1 N) N hr hp hC))
        exact ⟨rfl, rfl, rfl, trivial⟩
theorem cs_92 (hd : 5 ≤ d) (hS : mz_extR S 232) (hR : mz_rok R 232)  (N : mz_N) (hp : cp_92_0 N) (hq : Q (.inl (some (.int ((cf_92_0 N).1)))) (mz_k S R ((cf_92_0 N).2) b t)) : mz_Ed (mz_X0 L xs) d 92 [.ref 219] (mz_k S R N b t) Q :=
  by
  refine g_in mzq_92 (Nat.le_of_ble_eq_true rfl) (Nat.le_of_ble_eq_true rfl) (Nat.le_trans (Nat.le_of_ble_eq_true rfl) hd) ?_
  refine g_weak ?_ (cg_92_0 (d := d - 1) (by omega) hS hR N (C0 := fun z => Q (.inl (some (.int z.1))) (mz_k S R z.2 b t)) (fun _ _ h => h) hp hq)
  exact ⟨rfl, trivial⟩
/-! 91 KeptHouse.reopen ()I -/
theorem ms_91_0 : mz_sf mk_91 0 = mk_91 := mz_sf_zero _
set_option maxRecDepth 100000 in
theorem mzq_91 : mz_PG0 91 = some (11, ⟨"KeptHouse", "reopen", "()I"⟩, prog_1_method_62_code, 2, some .int, [], mk_91, []) := rfl
theorem cg_91_0 (hd : 7 ≤ d) (hS : mz_extR S 232) (hR : mz_rok R 232)  (N : mz_N) (b : Bool) {C0 : (Int32 × mz_N × Bool) → Prop} (hr : ∀ (w : Int32) (N2 : mz_N) (b2 : Bool), C0 (w, N2, b2) → Q (.inl (some (.int w))) (mz_k S R N2 b2 t)) (hp : cp_91_0 N b) (hC : C0 (cf_91_0 N b)) : mz_G (d, mz_X0 L xs, some .int, [], mk_91, 2, Q) 0 mk_91 [(0, .ref 0)] [] true (mz_k S R N b t) := by
  unfold cf_91_0 at hC
  unfold cp_91_0 at hp
  refine g_aload_n rfl (g_getR (mz_at hS (Nat.le_of_ble_eq_true rfl) mzcS_0) mzcf_11_9 (mz_rb hR (Nat.le_of_ble_eq_true rfl) rfl mzcR_0_9) ?_)
  obtain ⟨h1, hp⟩ := hp
  refine g_v1v (Nat.le_of_ble_eq_true rfl) (mz_at hS (Nat.le_of_ble_eq_true rfl) mzcS_219) (fun _ hq => cs_92 (Nat.le_trans (Nat.le_of_ble_eq_true rfl) hd) (hS.le (Nat.le_of_ble_eq_true rfl)) (hR.le (Nat.le_of_ble_eq_true rfl))  N h1 hq) (g_istore_n (Nat.le_of_ble_eq_true rfl) rfl (g_aload_n rfl (g_getR (mz_at hS (Nat.le_of_ble_eq_true rfl) mzcS_0) mzcf_11_0 (mz_rb hR (Nat.le_of_ble_eq_true rfl) rfl mzcR_0_0) ?_)))
  have h2 := hp
  refine g_v1n (Nat.le_of_ble_eq_true rfl) (mz_at hS (Nat.le_of_ble_eq_true rfl) mzcS_1) (fun _ hq => cs_17 (Nat.le_trans (Nat.le_of_ble_eq_true rfl) hd) (hS.le (Nat.le_of_ble_eq_true rfl)) (hR.le (Nat.le_of_ble_eq_true rfl))  ((cf_92_0 N).2) b h2 hq) (g_iload_n rfl ?_)
  exact g_iret rfl (hr _ _ _ hC)
theorem cs_91 (hd : 8 ≤ d) (hS : mz_extR S 232) (hR : mz_rok R 232)  (N : mz_N) (b : Bool) (hp : cp_91_0 N b) (hq : Q (.inl (some (.int ((cf_91_0 N b).1)))) (mz_k S R ((cf_91_0 N b).2.1) ((cf_91_0 N b).2.2) t)) : mz_Ed (mz_X0 L xs) d 91 [.ref 0] (mz_k S R N b t) Q :=
  by
  refine g_in mzq_91 (Nat.le_of_ble_eq_true rfl) (Nat.le_of_ble_eq_true rfl) (Nat.le_trans (Nat.le_of_ble_eq_true rfl) hd) ?_
  refine g_weak ?_ (cg_91_0 (d := d - 1) (by omega) hS hR N b (C0 := fun z => Q (.inl (some (.int z.1))) (mz_k S R z.2.1 z.2.2 t)) (fun _ _ _ h => h) hp hq)
  exact ⟨rfl, trivial⟩
/-! 100 KeptHouse.isDown ()Z -/
theorem ms_100_0 : mz_sf mk_100 0 = mk_100 := mz_sf_zero _
set_option maxRecDepth 100000 in
theorem mzq_100 : mz_PG0 100 = some (11, ⟨"KeptHouse", "isDown", "()Z"⟩, prog_1_method_63_code, 1, some .boolean, [], mk_100, []) := rfl
theorem cg_100_0 (hd : 0 ≤ d) (hS : mz_extR S 232) (hR : mz_rok R 232)  (N : mz_N) {C0 : (Bool) → Prop} (hr : ∀ (w : Bool), C0 w → Q (.inl (some (.int (mz_b01 w)))) (mz_k S R N b t)) (hp : cp_100_0 N) (hC : C0 (cf_100_0 N)) : mz_G (d, mz_X0 L xs, some .boolean, [], mk_100, 1, Q) 0 mk_100 [(0, .ref 0)] [] true (mz_k S R N b t) := by
  unfold cf_100_0 at hC
  unfold cp_100_0 at hp
  refine g_aload_n rfl (g_getR (mz_at hS (Nat.le_of_ble_eq_true rfl) mzcS_0) mzcf_11_9 (mz_rb hR (Nat.le_of_ble_eq_true rfl) rfl mzcR_0_9) ?_)
  have h1 := hp
  refine g_getZ (mz_at hS (Nat.le_of_ble_eq_true rfl) mzcS_219) mzcf_8_7 h1 ?_
  exact g_zret (z := (mz_fZ N 219 7)) rfl (hr _ hC)
theorem cs_100 (hd : 1 ≤ d) (hS : mz_extR S 232) (hR : mz_rok R 232)  (N : mz_N) (hp : cp_100_0 N) (hq : Q (.inl (some (.int (mz_b01 (cf_100_0 N))))) (mz_k S R N b t)) : mz_Ed (mz_X0 L xs) d 100 [.ref 0] (mz_k S R N b t) Q :=
  by
  refine g_in mzq_100 (Nat.le_of_ble_eq_true rfl) (Nat.le_of_ble_eq_true rfl) (Nat.le_trans (Nat.le_of_ble_eq_true rfl) hd) ?_
  refine g_weak ?_ (cg_100_0 (d := d - 1) (by omega) hS hR N (C0 := fun z => Q (.inl (some (.int (mz_b01 z)))) (mz_k S R N b t)) (fun _ h => h) hp hq)
  exact ⟨rfl, trivial⟩
/-! 101 KeptHouseLaw.cell ([II)I -/
theorem ms_101_0 : mz_sf mk_101 0 = mk_101 := mz_sf_zero _
theorem ms_101_12 : mz_sf mk_101 12 = mt_101_12 := mz_sf_add ms_101_0 (t := 12) rfl rfl
theorem ms_101_13 : mz_sf mk_101 13 = mt_101_13 := mz_sf_add ms_101_12 (t := 1) rfl rfl
set_option maxRecDepth 100000 in
theorem mzq_101 : mz_PG0 101 = some (13, ⟨"KeptHouseLaw", "cell", "([II)I"⟩, method_2_code, 2, some .int, [], mk_101, []) := rfl
theorem cg_101_0 (hd : 0 ≤ d) (hS : mz_extR S 0) (hR : mz_rok R 0) (L : Nat) (xs : Nat → Int32) (v1 : Int32) {C0 : (Int32) → Prop} (hr : ∀ (w : Int32), C0 w → Q (.inl (some (.int w))) (mz_k S R N b t)) (hp : cp_101_0 L xs v1) (hC : C0 (cf_101_0 L xs v1)) : mz_G (d, mz_X0 L xs, some .int, [], mk_101, 2, Q) 0 mk_101 [(0, .ref 1002), (1, .int v1)] [] true (mz_k S R N b t) := by
  unfold cf_101_0 at hC
  unfold cp_101_0 at hp
  refine g_iload_n rfl (g_aload_n rfl (g_len1002 ?_))
  refine g_icge (tg := 12) rfl ms_101_12 hC (fun h1 hC => ?_) (fun h1 hC => ?_)
  · have hp := hp.1 h1
    refine g_aload_n rfl (g_iload_n rfl ?_)
    have h2 := hp
    refine g_iald1002 h2 (g_goto (tg := 13) rfl ms_101_13 ?_)
    exact g_iret rfl (hr _ hC)
  · have hp := hp.2 h1
    refine g_iconst mzi_0 ?_
    exact g_iret rfl (hr _ hC)
theorem cs_101 (hd : 1 ≤ d) (hS : mz_extR S 0) (hR : mz_rok R 0) (L : Nat) (xs : Nat → Int32) (v1 : Int32) (hp : cp_101_0 L xs v1) (hq : Q (.inl (some (.int (cf_101_0 L xs v1)))) (mz_k S R N b t)) : mz_Ed (mz_X0 L xs) d 101 [.ref 1002, .int v1] (mz_k S R N b t) Q :=
  by
  refine g_in mzq_101 (Nat.le_of_ble_eq_true rfl) (Nat.le_of_ble_eq_true rfl) (Nat.le_trans (Nat.le_of_ble_eq_true rfl) hd) ?_
  refine g_weak ?_ (cg_101_0 (d := d - 1) (by omega) hS hR L xs v1 (C0 := fun z => Q (.inl (some (.int z))) (mz_k S R N b t)) (fun _ h => h) hp hq)
  exact ⟨rfl, rfl, trivial⟩
/-! 104 KeptHouse.mustBeUp ()V -/
theorem ms_104_0 : mz_sf mk_104 0 = mk_104 := mz_sf_zero _
theorem ms_104_20 : mz_sf mk_104 20 = mt_104_20 := mz_sf_add ms_104_0 (t := 20) rfl rfl
set_option maxRecDepth 100000 in
theorem mzq_104 : mz_PG0 104 = some (11, ⟨"KeptHouse", "mustBeUp", "()V"⟩, prog_1_method_2_code, 1, none, [], mk_104, []) := rfl
theorem cg_104_0 (hd : 0 ≤ d) (hS : mz_extR S 232) (hR : mz_rok R 232)  (N : mz_N) {C0 : (Nat) → Prop} (hr : C0 0 → Q (.inl none) (mz_k S R N b t)) (ht : ∀ (c : Nat) , ¬ c = 0 → C0 c → Q (.inr (c - 1)) (mz_k S R N b (t + 1))) (h1000 : t < 1000) (hp : cp_104_0 N) (hC : C0 (cf_104_0 N)) : mz_G (d, mz_X0 L xs, none, [], mk_104, 1, Q) 0 mk_104 [(0, .ref 0)] [] true (mz_k S R N b t) := by
  unfold cf_104_0 at hC
  unfold cp_104_0 at hp
  refine g_aload_n rfl (g_getR (mz_at hS (Nat.le_of_ble_eq_true rfl) mzcS_0) mzcf_11_9 (mz_rb hR (Nat.le_of_ble_eq_true rfl) rfl mzcR_0_9) ?_)
  have h1 := hp
  refine g_getZ (mz_at hS (Nat.le_of_ble_eq_true rfl) mzcS_219) mzcf_8_7 h1 ?_
  refine g_zeq (tg := 20) rfl ms_104_20 hC (fun h2 hC => ?_) (fun h2 hC => ?_)
  · exact g_thr h1000 (ht 2  (by decide) hC)
  · exact g_vret rfl (hr hC)
theorem cs_104 (hd : 1 ≤ d) (hS : mz_extR S 232) (hR : mz_rok R 232)  (N : mz_N) (hp : cp_104_0 N) (h1000 : t < 1000) (h0 : (cf_104_0 N) = 0 → Q (.inl none) (mz_k S R N b t)) (h1 : ¬ (cf_104_0 N) = 0 → Q (.inr ((cf_104_0 N) - 1)) (mz_k S R N b (t + 1))) : mz_Ed (mz_X0 L xs) d 104 [.ref 0] (mz_k S R N b t) Q :=
  by
  refine g_in mzq_104 (Nat.le_of_ble_eq_true rfl) (Nat.le_of_ble_eq_true rfl) (Nat.le_trans (Nat.le_of_ble_eq_true rfl) hd) ?_
  refine g_weak ?_ (cg_104_0 (d := d - 1) (by omega) hS hR N (C0 := fun z => (z = 0 → Q (.inl none) (mz_k S R N b t)) ∧ (¬ z = 0 → Q (.inr (z - 1)) (mz_k S R N b (t + 1)))) (fun h => h.1 rfl) (fun c hc h => h.2 hc) h1000 hp ⟨h0, h1⟩)
  exact ⟨rfl, trivial⟩
/-! 105 KeptHouse.mustBeIn (III)V -/
theorem ms_105_0 : mz_sf mk_105 0 = mk_105 := mz_sf_zero _
theorem ms_105_10 : mz_sf mk_105 10 = mt_105_10 := mz_sf_add ms_105_0 (t := 10) rfl rfl
theorem ms_105_20 : mz_sf mk_105 20 = mt_105_20 := mz_sf_add ms_105_10 (t := 10) rfl rfl
set_option maxRecDepth 100000 in
theorem mzq_105 : mz_PG0 105 = some (11, ⟨"KeptHouse", "mustBeIn", "(III)V"⟩, prog_1_method_3_code, 3, none, [], mk_105, []) := rfl
theorem cg_105_10 (hd : 0 ≤ d) (hS : mz_extR S 232) (hR : mz_rok R 232)   {C0 : (Nat) → Prop} (hr : C0 0 → Q (.inl none) (mz_k S R N b t)) (ht : ∀ (c : Nat) , ¬ c = 0 → C0 c → Q (.inr (c - 1)) (mz_k S R N b (t + 1))) (h1000 : t < 1000) (hp : cp_105_10) (hC : C0 (cf_105_10)) : mz_G (d, mz_X0 L xs, none, [], mk_105, 3, Q) 10 mt_105_10 [] [] true (mz_k S R N b t) := by
  unfold cf_105_10 at hC
  unfold cp_105_10 at hp
  exact g_thr h1000 (ht 1  (by decide) hC)
theorem cg_105_0 (hd : 0 ≤ d) (hS : mz_extR S 232) (hR : mz_rok R 232)  (v0 : Int32) (v1 : Int32) (v2 : Int32) {C0 : (Nat) → Prop} (hr : C0 0 → Q (.inl none) (mz_k S R N b t)) (ht : ∀ (c : Nat) , ¬ c = 0 → C0 c → Q (.inr (c - 1)) (mz_k S R N b (t + 1))) (h1000 : t < 1000) (hp : cp_105_0 v0 v1 v2) (hC : C0 (cf_105_0 v0 v1 v2)) : mz_G (d, mz_X0 L xs, none, [], mk_105, 3, Q) 0 mk_105 [(0, .int v0), (1, .int v1), (2, .int v2)] [] true (mz_k S R N b t) := by
  unfold cf_105_0 at hC
  unfold cp_105_0 at hp
  refine g_iload_n rfl (g_iload_n rfl ?_)
  refine g_iclt (tg := 10) rfl ms_105_10 hC (fun h1 hC => ?_) (fun h1 hC => ?_)
  · have hp := hp.1 h1
    refine g_weak ?_ (cg_105_10 hd hS hR hr ht h1000 hp hC)
    exact trivial
  · have hp := hp.2 h1
    refine g_iload_n rfl (g_iload_n rfl ?_)
    refine g_icle (tg := 20) rfl ms_105_20 hC (fun h2 hC => ?_) (fun h2 hC => ?_)
    · have hp := hp.1 h2
      refine g_weak ?_ (cg_105_10 hd hS hR hr ht h1000 hp hC)
      exact trivial
    · have hp := hp.2 h2
      exact g_vret rfl (hr hC)
theorem cs_105 (hd : 1 ≤ d) (hS : mz_extR S 232) (hR : mz_rok R 232)  (v0 : Int32) (v1 : Int32) (v2 : Int32) (hp : cp_105_0 v0 v1 v2) (h1000 : t < 1000) (h0 : (cf_105_0 v0 v1 v2) = 0 → Q (.inl none) (mz_k S R N b t)) (h1 : ¬ (cf_105_0 v0 v1 v2) = 0 → Q (.inr ((cf_105_0 v0 v1 v2) - 1)) (mz_k S R N b (t + 1))) : mz_Ed (mz_X0 L xs) d 105 [.int v0, .int v1, .int v2] (mz_k S R N b t) Q :=
  by
  refine g_in mzq_105 (Nat.le_of_ble_eq_true rfl) (Nat.le_of_ble_eq_true rfl) (Nat.le_trans (Nat.le_of_ble_eq_true rfl) hd) ?_
  refine g_weak ?_ (cg_105_0 (d := d - 1) (by omega) hS hR v0 v1 v2 (C0 := fun z => (z = 0 → Q (.inl none) (mz_k S R N b t)) ∧ (¬ z = 0 → Q (.inr (z - 1)) (mz_k S R N b (t + 1)))) (fun h => h.1 rfl) (fun c hc h => h.2 hc) h1000 hp ⟨h0, h1⟩)
  exact ⟨rfl, rfl, rfl, trivial⟩
/-! 103 KeptHouse.take (I)I -/
theorem ms_103_0 : mz_sf mk_103 0 = mk_103 := mz_sf_zero _
set_option maxRecDepth 100000 in
theorem mzq_103 : mz_PG0 103 = some (11, ⟨"KeptHouse", "take", "(I)I"⟩, prog_1_method_7_code, 2, some .int, [], mk_103, []) := rfl
theorem cg_103_0 (hd : 1 ≤ d) (hS : mz_extR S 232) (hR : mz_rok R 232)  (v1 : Int32) (N : mz_N) {C0 : (Nat × Int32 × mz_N) → Prop} (hr : ∀ (w : Int32) (N2 : mz_N), C0 (0, w, N2) → Q (.inl (some (.int w))) (mz_k S R N2 b t)) (ht : ∀ (c : Nat) (w : Int32) (N2 : mz_N), ¬ c = 0 → C0 (c, w, N2) → Q (.inr (c - 1)) (mz_k S R N2 b (t + 1))) (h1000 : t < 1000) (hp : cp_103_0 v1 N) (hC : C0 (cf_103_0 v1 N)) : mz_G (d, mz_X0 L xs, some .int, [], mk_103, 2, Q) 0 mk_103 [(0, .ref 0), (1, .int v1)] [] true (mz_k S R N b t) := by
  unfold cf_103_0 at hC
  unfold cp_103_0 at hp
  refine g_aload_n rfl ?_
  obtain ⟨h1, hp⟩ := hp
  refine g_v1nt (Nat.le_of_ble_eq_true rfl) (mz_at hS (Nat.le_of_ble_eq_true rfl) mzcS_0) rfl (fun _ hz0 hz1 => cs_104 (Nat.le_trans (Nat.le_of_ble_eq_true rfl) hd) (hS.le (Nat.le_of_ble_eq_true rfl)) (hR.le (Nat.le_of_ble_eq_true rfl))  N h1 h1000 hz0 hz1) hC (fun h5 hC => ?_) (fun h5 hC => ?_)
  · have hp := hp.1 h5
    refine g_iload_n rfl (g_iconst mzi_0 (g_iconst mzi_2 ?_))
    obtain ⟨h2, hp⟩ := hp
    refine g_s3nt (Nat.le_of_ble_eq_true rfl) rfl (fun _ hz0 hz1 => cs_105 (Nat.le_trans (Nat.le_of_ble_eq_true rfl) hd) (hS.le (Nat.le_of_ble_eq_true rfl)) (hR.le (Nat.le_of_ble_eq_true rfl))  v1 0 2 h2 h1000 hz0 hz1) hC (fun h4 hC => ?_) (fun h4 hC => ?_)
    · have hp := hp.1 h4
      refine g_aload_n rfl (g_getR (mz_at hS (Nat.le_of_ble_eq_true rfl) mzcS_0) mzcf_11_1 (mz_rb hR (Nat.le_of_ble_eq_true rfl) rfl mzcR_0_1) (g_iload_n rfl ?_))
      have h3 := hp
      refine g_v2n (Nat.le_of_ble_eq_true rfl) (mz_at hS (Nat.le_of_ble_eq_true rfl) mzcS_2) (fun _ hq => cs_90 (Nat.le_trans (Nat.le_of_ble_eq_true rfl) hd) (hS.le (Nat.le_of_ble_eq_true rfl)) (hR.le (Nat.le_of_ble_eq_true rfl))  v1 N h3 hq) (g_aload_n rfl (g_getR (mz_at hS (Nat.le_of_ble_eq_true rfl) mzcS_0) mzcf_11_1 (mz_rb hR (Nat.le_of_ble_eq_true rfl) rfl mzcR_0_1) (g_getI (mz_at hS (Nat.le_of_ble_eq_true rfl) mzcS_2) mzcf_5_3 ?_)))
      exact g_iret rfl (hr _ _ hC)
    · have hp := hp.2 h4
      exact ht _ _ _ h4 hC
  · have hp := hp.2 h5
    exact ht _ _ _ h5 hC
theorem cs_103 (hd : 2 ≤ d) (hS : mz_extR S 232) (hR : mz_rok R 232)  (v1 : Int32) (N : mz_N) (hp : cp_103_0 v1 N) (h1000 : t < 1000) (h0 : (cf_103_0 v1 N).1 = 0 → Q (.inl (some (.int ((cf_103_0 v1 N).2.1)))) (mz_k S R ((cf_103_0 v1 N).2.2) b t)) (h1 : ¬ (cf_103_0 v1 N).1 = 0 → Q (.inr (((cf_103_0 v1 N).1) - 1)) (mz_k S R ((cf_103_0 v1 N).2.2) b (t + 1))) : mz_Ed (mz_X0 L xs) d 103 [.ref 0, .int v1] (mz_k S R N b t) Q :=
  by
  refine g_in mzq_103 (Nat.le_of_ble_eq_true rfl) (Nat.le_of_ble_eq_true rfl) (Nat.le_trans (Nat.le_of_ble_eq_true rfl) hd) ?_
  refine g_weak ?_ (cg_103_0 (d := d - 1) (by omega) hS hR v1 N (C0 := fun z => (z.1 = 0 → Q (.inl (some (.int z.2.1))) (mz_k S R z.2.2 b t)) ∧ (¬ z.1 = 0 → Q (.inr (z.1 - 1)) (mz_k S R z.2.2 b (t + 1)))) (fun _ _ h => h.1 rfl) (fun c _ _ hc h => h.2 hc) h1000 hp ⟨h0, h1⟩)
  exact ⟨rfl, rfl, trivial⟩
/-! 102 KeptHouseLaw.take (LKeptHouse;I[J)I -/
theorem ms_102_0 : mz_sf mk_102 0 = mk_102 := mz_sf_zero _
theorem ms_102_13 : mz_sf mk_102 13 = mt_102_13 := mz_sf_add ms_102_0 (t := 13) rfl rfl
theorem ms_102_16 : mz_sf mk_102 16 = mt_102_16 := mz_sf_add ms_102_13 (t := 3) rfl rfl
theorem ms_102_18 : mz_sf mk_102 18 = mt_102_18 := mz_sf_add ms_102_16 (t := 2) rfl rfl
set_option maxRecDepth 100000 in
theorem mzq_102 : mz_PG0 102 = some (13, ⟨"KeptHouseLaw", "take", "(LKeptHouse;I[J)I"⟩, method_3_code, 4, some .int, [(0, 9, 12, 13), (0, 9, 15, 15)], mk_102, [(0, 12, 13), (1, 15, 16)]) := rfl
theorem cg_102_0 (hd : 2 ≤ d) (hS : mz_extR S 343) (hR : mz_rok R 343)  (v1 : Int32) (N : mz_N) (t : Nat) {C0 : (Int32 × mz_N × Nat) → Prop} (hr : ∀ (w : Int32) (N2 : mz_N) (t2 : Nat), C0 (w, N2, t2) → Q (.inl (some (.int w))) (mz_k S R N2 b t2)) (hp : cp_102_0 v1 N t) (hC : C0 (cf_102_0 v1 N t)) : mz_G (d, mz_X0 L xs, some .int, [(0, 12, 13), (1, 15, 16)], mk_102, 4, Q) 0 mk_102 [(0, .ref 0), (1, .int v1), (2, .ref 342)] [] true (mz_k S R N b t) := by
  unfold cf_102_0 at hC
  unfold cp_102_0 at hp
  refine g_aload_n rfl (g_iconst mzi_0 (g_aload_n rfl (g_iload_n rfl ?_)))
  obtain ⟨h1, hp⟩ := hp
  obtain ⟨h1000, hp⟩ := hp
  refine g_v2vh (Nat.le_of_ble_eq_true rfl) (mz_at hS (Nat.le_of_ble_eq_true rfl) mzcS_0) (fun _ hz0 hz1 => cs_103 (Nat.le_trans (Nat.le_of_ble_eq_true rfl) hd) (hS.le (Nat.le_of_ble_eq_true rfl)) (hR.le (Nat.le_of_ble_eq_true rfl))  v1 N h1 h1000 hz0 hz1) hC (fun h2 hC => ?_) (fun h2 hC => ?_)
  · have hp := hp.1 h2
    refine g_i2l (g_last (mz_at hS (Nat.le_of_ble_eq_true rfl) mzcS_342) (mz_ibd (by decide)) (g_goto (tg := 18) rfl ms_102_18 (g_iconst mzi_0 ?_)))
    exact g_iret rfl (hr _ _ _ hC)
  · have hp := hp.2 h2
    refine mz_cs hC (fun h6 hC => ?_) (fun h6 hC => ?_)
    · have hp := hp.1 h6
      refine ⟨(0, 12, 13), (by rw [h6]; rfl), ?_⟩
      show mz_G (d, mz_X0 L xs, some .int, [(0, 12, 13), (1, 15, 16)], mk_102, 4, Q) 13 (mz_sf mk_102 13) [] [] false (mz_k S R ((cf_103_0 v1 N).2.2) b (t + 1))
      rw [ms_102_13]
      refine g_iconst mzi_1 ?_
      exact g_iret rfl (hr _ _ _ hC)
    · have hp := hp.2 h6
      have h4 := hp
      refine ⟨(1, 15, 16), (by rw [h4]; rfl), ?_⟩
      show mz_G (d, mz_X0 L xs, some .int, [(0, 12, 13), (1, 15, 16)], mk_102, 4, Q) 16 (mz_sf mk_102 16) [] [] false (mz_k S R ((cf_103_0 v1 N).2.2) b (t + 1))
      rw [ms_102_16]
      refine g_iconst mzi_2 ?_
      exact g_iret rfl (hr _ _ _ hC)
theorem cs_102 (hd : 3 ≤ d) (hS : mz_extR S 343) (hR : mz_rok R 343)  (v1 : Int32) (N : mz_N) (t : Nat) (hp : cp_102_0 v1 N t) (hq : Q (.inl (some (.int ((cf_102_0 v1 N t).1)))) (mz_k S R ((cf_102_0 v1 N t).2.1) b ((cf_102_0 v1 N t).2.2))) : mz_Ed (mz_X0 L xs) d 102 [.ref 0, .int v1, .ref 342] (mz_k S R N b t) Q :=
  by
  refine g_in mzq_102 (Nat.le_of_ble_eq_true rfl) (Nat.le_of_ble_eq_true rfl) (Nat.le_trans (Nat.le_of_ble_eq_true rfl) hd) ?_
  refine g_weak ?_ (cg_102_0 (d := d - 1) (by omega) hS hR v1 N t (C0 := fun z => Q (.inl (some (.int z.1))) (mz_k S R z.2.1 b z.2.2)) (fun _ _ _ h => h) hp hq)
  exact ⟨rfl, rfl, rfl, trivial⟩
/-! 109 KeptHouse$Plan.mayBe (II)Z -/
theorem ms_109_0 : mz_sf mk_109 0 = mk_109 := mz_sf_zero _
theorem ms_109_18 : mz_sf mk_109 18 = mt_109_18 := mz_sf_add ms_109_0 (t := 18) rfl rfl
theorem ms_109_22 : mz_sf mk_109 22 = mt_109_22 := mz_sf_add ms_109_18 (t := 4) rfl rfl
theorem ms_109_23 : mz_sf mk_109 23 = mt_109_23 := mz_sf_add ms_109_22 (t := 1) rfl rfl
set_option maxRecDepth 100000 in
theorem mzq_109 : mz_PG0 109 = some (5, ⟨"KeptHouse$Plan", "mayBe", "(II)Z"⟩, prog_7_method_9_code, 2, some .boolean, [], mk_109, []) := rfl
theorem cg_109_0 (hd : 1 ≤ d) (hS : mz_extR S 232) (hR : mz_rok R 232)  (v0 : Int32) (v1 : Int32) {C0 : (Bool) → Prop} (hr : ∀ (w : Bool), C0 w → Q (.inl (some (.int (mz_b01 w)))) (mz_k S R N b t)) (hp : cp_109_0 v0 v1) (hC : C0 (cf_109_0 v0 v1)) : mz_G (d, mz_X0 L xs, some .boolean, [], mk_109, 2, Q) 0 mk_109 [(0, .int v0), (1, .int v1)] [] true (mz_k S R N b t) := by
  unfold cf_109_0 at hC
  unfold cp_109_0 at hp
  refine g_iload_n rfl ?_
  refine g_s1v (Nat.le_of_ble_eq_true rfl) (fun _ hq => cs_21 (Nat.le_trans (Nat.le_of_ble_eq_true rfl) hd) (hS.le (Nat.le_of_ble_eq_true rfl)) (hR.le (Nat.le_of_ble_eq_true rfl))  v0 trivial hq) (g_iconst mzi_m1 ?_)
  refine g_iceq (tg := 18) rfl ms_109_18 hC (fun h2 hC => ?_) (fun h2 hC => ?_)
  · refine g_iconst mzi_1 (g_goto (tg := 23) rfl ms_109_23 ?_)
    exact g_zret (z := true) rfl (hr _ hC)
  · refine g_iload_n rfl (g_iconst mzi_2 ?_)
    refine g_iceq (tg := 18) rfl ms_109_18 hC (fun h3 hC => ?_) (fun h3 hC => ?_)
    · refine g_iconst mzi_1 (g_goto (tg := 23) rfl ms_109_23 ?_)
      exact g_zret (z := true) rfl (hr _ hC)
    · refine g_iload_n rfl (g_iconst mzi_3 ?_)
      refine g_icne (tg := 22) rfl ms_109_22 hC (fun h4 hC => ?_) (fun h4 hC => ?_)
      · refine g_iconst mzi_1 (g_goto (tg := 23) rfl ms_109_23 ?_)
        exact g_zret (z := true) rfl (hr _ hC)
      · refine g_iconst mzi_0 ?_
        exact g_zret (z := false) rfl (hr _ hC)
theorem cs_109 (hd : 2 ≤ d) (hS : mz_extR S 232) (hR : mz_rok R 232)  (v0 : Int32) (v1 : Int32) (hp : cp_109_0 v0 v1) (hq : Q (.inl (some (.int (mz_b01 (cf_109_0 v0 v1))))) (mz_k S R N b t)) : mz_Ed (mz_X0 L xs) d 109 [.int v0, .int v1] (mz_k S R N b t) Q :=
  by
  refine g_in mzq_109 (Nat.le_of_ble_eq_true rfl) (Nat.le_of_ble_eq_true rfl) (Nat.le_trans (Nat.le_of_ble_eq_true rfl) hd) ?_
  refine g_weak ?_ (cg_109_0 (d := d - 1) (by omega) hS hR v0 v1 (C0 := fun z => Q (.inl (some (.int (mz_b01 z)))) (mz_k S R N b t)) (fun _ h => h) hp hq)
  exact ⟨rfl, rfl, trivial⟩
/-! 108 KeptHouse$Plan.drawEdge (IIII)Z -/
theorem ms_108_0 : mz_sf mk_108 0 = mk_108 := mz_sf_zero _
theorem ms_108_31 : mz_sf mk_108 31 = mt_108_31 := mz_sf_add ms_108_0 (t := 31) rfl rfl
theorem ms_108_33 : mz_sf mk_108 33 = mt_108_33 := mz_sf_add ms_108_31 (t := 2) rfl rfl
set_option maxRecDepth 100000 in
theorem mzq_108 : mz_PG0 108 = some (5, ⟨"KeptHouse$Plan", "drawEdge", "(IIII)Z"⟩, prog_7_method_13_code, 6, some .boolean, [], mk_108, []) := rfl
theorem cg_108_0 (hd : 2 ≤ d) (hS : mz_extR S 232) (hR : mz_rok R 232)  (v1 : Int32) (v2 : Int32) (v3 : Int32) (v4 : Int32) (N : mz_N) {C0 : (Bool × mz_N) → Prop} (hr : ∀ (w : Bool) (N2 : mz_N), C0 (w, N2) → Q (.inl (some (.int (mz_b01 w)))) (mz_k S R N2 b t)) (hp : cp_108_0 v1 v2 v3 v4 N) (hC : C0 (cf_108_0 v1 v2 v3 v4 N)) : mz_G (d, mz_X0 L xs, some .boolean, [], mk_108, 6, Q) 0 mk_108 [(0, .ref 2), (1, .int v1), (2, .int v2), (3, .int v3), (4, .int v4)] [] true (mz_k S R N b t) := by
  unfold cf_108_0 at hC
  unfold cp_108_0 at hp
  refine g_iload_n rfl (g_bipush mzb_110 (g_imul (g_iload_n rfl (g_iadd (g_istore (Nat.le_of_ble_eq_true rfl) rfl (g_iload_n rfl (g_iload rfl ?_)))))))
  refine g_s2v (Nat.le_of_ble_eq_true rfl) (fun _ hq => cs_109 (Nat.le_trans (Nat.le_of_ble_eq_true rfl) hd) (hS.le (Nat.le_of_ble_eq_true rfl)) (hR.le (Nat.le_of_ble_eq_true rfl))  v3 v4 trivial hq) ?_
  refine g_zeq (tg := 31) rfl ms_108_31 hC (fun h2 hC => ?_) (fun h2 hC => ?_)
  · have hp := hp.1 h2
    refine g_aload_n rfl (g_getR (mz_at hS (Nat.le_of_ble_eq_true rfl) mzcS_2) mzcf_5_1 (mz_rb hR (Nat.le_of_ble_eq_true rfl) rfl mzcR_2_1) (g_iload_n rfl ?_))
    obtain ⟨h3, hp⟩ := hp
    refine g_aald4 (mz_at hS (Nat.le_of_ble_eq_true rfl) mzcS_4) h3 (mz_rb hR (Nat.le_of_ble_eq_true rfl) rfl (mzcR2_4 h3)) (g_iload rfl ?_)
    obtain ⟨h4, hp⟩ := hp
    refine g_iald hS.1 (mz_at hS (mzcL2_4 h3 (Nat.le_of_ble_eq_true rfl)) (mzcS2_4 h3)) h4 (g_iload rfl ?_)
    refine g_icne (tg := 33) rfl ms_108_33 hC (fun h5 hC => ?_) (fun h5 hC => ?_)
    · have hp := hp.1 h5
      refine g_iconst mzi_0 ?_
      exact g_zret (z := false) rfl (hr _ _ hC)
    · have hp := hp.2 h5
      refine g_aload_n rfl (g_getR (mz_at hS (Nat.le_of_ble_eq_true rfl) mzcS_2) mzcf_5_1 (mz_rb hR (Nat.le_of_ble_eq_true rfl) rfl mzcR_2_1) (g_iload_n rfl ?_))
      obtain ⟨h6, hp⟩ := hp
      refine g_aald4 (mz_at hS (Nat.le_of_ble_eq_true rfl) mzcS_4) h6 (mz_rb hR (Nat.le_of_ble_eq_true rfl) rfl (mzcR2_4 h6)) (g_iload rfl (g_iload rfl ?_))
      have h7 := hp
      refine g_iast (mz_at hS (mzcL2_4 h6 (Nat.le_of_ble_eq_true rfl)) (mzcS2_4 h6)) h7 (g_iconst mzi_1 ?_)
      exact g_zret (z := true) rfl (hr _ _ hC)
  · have hp := hp.2 h2
    refine g_iconst mzi_0 ?_
    exact g_zret (z := false) rfl (hr _ _ hC)
theorem cs_108 (hd : 3 ≤ d) (hS : mz_extR S 232) (hR : mz_rok R 232)  (v1 : Int32) (v2 : Int32) (v3 : Int32) (v4 : Int32) (N : mz_N) (hp : cp_108_0 v1 v2 v3 v4 N) (hq : Q (.inl (some (.int (mz_b01 ((cf_108_0 v1 v2 v3 v4 N).1))))) (mz_k S R ((cf_108_0 v1 v2 v3 v4 N).2) b t)) : mz_Ed (mz_X0 L xs) d 108 [.ref 2, .int v1, .int v2, .int v3, .int v4] (mz_k S R N b t) Q :=
  by
  refine g_in mzq_108 (Nat.le_of_ble_eq_true rfl) (Nat.le_of_ble_eq_true rfl) (Nat.le_trans (Nat.le_of_ble_eq_true rfl) hd) ?_
  refine g_weak ?_ (cg_108_0 (d := d - 1) (by omega) hS hR v1 v2 v3 v4 N (C0 := fun z => Q (.inl (some (.int (mz_b01 z.1)))) (mz_k S R z.2 b t)) (fun _ _ h => h) hp hq)
  exact ⟨rfl, rfl, rfl, rfl, rfl, trivial⟩
/-! 107 KeptHouse.edit (IIIIII)I -/
theorem ms_107_0 : mz_sf mk_107 0 = mk_107 := mz_sf_zero _
theorem ms_107_23 : mz_sf mk_107 23 = mt_107_23 := mz_sf_add ms_107_0 (t := 23) rfl rfl
theorem ms_107_46 : mz_sf mk_107 46 = mt_107_46 := mz_sf_add ms_107_23 (t := 23) rfl rfl
theorem ms_107_64 : mz_sf mk_107 64 = mt_107_64 := mz_sf_add ms_107_46 (t := 18) rfl rfl
theorem ms_107_67 : mz_sf mk_107 67 = mt_107_67 := mz_sf_add ms_107_64 (t := 3) rfl rfl
theorem ms_107_95 : mz_sf mk_107 95 = mt_107_95 := mz_sf_add ms_107_67 (t := 28) rfl rfl
theorem ms_107_98 : mz_sf mk_107 98 = mt_107_98 := mz_sf_add ms_107_95 (t := 3) rfl rfl
theorem ms_107_104 : mz_sf mk_107 104 = mt_107_104 := mz_sf_add ms_107_98 (t := 6) rfl rfl
set_option maxRecDepth 100000 in
theorem mzq_107 : mz_PG0 107 = some (11, ⟨"KeptHouse", "edit", "(IIIIII)I"⟩, prog_1_method_8_code, 9, some .int, [], mk_107, []) := rfl
theorem cg_107_98 (hd : 3 ≤ d) (hS : mz_extR S 232) (hR : mz_rok R 232)  (v1 : Int32) (v2 : Int32) (v3 : Int32) (v4 : Int32) (v5 : Int32) (v6 : Int32) (v7 : Int32) (v8 : Int32) (N : mz_N) {C0 : (Nat × Int32 × mz_N) → Prop} (hr : ∀ (w : Int32) (N2 : mz_N), C0 (0, w, N2) → Q (.inl (some (.int w))) (mz_k S R N2 b t)) (ht : ∀ (c : Nat) (w : Int32) (N2 : mz_N), ¬ c = 0 → C0 (c, w, N2) → Q (.inr (c - 1)) (mz_k S R N2 b (t + 1))) (h1000 : t < 1000) {C1 : ((Int32 × Int32 × mz_N) ⊕ (Nat × Int32 × mz_N)) → Prop} (hc1 : ∀ s2, C1 (.inl s2) → mz_G (d, mz_X0 L xs, some .int, [], mk_107, 9, Q) 67 mt_107_67 [(0, .ref 0), (1, .int v1), (2, .int v2), (3, .int v3), (4, .int v4), (5, .int v5), (6, .int v6), (7, .int s2.1), (8, .int s2.2.1)] [] false (mz_k S R s2.2.2 b t)) (hx1 : ∀ z, C1 (.inr z) → C0 z) (hp : cp_107_98 v1 v2 v3 v4 v5 v6 v7 v8 N) (hC : C1 (cf_107_98 v1 v2 v3 v4 v5 v6 v7 v8 N)) : mz_G (d, mz_X0 L xs, some .int, [], mk_107, 9, Q) 98 mt_107_98 [(0, .ref 0), (1, .int v1), (2, .int v2), (3, .int v3), (4, .int v4), (5, .int v5), (6, .int v6), (7, .int v7), (8, .int v8)] [] false (mz_k S R N b t) := by
  unfold cf_107_98 at hC
  unfold cp_107_98 at hp
  refine g_iinc rfl mzi_1 (Nat.le_of_ble_eq_true rfl) rfl (g_goto (tg := 67) rfl ms_107_67 ?_)
  refine g_weak ?_ (g_cl (hc1 (v7, (v8 + 1), N) hC))
  exact ⟨rfl, rfl, rfl, rfl, rfl, rfl, rfl, rfl, rfl, trivial⟩
theorem cb_107_67 (hd : 3 ≤ d) (hS : mz_extR S 232) (hR : mz_rok R 232)  (v1 : Int32) (v2 : Int32) (v3 : Int32) (v4 : Int32) (v5 : Int32) (v6 : Int32) (s : Int32 × Int32 × mz_N) {C0 : (Nat × Int32 × mz_N) → Prop} (hr : ∀ (w : Int32) (N2 : mz_N), C0 (0, w, N2) → Q (.inl (some (.int w))) (mz_k S R N2 b t)) (ht : ∀ (c : Nat) (w : Int32) (N2 : mz_N), ¬ c = 0 → C0 (c, w, N2) → Q (.inr (c - 1)) (mz_k S R N2 b (t + 1))) (h1000 : t < 1000) {C1 : ((Int32 × Int32 × mz_N) ⊕ (Nat × Int32 × mz_N)) → Prop} (hc1 : ∀ s2, C1 (.inl s2) → mz_G (d, mz_X0 L xs, some .int, [], mk_107, 9, Q) 67 mt_107_67 [(0, .ref 0), (1, .int v1), (2, .int v2), (3, .int v3), (4, .int v4), (5, .int v5), (6, .int v6), (7, .int s2.1), (8, .int s2.2.1)] [] false (mz_k S R s2.2.2 b t)) (hx1 : ∀ z, C1 (.inr z) → C0 z) (hp : cd_107_67 v1 v2 v3 v4 v5 v6 s) (hC : C1 (cq_107_67 v1 v2 v3 v4 v5 v6 s)) : mz_G (d, mz_X0 L xs, some .int, [], mk_107, 9, Q) 67 mt_107_67 [(0, .ref 0), (1, .int v1), (2, .int v2), (3, .int v3), (4, .int v4), (5, .int v5), (6, .int v6), (7, .int s.1), (8, .int s.2.1)] [] false (mz_k S R s.2.2 b t) := by
  unfold cq_107_67 at hC
  unfold cd_107_67 at hp
  refine g_iload rfl (g_iload rfl ?_)
  refine g_icge (tg := 104) rfl ms_107_104 hC (fun h1 hC => ?_) (fun h1 hC => ?_)
  · have hp := hp.1 h1
    refine g_aload_n rfl (g_getR (mz_at hS (Nat.le_of_ble_eq_true rfl) mzcS_0) mzcf_11_1 (mz_rb hR (Nat.le_of_ble_eq_true rfl) rfl mzcR_0_1) (g_iload_n rfl (g_iload_n rfl (g_iload_n rfl (g_iload rfl (g_iload rfl (g_imul ?_)))))))
    refine g_iadd (g_iload rfl ?_)
    obtain ⟨h2, hp⟩ := hp
    refine g_v5v (Nat.le_of_ble_eq_true rfl) (mz_at hS (Nat.le_of_ble_eq_true rfl) mzcS_2) (fun _ hq => cs_108 (Nat.le_trans (Nat.le_of_ble_eq_true rfl) hd) (hS.le (Nat.le_of_ble_eq_true rfl)) (hR.le (Nat.le_of_ble_eq_true rfl))  v1 v2 (v3 + (s.2.1 * v5)) v6 s.2.2 h2 hq) ?_
    refine g_zeq (tg := 98) rfl ms_107_98 hC (fun h3 hC => ?_) (fun h3 hC => ?_)
    · have hp := hp.1 h3
      refine g_iinc rfl mzi_1 (Nat.le_of_ble_eq_true rfl) rfl ?_
      refine g_weak ?_ (g_cl (cg_107_98 hd hS hR v1 v2 v3 v4 v5 v6 (s.1 + 1) s.2.1 ((cf_108_0 v1 v2 (v3 + (s.2.1 * v5)) v6 s.2.2).2) hr ht h1000 hc1 hx1 hp hC))
      exact ⟨rfl, rfl, rfl, rfl, rfl, rfl, rfl, rfl, rfl, trivial⟩
    · have hp := hp.2 h3
      refine g_weak ?_ (g_cl (cg_107_98 hd hS hR v1 v2 v3 v4 v5 v6 s.1 s.2.1 ((cf_108_0 v1 v2 (v3 + (s.2.1 * v5)) v6 s.2.2).2) hr ht h1000 hc1 hx1 hp hC))
      exact ⟨rfl, rfl, rfl, rfl, rfl, rfl, rfl, rfl, rfl, trivial⟩
  · have hp := hp.2 h1
    refine g_iload rfl ?_
    exact g_iret rfl (hr _ _ (hx1 _ hC))
theorem cg_107_67 (hd : 3 ≤ d) (hS : mz_extR S 232) (hR : mz_rok R 232)  (v1 : Int32) (v2 : Int32) (v3 : Int32) (v4 : Int32) (v5 : Int32) (v6 : Int32) (v7 : Int32) (v8 : Int32) (N : mz_N) {C0 : (Nat × Int32 × mz_N) → Prop} (hr : ∀ (w : Int32) (N2 : mz_N), C0 (0, w, N2) → Q (.inl (some (.int w))) (mz_k S R N2 b t)) (ht : ∀ (c : Nat) (w : Int32) (N2 : mz_N), ¬ c = 0 → C0 (c, w, N2) → Q (.inr (c - 1)) (mz_k S R N2 b (t + 1))) (h1000 : t < 1000) (hp : cp_107_67 v1 v2 v3 v4 v5 v6 v7 v8 N) (hC : C0 (cf_107_67 v1 v2 v3 v4 v5 v6 v7 v8 N)) : mz_G (d, mz_X0 L xs, some .int, [], mk_107, 9, Q) 67 mt_107_67 [(0, .ref 0), (1, .int v1), (2, .int v2), (3, .int v3), (4, .int v4), (5, .int v5), (6, .int v6), (7, .int v7), (8, .int v8)] [] false (mz_k S R N b t) := by
  obtain ⟨n, hn⟩ := hp
  exact g_loop (G := fun s => mz_G (d, mz_X0 L xs, some .int, [], mk_107, 9, Q) 67 mt_107_67 [(0, .ref 0), (1, .int v1), (2, .int v2), (3, .int v3), (4, .int v4), (5, .int v5), (6, .int v6), (7, .int s.1), (8, .int s.2.1)] [] false (mz_k S R s.2.2 b t)) (C := C0) (fun C2 hc hx s hP hC => cb_107_67 hd hS hR v1 v2 v3 v4 v5 v6 s hr ht h1000 hc hx hP hC) n (v7, v8, N) hn hC
theorem cg_107_0 (hd : 3 ≤ d) (hS : mz_extR S 232) (hR : mz_rok R 232)  (v1 : Int32) (v2 : Int32) (v3 : Int32) (v4 : Int32) (v5 : Int32) (v6 : Int32) (N : mz_N) {C0 : (Nat × Int32 × mz_N) → Prop} (hr : ∀ (w : Int32) (N2 : mz_N), C0 (0, w, N2) → Q (.inl (some (.int w))) (mz_k S R N2 b t)) (ht : ∀ (c : Nat) (w : Int32) (N2 : mz_N), ¬ c = 0 → C0 (c, w, N2) → Q (.inr (c - 1)) (mz_k S R N2 b (t + 1))) (h1000 : t < 1000) (hp : cp_107_0 v1 v2 v3 v4 v5 v6 N) (hC : C0 (cf_107_0 v1 v2 v3 v4 v5 v6 N)) : mz_G (d, mz_X0 L xs, some .int, [], mk_107, 9, Q) 0 mk_107 [(0, .ref 0), (1, .int v1), (2, .int v2), (3, .int v3), (4, .int v4), (5, .int v5), (6, .int v6)] [] true (mz_k S R N b t) := by
  unfold cf_107_0 at hC
  unfold cp_107_0 at hp
  refine g_aload_n rfl ?_
  obtain ⟨h1, hp⟩ := hp
  refine g_v1nt (Nat.le_of_ble_eq_true rfl) (mz_at hS (Nat.le_of_ble_eq_true rfl) mzcS_0) rfl (fun _ hz0 hz1 => cs_104 (Nat.le_trans (Nat.le_of_ble_eq_true rfl) hd) (hS.le (Nat.le_of_ble_eq_true rfl)) (hR.le (Nat.le_of_ble_eq_true rfl))  N h1 h1000 hz0 hz1) hC (fun h16 hC => ?_) (fun h16 hC => ?_)
  · have hp := hp.1 h16
    refine g_iload_n rfl (g_iconst mzi_0 (g_iconst mzi_2 ?_))
    obtain ⟨h2, hp⟩ := hp
    refine g_s3nt (Nat.le_of_ble_eq_true rfl) rfl (fun _ hz0 hz1 => cs_105 (Nat.le_trans (Nat.le_of_ble_eq_true rfl) hd) (hS.le (Nat.le_of_ble_eq_true rfl)) (hR.le (Nat.le_of_ble_eq_true rfl))  v1 0 2 h2 h1000 hz0 hz1) hC (fun h15 hC => ?_) (fun h15 hC => ?_)
    · have hp := hp.1 h15
      refine g_iload_n rfl (g_iconst mzi_0 (g_iconst mzi_4 ?_))
      obtain ⟨h3, hp⟩ := hp
      refine g_s3nt (Nat.le_of_ble_eq_true rfl) rfl (fun _ hz0 hz1 => cs_105 (Nat.le_trans (Nat.le_of_ble_eq_true rfl) hd) (hS.le (Nat.le_of_ble_eq_true rfl)) (hR.le (Nat.le_of_ble_eq_true rfl))  v2 0 4 h3 h1000 hz0 hz1) hC (fun h14 hC => ?_) (fun h14 hC => ?_)
      · have hp := hp.1 h14
        refine g_iload_n rfl (g_iconst mzi_0 (g_bipush mzb_109 ?_))
        obtain ⟨h4, hp⟩ := hp
        refine g_s3nt (Nat.le_of_ble_eq_true rfl) rfl (fun _ hz0 hz1 => cs_105 (Nat.le_trans (Nat.le_of_ble_eq_true rfl) hd) (hS.le (Nat.le_of_ble_eq_true rfl)) (hR.le (Nat.le_of_ble_eq_true rfl))  v3 0 109 h4 h1000 hz0 hz1) hC (fun h13 hC => ?_) (fun h13 hC => ?_)
        · have hp := hp.1 h13
          refine g_iload rfl (g_iconst mzi_1 (g_bipush mzb_110 ?_))
          obtain ⟨h5, hp⟩ := hp
          refine g_s3nt (Nat.le_of_ble_eq_true rfl) rfl (fun _ hz0 hz1 => cs_105 (Nat.le_trans (Nat.le_of_ble_eq_true rfl) hd) (hS.le (Nat.le_of_ble_eq_true rfl)) (hR.le (Nat.le_of_ble_eq_true rfl))  v4 1 110 h5 h1000 hz0 hz1) hC (fun h12 hC => ?_) (fun h12 hC => ?_)
          · have hp := hp.1 h12
            refine g_iload rfl (g_iconst mzi_1 (g_bipush mzb_110 ?_))
            obtain ⟨h6, hp⟩ := hp
            refine g_s3nt (Nat.le_of_ble_eq_true rfl) rfl (fun _ hz0 hz1 => cs_105 (Nat.le_trans (Nat.le_of_ble_eq_true rfl) hd) (hS.le (Nat.le_of_ble_eq_true rfl)) (hR.le (Nat.le_of_ble_eq_true rfl))  v5 1 110 h6 h1000 hz0 hz1) hC (fun h11 hC => ?_) (fun h11 hC => ?_)
            · have hp := hp.1 h11
              refine g_iload rfl (g_iconst mzi_0 (g_iconst mzi_3 ?_))
              obtain ⟨h7, hp⟩ := hp
              refine g_s3nt (Nat.le_of_ble_eq_true rfl) rfl (fun _ hz0 hz1 => cs_105 (Nat.le_trans (Nat.le_of_ble_eq_true rfl) hd) (hS.le (Nat.le_of_ble_eq_true rfl)) (hR.le (Nat.le_of_ble_eq_true rfl))  v6 0 3 h7 h1000 hz0 hz1) hC (fun h10 hC => ?_) (fun h10 hC => ?_)
              · have hp := hp.1 h10
                refine g_iload_n rfl (g_iload rfl (g_iconst mzi_1 (g_isub (g_iload rfl (g_imul (g_iadd (g_iconst mzi_0 ?_)))))))
                refine g_bipush mzb_109 ?_
                obtain ⟨h8, hp⟩ := hp
                refine g_s3nt (Nat.le_of_ble_eq_true rfl) rfl (fun _ hz0 hz1 => cs_105 (Nat.le_trans (Nat.le_of_ble_eq_true rfl) hd) (hS.le (Nat.le_of_ble_eq_true rfl)) (hR.le (Nat.le_of_ble_eq_true rfl))  (v3 + ((v4 - 1) * v5)) 0 109 h8 h1000 hz0 hz1) hC (fun h9 hC => ?_) (fun h9 hC => ?_)
                · have hp := hp.1 h9
                  refine g_iconst mzi_0 (g_istore (Nat.le_of_ble_eq_true rfl) rfl (g_iconst mzi_0 (g_istore (Nat.le_of_ble_eq_true rfl) rfl ?_)))
                  refine g_weak ?_ (g_cl (cg_107_67 hd hS hR v1 v2 v3 v4 v5 v6 0 0 N hr ht h1000 hp hC))
                  exact ⟨rfl, rfl, rfl, rfl, rfl, rfl, rfl, rfl, rfl, trivial⟩
                · have hp := hp.2 h9
                  exact ht _ _ _ h9 hC
              · have hp := hp.2 h10
                exact ht _ _ _ h10 hC
            · have hp := hp.2 h11
              exact ht _ _ _ h11 hC
          · have hp := hp.2 h12
            exact ht _ _ _ h12 hC
        · have hp := hp.2 h13
          exact ht _ _ _ h13 hC
      · have hp := hp.2 h14
        exact ht _ _ _ h14 hC
    · have hp := hp.2 h15
      exact ht _ _ _ h15 hC
  · have hp := hp.2 h16
    exact ht _ _ _ h16 hC
theorem cs_107 (hd : 4 ≤ d) (hS : mz_extR S 232) (hR : mz_rok R 232)  (v1 : Int32) (v2 : Int32) (v3 : Int32) (v4 : Int32) (v5 : Int32) (v6 : Int32) (N : mz_N) (hp : cp_107_0 v1 v2 v3 v4 v5 v6 N) (h1000 : t < 1000) (h0 : (cf_107_0 v1 v2 v3 v4 v5 v6 N).1 = 0 → Q (.inl (some (.int ((cf_107_0 v1 v2 v3 v4 v5 v6 N).2.1)))) (mz_k S R ((cf_107_0 v1 v2 v3 v4 v5 v6 N).2.2) b t)) (h1 : ¬ (cf_107_0 v1 v2 v3 v4 v5 v6 N).1 = 0 → Q (.inr (((cf_107_0 v1 v2 v3 v4 v5 v6 N).1) - 1)) (mz_k S R ((cf_107_0 v1 v2 v3 v4 v5 v6 N).2.2) b (t + 1))) : mz_Ed (mz_X0 L xs) d 107 [.ref 0, .int v1, .int v2, .int v3, .int v4, .int v5, .int v6] (mz_k S R N b t) Q :=
  by
  refine g_in mzq_107 (Nat.le_of_ble_eq_true rfl) (Nat.le_of_ble_eq_true rfl) (Nat.le_trans (Nat.le_of_ble_eq_true rfl) hd) ?_
  refine g_weak ?_ (cg_107_0 (d := d - 1) (by omega) hS hR v1 v2 v3 v4 v5 v6 N (C0 := fun z => (z.1 = 0 → Q (.inl (some (.int z.2.1))) (mz_k S R z.2.2 b t)) ∧ (¬ z.1 = 0 → Q (.inr (z.1 - 1)) (mz_k S R z.2.2 b (t + 1)))) (fun _ _ h => h.1 rfl) (fun c _ _ hc h => h.2 hc) h1000 hp ⟨h0, h1⟩)
  exact ⟨rfl, rfl, rfl, rfl, rfl, rfl, rfl, trivial⟩
/-! 106 KeptHouseLaw.edit (LKeptHouse;IIIIII[J)I -/
theorem ms_106_0 : mz_sf mk_106 0 = mk_106 := mz_sf_zero _
theorem ms_106_18 : mz_sf mk_106 18 = mt_106_18 := mz_sf_add ms_106_0 (t := 18) rfl rfl
theorem ms_106_23 : mz_sf mk_106 23 = mt_106_23 := mz_sf_add ms_106_18 (t := 5) rfl rfl
theorem ms_106_27 : mz_sf mk_106 27 = mt_106_27 := mz_sf_add ms_106_23 (t := 4) rfl rfl
theorem ms_106_29 : mz_sf mk_106 29 = mt_106_29 := mz_sf_add ms_106_27 (t := 2) rfl rfl
set_option maxRecDepth 100000 in
theorem mzq_106 : mz_PG0 106 = some (13, ⟨"KeptHouseLaw", "edit", "(LKeptHouse;IIIIII[J)I"⟩, method_4_code, 9, some .int, [(0, 18, 21, 13), (0, 18, 25, 15)], mk_106, [(0, 21, 23), (1, 25, 27)]) := rfl
theorem cg_106_18 (hd : 4 ≤ d) (hS : mz_extR S 343) (hR : mz_rok R 343)  (N : mz_N) (t : Nat) {C0 : (Int32 × mz_N × Nat) → Prop} (hr : ∀ (w : Int32) (N2 : mz_N) (t2 : Nat), C0 (w, N2, t2) → Q (.inl (some (.int w))) (mz_k S R N2 b t2)) (hp : cp_106_18 N t) (hC : C0 (cf_106_18 N t)) : mz_G (d, mz_X0 L xs, some .int, [(0, 21, 23), (1, 25, 27)], mk_106, 9, Q) 18 mt_106_18 [] [] false (mz_k S R N b t) := by
  unfold cf_106_18 at hC
  unfold cp_106_18 at hp
  refine g_goto (tg := 29) rfl ms_106_29 (g_iconst mzi_0 ?_)
  exact g_iret rfl (hr _ _ _ hC)
theorem cg_106_0 (hd : 4 ≤ d) (hS : mz_extR S 343) (hR : mz_rok R 343)  (v1 : Int32) (v2 : Int32) (v3 : Int32) (v4 : Int32) (v5 : Int32) (v6 : Int32) (N : mz_N) (t : Nat) {C0 : (Int32 × mz_N × Nat) → Prop} (hr : ∀ (w : Int32) (N2 : mz_N) (t2 : Nat), C0 (w, N2, t2) → Q (.inl (some (.int w))) (mz_k S R N2 b t2)) (hp : cp_106_0 v1 v2 v3 v4 v5 v6 N t) (hC : C0 (cf_106_0 v1 v2 v3 v4 v5 v6 N t)) : mz_G (d, mz_X0 L xs, some .int, [(0, 21, 23), (1, 25, 27)], mk_106, 9, Q) 0 mk_106 [(0, .ref 0), (1, .int v1), (2, .int v2), (3, .int v3), (4, .int v4), (5, .int v5), (6, .int v6), (7, .ref 342)] [] true (mz_k S R N b t) := by
  unfold cf_106_0 at hC
  unfold cp_106_0 at hp
  refine g_aload rfl (g_iconst mzi_0 (g_aload_n rfl (g_iload_n rfl (g_iload_n rfl (g_iload_n rfl (g_iload rfl (g_iload rfl ?_)))))))
  refine g_iload rfl ?_
  obtain ⟨h1, hp⟩ := hp
  obtain ⟨h1000, hp⟩ := hp
  refine g_v7vh (Nat.le_of_ble_eq_true rfl) (mz_at hS (Nat.le_of_ble_eq_true rfl) mzcS_0) (fun _ hz0 hz1 => cs_107 (Nat.le_trans (Nat.le_of_ble_eq_true rfl) hd) (hS.le (Nat.le_of_ble_eq_true rfl)) (hR.le (Nat.le_of_ble_eq_true rfl))  v1 v2 v3 v4 v5 v6 N h1 h1000 hz0 hz1) hC (fun h2 hC => ?_) (fun h2 hC => ?_)
  · have hp := hp.1 h2
    refine g_i2l (g_last (mz_at hS (Nat.le_of_ble_eq_true rfl) mzcS_342) (mz_ibd (by decide)) ?_)
    refine g_weak ?_ (g_cl (cg_106_18 hd hS hR (mz_wL ((cf_107_0 v1 v2 v3 v4 v5 v6 N).2.2) 342 0 (((cf_107_0 v1 v2 v3 v4 v5 v6 N).2.1).toInt64)) t hr hp hC))
    exact trivial
  · have hp := hp.2 h2
    refine mz_cs hC (fun h6 hC => ?_) (fun h6 hC => ?_)
    · have hp := hp.1 h6
      refine ⟨(0, 21, 23), (by rw [h6]; rfl), ?_⟩
      show mz_G (d, mz_X0 L xs, some .int, [(0, 21, 23), (1, 25, 27)], mk_106, 9, Q) 23 (mz_sf mk_106 23) [] [] false (mz_k S R ((cf_107_0 v1 v2 v3 v4 v5 v6 N).2.2) b (t + 1))
      rw [ms_106_23]
      refine g_iconst mzi_1 ?_
      exact g_iret rfl (hr _ _ _ hC)
    · have hp := hp.2 h6
      have h4 := hp
      refine ⟨(1, 25, 27), (by rw [h4]; rfl), ?_⟩
      show mz_G (d, mz_X0 L xs, some .int, [(0, 21, 23), (1, 25, 27)], mk_106, 9, Q) 27 (mz_sf mk_106 27) [] [] false (mz_k S R ((cf_107_0 v1 v2 v3 v4 v5 v6 N).2.2) b (t + 1))
      rw [ms_106_27]
      refine g_iconst mzi_2 ?_
      exact g_iret rfl (hr _ _ _ hC)
theorem cs_106 (hd : 5 ≤ d) (hS : mz_extR S 343) (hR : mz_rok R 343)  (v1 : Int32) (v2 : Int32) (v3 : Int32) (v4 : Int32) (v5 : Int32) (v6 : Int32) (N : mz_N) (t : Nat) (hp : cp_106_0 v1 v2 v3 v4 v5 v6 N t) (hq : Q (.inl (some (.int ((cf_106_0 v1 v2 v3 v4 v5 v6 N t).1)))) (mz_k S R ((cf_106_0 v1 v2 v3 v4 v5 v6 N t).2.1) b ((cf_106_0 v1 v2 v3 v4 v5 v6 N t).2.2))) : mz_Ed (mz_X0 L xs) d 106 [.ref 0, .int v1, .int v2, .int v3, .int v4, .int v5, .int v6, .ref 342] (mz_k S R N b t) Q :=
  by
  refine g_in mzq_106 (Nat.le_of_ble_eq_true rfl) (Nat.le_of_ble_eq_true rfl) (Nat.le_trans (Nat.le_of_ble_eq_true rfl) hd) ?_
  refine g_weak ?_ (cg_106_0 (d := d - 1) (by omega) hS hR v1 v2 v3 v4 v5 v6 N t (C0 := fun z => Q (.inl (some (.int z.1))) (mz_k S R z.2.1 b z.2.2)) (fun _ _ _ h => h) hp hq)
  exact ⟨rfl, rfl, rfl, rfl, rfl, rfl, rfl, rfl, trivial⟩
/-! 114 KeptHouse$Plan.isMine (II)Z -/
theorem ms_114_0 : mz_sf mk_114 0 = mk_114 := mz_sf_zero _
theorem ms_114_19 : mz_sf mk_114 19 = mt_114_19 := mz_sf_add ms_114_0 (t := 19) rfl rfl
theorem ms_114_23 : mz_sf mk_114 23 = mt_114_23 := mz_sf_add ms_114_19 (t := 4) rfl rfl
theorem ms_114_24 : mz_sf mk_114 24 = mt_114_24 := mz_sf_add ms_114_23 (t := 1) rfl rfl
set_option maxRecDepth 100000 in
theorem mzq_114 : mz_PG0 114 = some (5, ⟨"KeptHouse$Plan", "isMine", "(II)Z"⟩, prog_7_method_14_code, 3, some .boolean, [], mk_114, []) := rfl
theorem cg_114_0 (hd : 0 ≤ d) (hS : mz_extR S 232) (hR : mz_rok R 232)  (v1 : Int32) (v2 : Int32) (N : mz_N) {C0 : (Bool) → Prop} (hr : ∀ (w : Bool), C0 w → Q (.inl (some (.int (mz_b01 w)))) (mz_k S R N b t)) (hp : cp_114_0 v1 v2 N) (hC : C0 (cf_114_0 v1 v2 N)) : mz_G (d, mz_X0 L xs, some .boolean, [], mk_114, 3, Q) 0 mk_114 [(0, .ref 2), (1, .int v1), (2, .int v2)] [] true (mz_k S R N b t) := by
  unfold cf_114_0 at hC
  unfold cp_114_0 at hp
  refine g_aload_n rfl (g_getR (mz_at hS (Nat.le_of_ble_eq_true rfl) mzcS_2) mzcf_5_1 (mz_rb hR (Nat.le_of_ble_eq_true rfl) rfl mzcR_2_1) (g_iload_n rfl ?_))
  obtain ⟨h1, hp⟩ := hp
  refine g_aald4 (mz_at hS (Nat.le_of_ble_eq_true rfl) mzcS_4) h1 (mz_rb hR (Nat.le_of_ble_eq_true rfl) rfl (mzcR2_4 h1)) (g_iload_n rfl ?_)
  obtain ⟨h2, hp⟩ := hp
  refine g_iald hS.1 (mz_at hS (mzcL2_4 h1 (Nat.le_of_ble_eq_true rfl)) (mzcS2_4 h1)) h2 (g_aload_n rfl (g_getR (mz_at hS (Nat.le_of_ble_eq_true rfl) mzcS_2) mzcf_5_2 (mz_rb hR (Nat.le_of_ble_eq_true rfl) rfl mzcR_2_2) (g_iload_n rfl ?_)))
  obtain ⟨h3, hp⟩ := hp
  refine g_aald4 (mz_at hS (Nat.le_of_ble_eq_true rfl) mzcS_8) h3 (mz_rb hR (Nat.le_of_ble_eq_true rfl) rfl (mzcR2_8 h3)) (g_iload_n rfl ?_)
  have h4 := hp
  refine g_iald hS.1 (mz_at hS (mzcL2_8 h3 (Nat.le_of_ble_eq_true rfl)) (mzcS2_8 h3)) h4 ?_
  refine g_iceq (tg := 23) rfl ms_114_23 hC (fun h5 hC => ?_) (fun h5 hC => ?_)
  · refine g_iconst mzi_0 ?_
    exact g_zret (z := false) rfl (hr _ hC)
  · refine g_iconst mzi_1 (g_goto (tg := 24) rfl ms_114_24 ?_)
    exact g_zret (z := true) rfl (hr _ hC)
theorem cs_114 (hd : 1 ≤ d) (hS : mz_extR S 232) (hR : mz_rok R 232)  (v1 : Int32) (v2 : Int32) (N : mz_N) (hp : cp_114_0 v1 v2 N) (hq : Q (.inl (some (.int (mz_b01 (cf_114_0 v1 v2 N))))) (mz_k S R N b t)) : mz_Ed (mz_X0 L xs) d 114 [.ref 2, .int v1, .int v2] (mz_k S R N b t) Q :=
  by
  refine g_in mzq_114 (Nat.le_of_ble_eq_true rfl) (Nat.le_of_ble_eq_true rfl) (Nat.le_trans (Nat.le_of_ble_eq_true rfl) hd) ?_
  refine g_weak ?_ (cg_114_0 (d := d - 1) (by omega) hS hR v1 v2 N (C0 := fun z => Q (.inl (some (.int (mz_b01 z)))) (mz_k S R N b t)) (fun _ h => h) hp hq)
  exact ⟨rfl, rfl, rfl, trivial⟩
end Fn4
