/-! THE FUNCTIONS: written by program: each method comes to its function. -/
section Fn12
variable {L : Nat} {xs : Nat → Int32} {d : Nat} {S : mz_S} {R : Nat → Nat → Option Nat} {Q : mz_Q} {N : mz_N} {b : Bool} {t : Nat}
/-! 244 KeptHouse$Climate.air (LKeptHouse$Plan;LKeptHouse$Supply;[II)V -/
theorem ms_244_0 : mz_sf mk_244 0 = mk_244 := mz_sf_zero _
theorem ms_244_12 : mz_sf mk_244 12 = mt_244_12 := mz_sf_add ms_244_0 (t := 12) rfl rfl
theorem ms_244_57 : mz_sf mk_244 57 = mt_244_57 := mz_sf_add ms_244_12 (t := 45) rfl rfl
theorem ms_244_63 : mz_sf mk_244 63 = mt_244_63 := mz_sf_add ms_244_57 (t := 6) rfl rfl
theorem ms_244_80 : mz_sf mk_244 80 = mt_244_80 := mz_sf_add ms_244_63 (t := 17) rfl rfl
theorem ms_244_81 : mz_sf mk_244 81 = mt_244_81 := mz_sf_add ms_244_80 (t := 1) rfl rfl
theorem ms_244_108 : mz_sf mk_244 108 = mt_244_108 := mz_sf_add ms_244_81 (t := 27) rfl rfl
theorem ms_244_111 : mz_sf mk_244 111 = mt_244_111 := mz_sf_add ms_244_108 (t := 3) rfl rfl
theorem ms_244_165 : mz_sf mk_244 165 = mt_244_165 := mz_sf_add ms_244_111 (t := 54) rfl rfl
theorem ms_244_171 : mz_sf mk_244 171 = mt_244_171 := mz_sf_add ms_244_165 (t := 6) rfl rfl
theorem ms_244_192 : mz_sf mk_244 192 = mt_244_192 := mz_sf_add ms_244_171 (t := 21) rfl rfl
set_option maxRecDepth 100000 in
theorem mzq_244 : mz_PG0 244 = some (3, ⟨"KeptHouse$Climate", "air", "(LKeptHouse$Plan;LKeptHouse$Supply;[II)V"⟩, prog_5_method_18_code, 7, none, [], mk_244, []) := rfl
theorem cg_244_165 (hd : 3 ≤ d) (hS : mz_extR S 232) (hR : mz_rok R 232)  (v4 : Int32) (v5 : Int32) (v6 : Int32) (N : mz_N) {C0 : (mz_N) → Prop} (hr : ∀ (N2 : mz_N), C0 N2 → Q (.inl none) (mz_k S R N2 b t)) {C1 : ((Int32 × mz_N) ⊕ (mz_N)) → Prop} (hc1 : ∀ s2, C1 (.inl s2) → mz_G (d, mz_X0 L xs, none, [], mk_244, 7, Q) 111 mt_244_111 [(0, .ref 65), (1, .ref 2), (2, .ref 56), (4, .int v4), (5, .int v5), (6, .int s2.1)] [] false (mz_k S R s2.2 b t)) (hx1 : ∀ z, C1 (.inr z) → C0 z) (hp : cp_244_165 v4 v5 v6 N) (hC : C1 (cf_244_165 v4 v5 v6 N)) : mz_G (d, mz_X0 L xs, none, [], mk_244, 7, Q) 165 mt_244_165 [(0, .ref 65), (1, .ref 2), (2, .ref 56), (4, .int v4), (5, .int v5), (6, .int v6)] [] false (mz_k S R N b t) := by
  unfold cf_244_165 at hC
  unfold cp_244_165 at hp
  refine g_iinc rfl mzi_1 (Nat.le_of_ble_eq_true rfl) rfl (g_goto (tg := 111) rfl ms_244_111 ?_)
  refine g_weak ?_ (g_cl (hc1 ((v6 + 1), N) hC))
  exact ⟨rfl, rfl, rfl, rfl, rfl, rfl, trivial⟩
theorem cb_244_111 (hd : 3 ≤ d) (hS : mz_extR S 232) (hR : mz_rok R 232)  (v4 : Int32) (v5 : Int32) (s : Int32 × mz_N) {C0 : (mz_N) → Prop} (hr : ∀ (N2 : mz_N), C0 N2 → Q (.inl none) (mz_k S R N2 b t)) {C1 : ((Int32 × mz_N) ⊕ (mz_N)) → Prop} (hc1 : ∀ s2, C1 (.inl s2) → mz_G (d, mz_X0 L xs, none, [], mk_244, 7, Q) 111 mt_244_111 [(0, .ref 65), (1, .ref 2), (2, .ref 56), (4, .int v4), (5, .int v5), (6, .int s2.1)] [] false (mz_k S R s2.2 b t)) (hx1 : ∀ z, C1 (.inr z) → C0 z) (hp : cd_244_111 v4 v5 s) (hC : C1 (cq_244_111 v4 v5 s)) : mz_G (d, mz_X0 L xs, none, [], mk_244, 7, Q) 111 mt_244_111 [(0, .ref 65), (1, .ref 2), (2, .ref 56), (4, .int v4), (5, .int v5), (6, .int s.1)] [] false (mz_k S R s.2 b t) := by
  unfold cq_244_111 at hC
  unfold cd_244_111 at hp
  refine g_iload rfl (g_bipush mzb_10 ?_)
  refine g_icge (tg := 171) rfl ms_244_171 hC (fun h1 hC => ?_) (fun h1 hC => ?_)
  · have hp := hp.1 h1
    refine g_aload_n rfl (g_getR (mz_at hS (Nat.le_of_ble_eq_true rfl) mzcS_2) mzcf_5_16 (mz_rb hR (Nat.le_of_ble_eq_true rfl) rfl mzcR_2_16) (g_iload rfl ?_))
    obtain ⟨h2, hp⟩ := hp
    refine g_iald hS.1 (mz_at hS (Nat.le_of_ble_eq_true rfl) mzcS_38) h2 (g_iconst mzi_m1 ?_)
    refine g_iceq (tg := 165) rfl ms_244_165 hC (fun h3 hC => ?_) (fun h3 hC => ?_)
    · have hp := hp.1 h3
      refine g_weak ?_ (g_cl (cg_244_165 hd hS hR v4 v5 s.1 s.2 hr hc1 hx1 hp hC))
      exact ⟨rfl, rfl, rfl, rfl, rfl, rfl, trivial⟩
    · have hp := hp.2 h3
      refine g_aload_n rfl (g_getR (mz_at hS (Nat.le_of_ble_eq_true rfl) mzcS_65) mzcf_3_9 (mz_rb hR (Nat.le_of_ble_eq_true rfl) rfl mzcR_65_9) (g_aload_n rfl (g_getR (mz_at hS (Nat.le_of_ble_eq_true rfl) mzcS_2) mzcf_5_16 (mz_rb hR (Nat.le_of_ble_eq_true rfl) rfl mzcR_2_16) (g_iload rfl ?_))))
      obtain ⟨h4, hp⟩ := hp
      refine g_iald hS.1 (mz_at hS (Nat.le_of_ble_eq_true rfl) mzcS_38) h4 (g_dup2 rfl rfl ?_)
      obtain ⟨h5, hp⟩ := hp
      refine g_lald (mz_at hS (Nat.le_of_ble_eq_true rfl) mzcS_74) h5 (g_iconst mzi_5 (g_aload_n rfl (g_iload rfl (g_iload rfl ?_))))
      obtain ⟨h6, hp⟩ := hp
      refine g_v3v (Nat.le_of_ble_eq_true rfl) (mz_at hS (Nat.le_of_ble_eq_true rfl) mzcS_2) (fun _ hq => cs_221 (Nat.le_trans (Nat.le_of_ble_eq_true rfl) hd) (hS.le (Nat.le_of_ble_eq_true rfl)) (hR.le (Nat.le_of_ble_eq_true rfl))  s.1 v4 s.2 h6 hq) (g_imul (g_iconst mzi_2 (g_aload_n rfl (g_getR (mz_at hS (Nat.le_of_ble_eq_true rfl) mzcS_56) mzcf_9_14 (mz_rb hR (Nat.le_of_ble_eq_true rfl) rfl mzcR_56_14) (g_iload rfl ?_)))))
      obtain ⟨h7, hp⟩ := hp
      refine g_iald hS.1 (mz_at hS (Nat.le_of_ble_eq_true rfl) mzcS_64) h7 (g_imul (g_iadd (g_i2l (g_ladd ?_))))
      obtain ⟨h8, hp⟩ := hp
      refine g_last (mz_at hS (Nat.le_of_ble_eq_true rfl) mzcS_74) h8 ?_
      refine g_weak ?_ (g_cl (cg_244_165 hd hS hR v4 v5 s.1 (mz_wL s.2 74 (mz_gI s.2 38 s.1) ((mz_gL s.2 74 (mz_gI s.2 38 s.1)) + (((5 * (cf_221_0 s.1 v4 s.2)) + (2 * (mz_gI s.2 64 s.1))).toInt64))) hr hc1 hx1 hp hC))
      exact ⟨rfl, rfl, rfl, rfl, rfl, rfl, trivial⟩
  · have hp := hp.2 h1
    refine g_aload_n rfl (g_aload_n rfl (g_iload rfl ?_))
    obtain ⟨h9, hp⟩ := hp
    refine g_v3n (Nat.le_of_ble_eq_true rfl) (mz_at hS (Nat.le_of_ble_eq_true rfl) mzcS_65) (fun _ hq => cs_245 (Nat.le_trans (Nat.le_of_ble_eq_true rfl) hd) (hS.le (Nat.le_of_ble_eq_true rfl)) (hR.le (Nat.le_of_ble_eq_true rfl))  v5 s.2 h9 hq) (g_aload_n rfl (g_aload_n rfl (g_aload_n rfl (g_getR (mz_at hS (Nat.le_of_ble_eq_true rfl) mzcS_65) mzcf_3_4 (mz_rb hR (Nat.le_of_ble_eq_true rfl) rfl mzcR_65_4) ?_))))
    obtain ⟨h10, hp⟩ := hp
    refine g_v3n (Nat.le_of_ble_eq_true rfl) (mz_at hS (Nat.le_of_ble_eq_true rfl) mzcS_65) (fun _ hq => cs_243 (Nat.le_trans (Nat.le_of_ble_eq_true rfl) hd) (hS.le (Nat.le_of_ble_eq_true rfl)) (hR.le (Nat.le_of_ble_eq_true rfl)) 70 (mz_at hS (Nat.le_of_ble_eq_true rfl) mzcS_70) (cf_245_0 v5 s.2) h10 hq) (g_aload_n rfl (g_aload_n rfl ?_))
    have h11 := hp
    refine g_v2n (Nat.le_of_ble_eq_true rfl) (mz_at hS (Nat.le_of_ble_eq_true rfl) mzcS_65) (fun _ hq => cs_246 (Nat.le_trans (Nat.le_of_ble_eq_true rfl) hd) (hS.le (Nat.le_of_ble_eq_true rfl)) (hR.le (Nat.le_of_ble_eq_true rfl))  (cf_243_0 70 (cf_245_0 v5 s.2)) h11 hq) ?_
    exact g_vret rfl (hr _ (hx1 _ hC))
theorem cg_244_111 (hd : 3 ≤ d) (hS : mz_extR S 232) (hR : mz_rok R 232)  (v4 : Int32) (v5 : Int32) (v6 : Int32) (N : mz_N) {C0 : (mz_N) → Prop} (hr : ∀ (N2 : mz_N), C0 N2 → Q (.inl none) (mz_k S R N2 b t)) (hp : cp_244_111 v4 v5 v6 N) (hC : C0 (cf_244_111 v4 v5 v6 N)) : mz_G (d, mz_X0 L xs, none, [], mk_244, 7, Q) 111 mt_244_111 [(0, .ref 65), (1, .ref 2), (2, .ref 56), (4, .int v4), (5, .int v5), (6, .int v6)] [] false (mz_k S R N b t) := by
  obtain ⟨n, hn⟩ := hp
  exact g_loop (G := fun s => mz_G (d, mz_X0 L xs, none, [], mk_244, 7, Q) 111 mt_244_111 [(0, .ref 65), (1, .ref 2), (2, .ref 56), (4, .int v4), (5, .int v5), (6, .int s.1)] [] false (mz_k S R s.2 b t)) (C := C0) (fun C2 hc hx s hP hC => cb_244_111 hd hS hR v4 v5 s hr hc hx hP hC) n (v6, N) hn hC
theorem cg_244_81 (hd : 3 ≤ d) (hS : mz_extR S 232) (hR : mz_rok R 232)  (s0 : Int32) (v4 : Int32) (N : mz_N) {C0 : (mz_N) → Prop} (hr : ∀ (N2 : mz_N), C0 N2 → Q (.inl none) (mz_k S R N2 b t)) (hp : cp_244_81 s0 v4 N) (hC : C0 (cf_244_81 s0 v4 N)) : mz_G (d, mz_X0 L xs, none, [], mk_244, 7, Q) 81 mt_244_81 [(0, .ref 65), (1, .ref 2), (2, .ref 56), (4, .int v4)] [.int s0] false (mz_k S R N b t) := by
  unfold cf_244_81 at hC
  unfold cp_244_81 at hp
  refine g_istore (Nat.le_of_ble_eq_true rfl) rfl (g_aload_n rfl (g_aload_n rfl (g_iload rfl ?_)))
  obtain ⟨h1, hp⟩ := hp
  refine g_v3n (Nat.le_of_ble_eq_true rfl) (mz_at hS (Nat.le_of_ble_eq_true rfl) mzcS_65) (fun _ hq => cs_245 (Nat.le_trans (Nat.le_of_ble_eq_true rfl) hd) (hS.le (Nat.le_of_ble_eq_true rfl)) (hR.le (Nat.le_of_ble_eq_true rfl))  s0 N h1 hq) (g_aload_n rfl (g_aload_n rfl (g_aload_n rfl (g_getR (mz_at hS (Nat.le_of_ble_eq_true rfl) mzcS_65) mzcf_3_3 (mz_rb hR (Nat.le_of_ble_eq_true rfl) rfl mzcR_65_3) ?_))))
  obtain ⟨h2, hp⟩ := hp
  refine g_v3n (Nat.le_of_ble_eq_true rfl) (mz_at hS (Nat.le_of_ble_eq_true rfl) mzcS_65) (fun _ hq => cs_243 (Nat.le_trans (Nat.le_of_ble_eq_true rfl) hd) (hS.le (Nat.le_of_ble_eq_true rfl)) (hR.le (Nat.le_of_ble_eq_true rfl)) 69 (mz_at hS (Nat.le_of_ble_eq_true rfl) mzcS_69) (cf_245_0 s0 N) h2 hq) (g_aload_n rfl (g_aload_n rfl (g_aload_n rfl (g_getR (mz_at hS (Nat.le_of_ble_eq_true rfl) mzcS_65) mzcf_3_4 (mz_rb hR (Nat.le_of_ble_eq_true rfl) rfl mzcR_65_4) ?_))))
  obtain ⟨h3, hp⟩ := hp
  refine g_v3n (Nat.le_of_ble_eq_true rfl) (mz_at hS (Nat.le_of_ble_eq_true rfl) mzcS_65) (fun _ hq => cs_235 (Nat.le_trans (Nat.le_of_ble_eq_true rfl) hd) (hS.le (Nat.le_of_ble_eq_true rfl)) (hR.le (Nat.le_of_ble_eq_true rfl)) 70 (mz_at hS (Nat.le_of_ble_eq_true rfl) mzcS_70) (cf_243_0 69 (cf_245_0 s0 N)) h3 hq) (g_iconst mzi_0 (g_istore (Nat.le_of_ble_eq_true rfl) rfl ?_))
  refine g_weak ?_ (g_cl (cg_244_111 hd hS hR v4 s0 0 (cf_235_0 70 (cf_243_0 69 (cf_245_0 s0 N))) hr hp hC))
  exact ⟨rfl, rfl, rfl, rfl, rfl, rfl, trivial⟩
theorem cg_244_57 (hd : 3 ≤ d) (hS : mz_extR S 232) (hR : mz_rok R 232)  (v4 : Int32) (v5 : Int32) (N : mz_N) {C0 : (mz_N) → Prop} (hr : ∀ (N2 : mz_N), C0 N2 → Q (.inl none) (mz_k S R N2 b t)) {C1 : ((Int32 × mz_N) ⊕ (mz_N)) → Prop} (hc1 : ∀ s2, C1 (.inl s2) → mz_G (d, mz_X0 L xs, none, [], mk_244, 7, Q) 12 mt_244_12 [(0, .ref 65), (1, .ref 2), (2, .ref 56), (3, .ref 53), (4, .int v4), (5, .int s2.1)] [] false (mz_k S R s2.2 b t)) (hx1 : ∀ z, C1 (.inr z) → C0 z) (hp : cp_244_57 v4 v5 N) (hC : C1 (cf_244_57 v4 v5 N)) : mz_G (d, mz_X0 L xs, none, [], mk_244, 7, Q) 57 mt_244_57 [(0, .ref 65), (1, .ref 2), (2, .ref 56), (3, .ref 53), (4, .int v4), (5, .int v5)] [] false (mz_k S R N b t) := by
  unfold cf_244_57 at hC
  unfold cp_244_57 at hp
  refine g_iinc rfl mzi_1 (Nat.le_of_ble_eq_true rfl) rfl (g_goto (tg := 12) rfl ms_244_12 ?_)
  refine g_weak ?_ (g_cl (hc1 ((v5 + 1), N) hC))
  exact ⟨rfl, rfl, rfl, rfl, rfl, rfl, trivial⟩
theorem cb_244_12 (hd : 3 ≤ d) (hS : mz_extR S 232) (hR : mz_rok R 232)  (v4 : Int32) (s : Int32 × mz_N) {C0 : (mz_N) → Prop} (hr : ∀ (N2 : mz_N), C0 N2 → Q (.inl none) (mz_k S R N2 b t)) {C1 : ((Int32 × mz_N) ⊕ (mz_N)) → Prop} (hc1 : ∀ s2, C1 (.inl s2) → mz_G (d, mz_X0 L xs, none, [], mk_244, 7, Q) 12 mt_244_12 [(0, .ref 65), (1, .ref 2), (2, .ref 56), (3, .ref 53), (4, .int v4), (5, .int s2.1)] [] false (mz_k S R s2.2 b t)) (hx1 : ∀ z, C1 (.inr z) → C0 z) (hp : cd_244_12 v4 s) (hC : C1 (cq_244_12 v4 s)) : mz_G (d, mz_X0 L xs, none, [], mk_244, 7, Q) 12 mt_244_12 [(0, .ref 65), (1, .ref 2), (2, .ref 56), (3, .ref 53), (4, .int v4), (5, .int s.1)] [] false (mz_k S R s.2 b t) := by
  unfold cq_244_12 at hC
  unfold cd_244_12 at hp
  refine g_iload rfl (g_bipush mzb_10 ?_)
  refine g_icge (tg := 63) rfl ms_244_63 hC (fun h1 hC => ?_) (fun h1 hC => ?_)
  · have hp := hp.1 h1
    refine g_aload_n rfl (g_getR (mz_at hS (Nat.le_of_ble_eq_true rfl) mzcS_2) mzcf_5_16 (mz_rb hR (Nat.le_of_ble_eq_true rfl) rfl mzcR_2_16) (g_iload rfl ?_))
    obtain ⟨h2, hp⟩ := hp
    refine g_iald hS.1 (mz_at hS (Nat.le_of_ble_eq_true rfl) mzcS_38) h2 (g_iconst mzi_m1 ?_)
    refine g_iceq (tg := 57) rfl ms_244_57 hC (fun h3 hC => ?_) (fun h3 hC => ?_)
    · have hp := hp.1 h3
      refine g_weak ?_ (g_cl (cg_244_57 hd hS hR v4 s.1 s.2 hr hc1 hx1 hp hC))
      exact ⟨rfl, rfl, rfl, rfl, rfl, rfl, trivial⟩
    · have hp := hp.2 h3
      refine g_aload_n rfl (g_getR (mz_at hS (Nat.le_of_ble_eq_true rfl) mzcS_65) mzcf_3_9 (mz_rb hR (Nat.le_of_ble_eq_true rfl) rfl mzcR_65_9) (g_aload_n rfl (g_getR (mz_at hS (Nat.le_of_ble_eq_true rfl) mzcS_2) mzcf_5_16 (mz_rb hR (Nat.le_of_ble_eq_true rfl) rfl mzcR_2_16) (g_iload rfl ?_))))
      obtain ⟨h4, hp⟩ := hp
      refine g_iald hS.1 (mz_at hS (Nat.le_of_ble_eq_true rfl) mzcS_38) h4 (g_dup2 rfl rfl ?_)
      obtain ⟨h5, hp⟩ := hp
      refine g_lald (mz_at hS (Nat.le_of_ble_eq_true rfl) mzcS_74) h5 (g_bipush mzb_20 (g_aload_n rfl (g_iload rfl (g_iload rfl ?_))))
      obtain ⟨h6, hp⟩ := hp
      refine g_v3v (Nat.le_of_ble_eq_true rfl) (mz_at hS (Nat.le_of_ble_eq_true rfl) mzcS_2) (fun _ hq => cs_221 (Nat.le_trans (Nat.le_of_ble_eq_true rfl) hd) (hS.le (Nat.le_of_ble_eq_true rfl)) (hR.le (Nat.le_of_ble_eq_true rfl))  s.1 v4 s.2 h6 hq) (g_imul (g_i2l (g_ladd ?_)))
      obtain ⟨h7, hp⟩ := hp
      refine g_last (mz_at hS (Nat.le_of_ble_eq_true rfl) mzcS_74) h7 ?_
      refine g_weak ?_ (g_cl (cg_244_57 hd hS hR v4 s.1 (mz_wL s.2 74 (mz_gI s.2 38 s.1) ((mz_gL s.2 74 (mz_gI s.2 38 s.1)) + ((20 * (cf_221_0 s.1 v4 s.2)).toInt64))) hr hc1 hx1 hp hC))
      exact ⟨rfl, rfl, rfl, rfl, rfl, rfl, trivial⟩
  · have hp := hp.2 h1
    refine g_aload_n rfl ?_
    obtain ⟨h8, hp⟩ := hp
    refine g_getZ (mz_at hS (Nat.le_of_ble_eq_true rfl) mzcS_56) mzcf_9_6 h8 ?_
    refine g_zeq (tg := 80) rfl ms_244_80 hC (fun h9 hC => ?_) (fun h9 hC => ?_)
    · have hp := hp.1 h9
      refine g_bipush mzb_10 (g_aload_n rfl (g_bipush mzb_13 (g_iald hS.1 (mz_at hS (Nat.le_of_ble_eq_true rfl) mzcS_53) (mz_ibd (by decide)) (g_imul (g_goto (tg := 81) rfl ms_244_81 ?_)))))
      refine g_weak ?_ (g_cl (cg_244_81 hd hS hR (10 * (mz_gI s.2 53 13)) v4 s.2 hr hp (hx1 _ hC)))
      exact ⟨rfl, rfl, rfl, rfl, trivial⟩
    · have hp := hp.2 h9
      refine g_iconst mzi_0 ?_
      refine g_weak ?_ (g_cl (cg_244_81 hd hS hR 0 v4 s.2 hr hp (hx1 _ hC)))
      exact ⟨rfl, rfl, rfl, rfl, trivial⟩
theorem cg_244_12 (hd : 3 ≤ d) (hS : mz_extR S 232) (hR : mz_rok R 232)  (v4 : Int32) (v5 : Int32) (N : mz_N) {C0 : (mz_N) → Prop} (hr : ∀ (N2 : mz_N), C0 N2 → Q (.inl none) (mz_k S R N2 b t)) (hp : cp_244_12 v4 v5 N) (hC : C0 (cf_244_12 v4 v5 N)) : mz_G (d, mz_X0 L xs, none, [], mk_244, 7, Q) 12 mt_244_12 [(0, .ref 65), (1, .ref 2), (2, .ref 56), (3, .ref 53), (4, .int v4), (5, .int v5)] [] false (mz_k S R N b t) := by
  obtain ⟨n, hn⟩ := hp
  exact g_loop (G := fun s => mz_G (d, mz_X0 L xs, none, [], mk_244, 7, Q) 12 mt_244_12 [(0, .ref 65), (1, .ref 2), (2, .ref 56), (3, .ref 53), (4, .int v4), (5, .int s.1)] [] false (mz_k S R s.2 b t)) (C := C0) (fun C2 hc hx s hP hC => cb_244_12 hd hS hR v4 s hr hc hx hP hC) n (v5, N) hn hC
theorem cg_244_0 (hd : 3 ≤ d) (hS : mz_extR S 232) (hR : mz_rok R 232)  (v4 : Int32) (N : mz_N) {C0 : (mz_N) → Prop} (hr : ∀ (N2 : mz_N), C0 N2 → Q (.inl none) (mz_k S R N2 b t)) (hp : cp_244_0 v4 N) (hC : C0 (cf_244_0 v4 N)) : mz_G (d, mz_X0 L xs, none, [], mk_244, 7, Q) 0 mk_244 [(0, .ref 65), (1, .ref 2), (2, .ref 56), (3, .ref 53), (4, .int v4)] [] true (mz_k S R N b t) := by
  unfold cf_244_0 at hC
  unfold cp_244_0 at hp
  refine g_aload_n rfl (g_aload_n rfl (g_aload_n rfl (g_getR (mz_at hS (Nat.le_of_ble_eq_true rfl) mzcS_65) mzcf_3_3 (mz_rb hR (Nat.le_of_ble_eq_true rfl) rfl mzcR_65_3) ?_)))
  obtain ⟨h1, hp⟩ := hp
  refine g_v3n (Nat.le_of_ble_eq_true rfl) (mz_at hS (Nat.le_of_ble_eq_true rfl) mzcS_65) (fun _ hq => cs_235 (Nat.le_trans (Nat.le_of_ble_eq_true rfl) hd) (hS.le (Nat.le_of_ble_eq_true rfl)) (hR.le (Nat.le_of_ble_eq_true rfl)) 69 (mz_at hS (Nat.le_of_ble_eq_true rfl) mzcS_69) N h1 hq) (g_iconst mzi_0 (g_istore (Nat.le_of_ble_eq_true rfl) rfl ?_))
  refine g_weak ?_ (g_cl (cg_244_12 hd hS hR v4 0 (cf_235_0 69 N) hr hp hC))
  exact ⟨rfl, rfl, rfl, rfl, rfl, rfl, trivial⟩
theorem cs_244 (hd : 4 ≤ d) (hS : mz_extR S 232) (hR : mz_rok R 232)  (v4 : Int32) (N : mz_N) (hp : cp_244_0 v4 N) (hq : Q (.inl none) (mz_k S R (cf_244_0 v4 N) b t)) : mz_Ed (mz_X0 L xs) d 244 [.ref 65, .ref 2, .ref 56, .ref 53, .int v4] (mz_k S R N b t) Q :=
  by
  refine g_in mzq_244 (Nat.le_of_ble_eq_true rfl) (Nat.le_of_ble_eq_true rfl) (Nat.le_trans (Nat.le_of_ble_eq_true rfl) hd) ?_
  refine g_weak ?_ (cg_244_0 (d := d - 1) (by omega) hS hR v4 N (C0 := fun z => Q (.inl none) (mz_k S R z b t)) (fun _ h => h) hp hq)
  exact ⟨rfl, rfl, rfl, rfl, rfl, trivial⟩
/-! 248 KeptHouse$Climate.growFlames ()V -/
theorem ms_248_0 : mz_sf mk_248 0 = mk_248 := mz_sf_zero _
theorem ms_248_2 : mz_sf mk_248 2 = mt_248_2 := mz_sf_add ms_248_0 (t := 2) rfl rfl
theorem ms_248_30 : mz_sf mk_248 30 = mt_248_30 := mz_sf_add ms_248_2 (t := 28) rfl rfl
theorem ms_248_48 : mz_sf mk_248 48 = mt_248_48 := mz_sf_add ms_248_30 (t := 18) rfl rfl
theorem ms_248_67 : mz_sf mk_248 67 = mt_248_67 := mz_sf_add ms_248_48 (t := 19) rfl rfl
theorem ms_248_87 : mz_sf mk_248 87 = mt_248_87 := mz_sf_add ms_248_67 (t := 20) rfl rfl
theorem ms_248_93 : mz_sf mk_248 93 = mt_248_93 := mz_sf_add ms_248_87 (t := 6) rfl rfl
set_option maxRecDepth 100000 in
theorem mzq_248 : mz_PG0 248 = some (3, ⟨"KeptHouse$Climate", "growFlames", "()V"⟩, prog_5_method_23_code, 2, none, [], mk_248, []) := rfl
theorem cg_248_87 (hd : 0 ≤ d) (hS : mz_extR S 232) (hR : mz_rok R 232)  (v1 : Int32) (N : mz_N) {C0 : (mz_N) → Prop} (hr : ∀ (N2 : mz_N), C0 N2 → Q (.inl none) (mz_k S R N2 b t)) {C1 : ((Int32 × mz_N) ⊕ (mz_N)) → Prop} (hc1 : ∀ s2, C1 (.inl s2) → mz_G (d, mz_X0 L xs, none, [], mk_248, 2, Q) 2 mt_248_2 [(0, .ref 65), (1, .int s2.1)] [] false (mz_k S R s2.2 b t)) (hx1 : ∀ z, C1 (.inr z) → C0 z) (hp : cp_248_87 v1 N) (hC : C1 (cf_248_87 v1 N)) : mz_G (d, mz_X0 L xs, none, [], mk_248, 2, Q) 87 mt_248_87 [(0, .ref 65), (1, .int v1)] [] false (mz_k S R N b t) := by
  unfold cf_248_87 at hC
  unfold cp_248_87 at hp
  refine g_iinc rfl mzi_1 (Nat.le_of_ble_eq_true rfl) rfl (g_goto (tg := 2) rfl ms_248_2 ?_)
  refine g_weak ?_ (g_cl (hc1 ((v1 + 1), N) hC))
  exact ⟨rfl, rfl, trivial⟩
theorem cg_248_48 (hd : 0 ≤ d) (hS : mz_extR S 232) (hR : mz_rok R 232)  (v1 : Int32) (N : mz_N) {C0 : (mz_N) → Prop} (hr : ∀ (N2 : mz_N), C0 N2 → Q (.inl none) (mz_k S R N2 b t)) {C1 : ((Int32 × mz_N) ⊕ (mz_N)) → Prop} (hc1 : ∀ s2, C1 (.inl s2) → mz_G (d, mz_X0 L xs, none, [], mk_248, 2, Q) 2 mt_248_2 [(0, .ref 65), (1, .int s2.1)] [] false (mz_k S R s2.2 b t)) (hx1 : ∀ z, C1 (.inr z) → C0 z) (hp : cp_248_48 v1 N) (hC : C1 (cf_248_48 v1 N)) : mz_G (d, mz_X0 L xs, none, [], mk_248, 2, Q) 48 mt_248_48 [(0, .ref 65), (1, .int v1)] [] false (mz_k S R N b t) := by
  unfold cf_248_48 at hC
  unfold cp_248_48 at hp
  refine g_aload_n rfl (g_getR (mz_at hS (Nat.le_of_ble_eq_true rfl) mzcS_65) mzcf_3_2 (mz_rb hR (Nat.le_of_ble_eq_true rfl) rfl mzcR_65_2) (g_iload_n rfl (g_dup2 rfl rfl ?_)))
  obtain ⟨h1, hp⟩ := hp
  refine g_lald (mz_at hS (Nat.le_of_ble_eq_true rfl) mzcS_68) h1 (g_bipush mzb_50 (g_aload_n rfl (g_getR (mz_at hS (Nat.le_of_ble_eq_true rfl) mzcS_65) mzcf_3_7 (mz_rb hR (Nat.le_of_ble_eq_true rfl) rfl mzcR_65_7) (g_iload_n rfl ?_))))
  obtain ⟨h2, hp⟩ := hp
  refine g_iald hS.1 (mz_at hS (Nat.le_of_ble_eq_true rfl) mzcS_73) h2 (g_imul (g_i2l (g_ladd ?_)))
  obtain ⟨h3, hp⟩ := hp
  refine g_last (mz_at hS (Nat.le_of_ble_eq_true rfl) mzcS_68) h3 (g_aload_n rfl (g_getR (mz_at hS (Nat.le_of_ble_eq_true rfl) mzcS_65) mzcf_3_7 (mz_rb hR (Nat.le_of_ble_eq_true rfl) rfl mzcR_65_7) (g_iload_n rfl (g_bipush mzb_100 (g_aload_n rfl (g_getR (mz_at hS (Nat.le_of_ble_eq_true rfl) mzcS_65) mzcf_3_7 (mz_rb hR (Nat.le_of_ble_eq_true rfl) rfl mzcR_65_7) (g_iload_n rfl ?_)))))))
  obtain ⟨h4, hp⟩ := hp
  refine g_iald hS.1 (mz_at hS (Nat.le_of_ble_eq_true rfl) mzcS_73) h4 (g_bipush mzb_10 (g_iadd (g_imin (Nat.le_of_ble_eq_true rfl) ?_)))
  obtain ⟨h5, hp⟩ := hp
  refine g_iast (mz_at hS (Nat.le_of_ble_eq_true rfl) mzcS_73) h5 ?_
  refine g_weak ?_ (g_cl (cg_248_87 hd hS hR v1 (mz_wI (mz_wL N 68 v1 ((mz_gL N 68 v1) + ((50 * (mz_gI N 73 v1)).toInt64))) 73 v1 (mz_imin 100 ((mz_gI (mz_wL N 68 v1 ((mz_gL N 68 v1) + ((50 * (mz_gI N 73 v1)).toInt64))) 73 v1) + 10))) hr hc1 hx1 hp hC))
  exact ⟨rfl, rfl, trivial⟩
theorem cb_248_2 (hd : 0 ≤ d) (hS : mz_extR S 232) (hR : mz_rok R 232)   (s : Int32 × mz_N) {C0 : (mz_N) → Prop} (hr : ∀ (N2 : mz_N), C0 N2 → Q (.inl none) (mz_k S R N2 b t)) {C1 : ((Int32 × mz_N) ⊕ (mz_N)) → Prop} (hc1 : ∀ s2, C1 (.inl s2) → mz_G (d, mz_X0 L xs, none, [], mk_248, 2, Q) 2 mt_248_2 [(0, .ref 65), (1, .int s2.1)] [] false (mz_k S R s2.2 b t)) (hx1 : ∀ z, C1 (.inr z) → C0 z) (hp : cd_248_2  s) (hC : C1 (cq_248_2  s)) : mz_G (d, mz_X0 L xs, none, [], mk_248, 2, Q) 2 mt_248_2 [(0, .ref 65), (1, .int s.1)] [] false (mz_k S R s.2 b t) := by
  unfold cq_248_2 at hC
  unfold cd_248_2 at hp
  refine g_iload_n rfl (g_sipush mzs_240 ?_)
  refine g_icge (tg := 93) rfl ms_248_93 hC (fun h1 hC => ?_) (fun h1 hC => ?_)
  · have hp := hp.1 h1
    refine g_aload_n rfl (g_getR (mz_at hS (Nat.le_of_ble_eq_true rfl) mzcS_65) mzcf_3_15 (mz_rb hR (Nat.le_of_ble_eq_true rfl) rfl mzcR_65_15) (g_iload_n rfl (g_aload_n rfl (g_getR (mz_at hS (Nat.le_of_ble_eq_true rfl) mzcS_65) mzcf_3_7 (mz_rb hR (Nat.le_of_ble_eq_true rfl) rfl mzcR_65_7) (g_iload_n rfl ?_)))))
    obtain ⟨h2, hp⟩ := hp
    refine g_iald hS.1 (mz_at hS (Nat.le_of_ble_eq_true rfl) mzcS_73) h2 ?_
    obtain ⟨h3, hp⟩ := hp
    refine g_iast (mz_at hS (Nat.le_of_ble_eq_true rfl) mzcS_80) h3 (g_aload_n rfl (g_getR (mz_at hS (Nat.le_of_ble_eq_true rfl) mzcS_65) mzcf_3_7 (mz_rb hR (Nat.le_of_ble_eq_true rfl) rfl mzcR_65_7) (g_iload_n rfl ?_)))
    obtain ⟨h4, hp⟩ := hp
    refine g_iald hS.1 (mz_at hS (Nat.le_of_ble_eq_true rfl) mzcS_73) h4 ?_
    refine g_ifle (tg := 87) rfl ms_248_87 hC (fun h5 hC => ?_) (fun h5 hC => ?_)
    · have hp := hp.1 h5
      refine g_aload_n rfl (g_getR (mz_at hS (Nat.le_of_ble_eq_true rfl) mzcS_65) mzcf_3_5 (mz_rb hR (Nat.le_of_ble_eq_true rfl) rfl mzcR_65_5) (g_iload_n rfl (g_dup2 rfl rfl ?_)))
      obtain ⟨h6, hp⟩ := hp
      refine g_lald (mz_at hS (Nat.le_of_ble_eq_true rfl) mzcS_71) h6 (g_iconst mzi_2 (g_aload_n rfl (g_getR (mz_at hS (Nat.le_of_ble_eq_true rfl) mzcS_65) mzcf_3_7 (mz_rb hR (Nat.le_of_ble_eq_true rfl) rfl mzcR_65_7) (g_iload_n rfl ?_))))
      obtain ⟨h7, hp⟩ := hp
      refine g_iald hS.1 (mz_at hS (Nat.le_of_ble_eq_true rfl) mzcS_73) h7 (g_imul (g_i2l (g_ladd ?_)))
      obtain ⟨h8, hp⟩ := hp
      refine g_last (mz_at hS (Nat.le_of_ble_eq_true rfl) mzcS_71) h8 ?_
      refine g_weak ?_ (g_cl (cg_248_48 hd hS hR s.1 (mz_wL (mz_wI s.2 80 s.1 (mz_gI s.2 73 s.1)) 71 s.1 ((mz_gL (mz_wI s.2 80 s.1 (mz_gI s.2 73 s.1)) 71 s.1) + ((2 * (mz_gI (mz_wI s.2 80 s.1 (mz_gI s.2 73 s.1)) 73 s.1)).toInt64))) hr hc1 hx1 hp hC))
      exact ⟨rfl, rfl, trivial⟩
    · have hp := hp.2 h5
      refine g_weak ?_ (g_cl (cg_248_87 hd hS hR s.1 (mz_wI s.2 80 s.1 (mz_gI s.2 73 s.1)) hr hc1 hx1 hp hC))
      exact ⟨rfl, rfl, trivial⟩
  · have hp := hp.2 h1
    exact g_vret rfl (hr _ (hx1 _ hC))
theorem cg_248_2 (hd : 0 ≤ d) (hS : mz_extR S 232) (hR : mz_rok R 232)  (v1 : Int32) (N : mz_N) {C0 : (mz_N) → Prop} (hr : ∀ (N2 : mz_N), C0 N2 → Q (.inl none) (mz_k S R N2 b t)) (hp : cp_248_2 v1 N) (hC : C0 (cf_248_2 v1 N)) : mz_G (d, mz_X0 L xs, none, [], mk_248, 2, Q) 2 mt_248_2 [(0, .ref 65), (1, .int v1)] [] false (mz_k S R N b t) := by
  obtain ⟨n, hn⟩ := hp
  exact g_loop (G := fun s => mz_G (d, mz_X0 L xs, none, [], mk_248, 2, Q) 2 mt_248_2 [(0, .ref 65), (1, .int s.1)] [] false (mz_k S R s.2 b t)) (C := C0) (fun C2 hc hx s hP hC => cb_248_2 hd hS hR  s hr hc hx hP hC) n (v1, N) hn hC
theorem cg_248_0 (hd : 0 ≤ d) (hS : mz_extR S 232) (hR : mz_rok R 232)  (N : mz_N) {C0 : (mz_N) → Prop} (hr : ∀ (N2 : mz_N), C0 N2 → Q (.inl none) (mz_k S R N2 b t)) (hp : cp_248_0 N) (hC : C0 (cf_248_0 N)) : mz_G (d, mz_X0 L xs, none, [], mk_248, 2, Q) 0 mk_248 [(0, .ref 65)] [] true (mz_k S R N b t) := by
  unfold cf_248_0 at hC
  unfold cp_248_0 at hp
  refine g_iconst mzi_0 (g_istore_n (Nat.le_of_ble_eq_true rfl) rfl ?_)
  refine g_weak ?_ (g_cl (cg_248_2 hd hS hR 0 N hr hp hC))
  exact ⟨rfl, rfl, trivial⟩
theorem cs_248 (hd : 1 ≤ d) (hS : mz_extR S 232) (hR : mz_rok R 232)  (N : mz_N) (hp : cp_248_0 N) (hq : Q (.inl none) (mz_k S R (cf_248_0 N) b t)) : mz_Ed (mz_X0 L xs) d 248 [.ref 65] (mz_k S R N b t) Q :=
  by
  refine g_in mzq_248 (Nat.le_of_ble_eq_true rfl) (Nat.le_of_ble_eq_true rfl) (Nat.le_trans (Nat.le_of_ble_eq_true rfl) hd) ?_
  refine g_weak ?_ (cg_248_0 (d := d - 1) (by omega) hS hR N (C0 := fun z => Q (.inl none) (mz_k S R z b t)) (fun _ h => h) hp hq)
  exact ⟨rfl, trivial⟩
/-! 250 KeptHouse$Climate.lightCell (I)Z -/
theorem ms_250_0 : mz_sf mk_250 0 = mk_250 := mz_sf_zero _
theorem ms_250_11 : mz_sf mk_250 11 = mt_250_11 := mz_sf_add ms_250_0 (t := 11) rfl rfl
set_option maxRecDepth 100000 in
theorem mzq_250 : mz_PG0 250 = some (3, ⟨"KeptHouse$Climate", "lightCell", "(I)Z"⟩, prog_5_method_21_code, 2, some .boolean, [], mk_250, []) := rfl
theorem cg_250_0 (hd : 0 ≤ d) (hS : mz_extR S 232) (hR : mz_rok R 232)  (v1 : Int32) (N : mz_N) {C0 : (Bool × mz_N) → Prop} (hr : ∀ (w : Bool) (N2 : mz_N), C0 (w, N2) → Q (.inl (some (.int (mz_b01 w)))) (mz_k S R N2 b t)) (hp : cp_250_0 v1 N) (hC : C0 (cf_250_0 v1 N)) : mz_G (d, mz_X0 L xs, some .boolean, [], mk_250, 2, Q) 0 mk_250 [(0, .ref 65), (1, .int v1)] [] true (mz_k S R N b t) := by
  unfold cf_250_0 at hC
  unfold cp_250_0 at hp
  refine g_aload_n rfl (g_getR (mz_at hS (Nat.le_of_ble_eq_true rfl) mzcS_65) mzcf_3_7 (mz_rb hR (Nat.le_of_ble_eq_true rfl) rfl mzcR_65_7) (g_iload_n rfl ?_))
  obtain ⟨h1, hp⟩ := hp
  refine g_iald hS.1 (mz_at hS (Nat.le_of_ble_eq_true rfl) mzcS_73) h1 ?_
  refine g_ifle (tg := 11) rfl ms_250_11 hC (fun h2 hC => ?_) (fun h2 hC => ?_)
  · have hp := hp.1 h2
    refine g_iconst mzi_0 ?_
    exact g_zret (z := false) rfl (hr _ _ hC)
  · have hp := hp.2 h2
    refine g_aload_n rfl (g_getR (mz_at hS (Nat.le_of_ble_eq_true rfl) mzcS_65) mzcf_3_7 (mz_rb hR (Nat.le_of_ble_eq_true rfl) rfl mzcR_65_7) (g_iload_n rfl (g_bipush mzb_10 ?_)))
    have h3 := hp
    refine g_iast (mz_at hS (Nat.le_of_ble_eq_true rfl) mzcS_73) h3 (g_aload_n rfl (g_iconst mzi_1 (g_putZ (z := true) (mz_at hS (Nat.le_of_ble_eq_true rfl) mzcS_65) mzcf_3_8 (g_iconst mzi_1 ?_))))
    exact g_zret (z := true) rfl (hr _ _ hC)
theorem cs_250 (hd : 1 ≤ d) (hS : mz_extR S 232) (hR : mz_rok R 232)  (v1 : Int32) (N : mz_N) (hp : cp_250_0 v1 N) (hq : Q (.inl (some (.int (mz_b01 ((cf_250_0 v1 N).1))))) (mz_k S R ((cf_250_0 v1 N).2) b t)) : mz_Ed (mz_X0 L xs) d 250 [.ref 65, .int v1] (mz_k S R N b t) Q :=
  by
  refine g_in mzq_250 (Nat.le_of_ble_eq_true rfl) (Nat.le_of_ble_eq_true rfl) (Nat.le_trans (Nat.le_of_ble_eq_true rfl) hd) ?_
  refine g_weak ?_ (cg_250_0 (d := d - 1) (by omega) hS hR v1 N (C0 := fun z => Q (.inl (some (.int (mz_b01 z.1)))) (mz_k S R z.2 b t)) (fun _ _ h => h) hp hq)
  exact ⟨rfl, rfl, trivial⟩
/-! 249 KeptHouse$Climate.lightNeighbours (LKeptHouse$Plan;)V -/
theorem ms_249_0 : mz_sf mk_249 0 = mk_249 := mz_sf_zero _
theorem ms_249_2 : mz_sf mk_249 2 = mt_249_2 := mz_sf_add ms_249_0 (t := 2) rfl rfl
theorem ms_249_22 : mz_sf mk_249 22 = mt_249_22 := mz_sf_add ms_249_2 (t := 20) rfl rfl
theorem ms_249_55 : mz_sf mk_249 55 = mt_249_55 := mz_sf_add ms_249_22 (t := 33) rfl rfl
theorem ms_249_86 : mz_sf mk_249 86 = mt_249_86 := mz_sf_add ms_249_55 (t := 31) rfl rfl
theorem ms_249_92 : mz_sf mk_249 92 = mt_249_92 := mz_sf_add ms_249_86 (t := 6) rfl rfl
theorem ms_249_98 : mz_sf mk_249 98 = mt_249_98 := mz_sf_add ms_249_92 (t := 6) rfl rfl
set_option maxRecDepth 100000 in
theorem mzq_249 : mz_PG0 249 = some (3, ⟨"KeptHouse$Climate", "lightNeighbours", "(LKeptHouse$Plan;)V"⟩, prog_5_method_24_code, 6, none, [], mk_249, []) := rfl
theorem cg_249_92 (hd : 1 ≤ d) (hS : mz_extR S 232) (hR : mz_rok R 232)  (v2 : Int32) (N : mz_N) {C0 : (mz_N) → Prop} (hr : ∀ (N2 : mz_N), C0 N2 → Q (.inl none) (mz_k S R N2 b t)) {C1 : ((Int32 × mz_N) ⊕ (mz_N)) → Prop} (hc1 : ∀ s2, C1 (.inl s2) → mz_G (d, mz_X0 L xs, none, [], mk_249, 6, Q) 2 mt_249_2 [(0, .ref 65), (1, .ref 2), (2, .int s2.1)] [] false (mz_k S R s2.2 b t)) (hx1 : ∀ z, C1 (.inr z) → C0 z) (hp : cp_249_92 v2 N) (hC : C1 (cf_249_92 v2 N)) : mz_G (d, mz_X0 L xs, none, [], mk_249, 6, Q) 92 mt_249_92 [(0, .ref 65), (1, .ref 2), (2, .int v2)] [] false (mz_k S R N b t) := by
  unfold cf_249_92 at hC
  unfold cp_249_92 at hp
  refine g_iinc rfl mzi_1 (Nat.le_of_ble_eq_true rfl) rfl (g_goto (tg := 2) rfl ms_249_2 ?_)
  refine g_weak ?_ (g_cl (hc1 ((v2 + 1), N) hC))
  exact ⟨rfl, rfl, rfl, trivial⟩
theorem cg_249_86 (hd : 1 ≤ d) (hS : mz_extR S 232) (hR : mz_rok R 232)  (v2 : Int32) (v3 : Int32) (N : mz_N) {C0 : (mz_N) → Prop} (hr : ∀ (N2 : mz_N), C0 N2 → Q (.inl none) (mz_k S R N2 b t)) {C1 : ((Int32 × mz_N) ⊕ (mz_N)) → Prop} (hc1 : ∀ s2, C1 (.inl s2) → mz_G (d, mz_X0 L xs, none, [], mk_249, 6, Q) 2 mt_249_2 [(0, .ref 65), (1, .ref 2), (2, .int s2.1)] [] false (mz_k S R s2.2 b t)) (hx1 : ∀ z, C1 (.inr z) → C0 z) {C2 : ((Int32 × mz_N) ⊕ ((Int32 × mz_N) ⊕ (mz_N))) → Prop} (hc2 : ∀ s2, C2 (.inl s2) → mz_G (d, mz_X0 L xs, none, [], mk_249, 6, Q) 22 mt_249_22 [(0, .ref 65), (1, .ref 2), (2, .int v2), (3, .int s2.1)] [] false (mz_k S R s2.2 b t)) (hx2 : ∀ z, C2 (.inr z) → C1 z) (hp : cp_249_86 v2 v3 N) (hC : C2 (cf_249_86 v2 v3 N)) : mz_G (d, mz_X0 L xs, none, [], mk_249, 6, Q) 86 mt_249_86 [(0, .ref 65), (1, .ref 2), (2, .int v2), (3, .int v3)] [] false (mz_k S R N b t) := by
  unfold cf_249_86 at hC
  unfold cp_249_86 at hp
  refine g_iinc rfl mzi_1 (Nat.le_of_ble_eq_true rfl) rfl (g_goto (tg := 22) rfl ms_249_22 ?_)
  refine g_weak ?_ (g_cl (hc2 ((v3 + 1), N) hC))
  exact ⟨rfl, rfl, rfl, rfl, trivial⟩
theorem cb_249_22 (hd : 1 ≤ d) (hS : mz_extR S 232) (hR : mz_rok R 232)  (v2 : Int32) (s : Int32 × mz_N) {C0 : (mz_N) → Prop} (hr : ∀ (N2 : mz_N), C0 N2 → Q (.inl none) (mz_k S R N2 b t)) {C1 : ((Int32 × mz_N) ⊕ (mz_N)) → Prop} (hc1 : ∀ s2, C1 (.inl s2) → mz_G (d, mz_X0 L xs, none, [], mk_249, 6, Q) 2 mt_249_2 [(0, .ref 65), (1, .ref 2), (2, .int s2.1)] [] false (mz_k S R s2.2 b t)) (hx1 : ∀ z, C1 (.inr z) → C0 z) {C2 : ((Int32 × mz_N) ⊕ ((Int32 × mz_N) ⊕ (mz_N))) → Prop} (hc2 : ∀ s2, C2 (.inl s2) → mz_G (d, mz_X0 L xs, none, [], mk_249, 6, Q) 22 mt_249_22 [(0, .ref 65), (1, .ref 2), (2, .int v2), (3, .int s2.1)] [] false (mz_k S R s2.2 b t)) (hx2 : ∀ z, C2 (.inr z) → C1 z) (hp : cd_249_22 v2 s) (hC : C2 (cq_249_22 v2 s)) : mz_G (d, mz_X0 L xs, none, [], mk_249, 6, Q) 22 mt_249_22 [(0, .ref 65), (1, .ref 2), (2, .int v2), (3, .int s.1)] [] false (mz_k S R s.2 b t) := by
  unfold cq_249_22 at hC
  unfold cd_249_22 at hp
  refine g_iload_n rfl (g_iconst mzi_4 ?_)
  refine g_icge (tg := 92) rfl ms_249_92 hC (fun h1 hC => ?_) (fun h1 hC => ?_)
  · have hp := hp.1 h1
    refine g_iload_n rfl (g_bipush mzb_48 (g_irem (by decide) (g_iload_n rfl ?_)))
    refine g_s2v (Nat.le_of_ble_eq_true rfl) (fun _ hq => cs_80 (Nat.le_trans (Nat.le_of_ble_eq_true rfl) hd) (hS.le (Nat.le_of_ble_eq_true rfl)) (hR.le (Nat.le_of_ble_eq_true rfl))  (mz_irem v2 48) s.1 trivial hq) (g_istore (Nat.le_of_ble_eq_true rfl) rfl (g_iload_n rfl (g_bipush mzb_48 (g_idiv (by decide) (g_bipush mzb_110 (g_imul (g_iload_n rfl ?_)))))))
    refine g_bipush mzb_48 (g_irem (by decide) (g_iload_n rfl ?_))
    refine g_s2v (Nat.le_of_ble_eq_true rfl) (fun _ hq => cs_81 (Nat.le_trans (Nat.le_of_ble_eq_true rfl) hd) (hS.le (Nat.le_of_ble_eq_true rfl)) (hR.le (Nat.le_of_ble_eq_true rfl))  (mz_irem v2 48) s.1 trivial hq) (g_iadd (g_istore (Nat.le_of_ble_eq_true rfl) rfl (g_iload rfl (g_iconst mzi_m1 ?_))))
    refine g_iceq (tg := 86) rfl ms_249_86 hC (fun h4 hC => ?_) (fun h4 hC => ?_)
    · have hp := hp.1 h4
      refine g_weak ?_ (g_cl (cg_249_86 hd hS hR v2 s.1 s.2 hr hc1 hx1 hc2 hx2 hp hC))
      exact ⟨rfl, rfl, rfl, rfl, trivial⟩
    · have hp := hp.2 h4
      refine g_aload_n rfl (g_getR (mz_at hS (Nat.le_of_ble_eq_true rfl) mzcS_2) mzcf_5_0 (mz_rb hR (Nat.le_of_ble_eq_true rfl) rfl mzcR_2_0) (g_iload rfl ?_))
      obtain ⟨h5, hp⟩ := hp
      refine g_iald hS.1 (mz_at hS (Nat.le_of_ble_eq_true rfl) mzcS_3) h5 ?_
      refine g_ifne (tg := 86) rfl ms_249_86 hC (fun h6 hC => ?_) (fun h6 hC => ?_)
      · have hp := hp.1 h6
        refine g_aload_n rfl (g_iload_n rfl (g_bipush mzb_48 (g_idiv (by decide) (g_bipush mzb_48 (g_imul (g_iload rfl (g_iadd ?_)))))))
        obtain ⟨h7, hp⟩ := hp
        refine g_v2v (Nat.le_of_ble_eq_true rfl) (mz_at hS (Nat.le_of_ble_eq_true rfl) mzcS_65) (fun _ hq => cs_250 (Nat.le_trans (Nat.le_of_ble_eq_true rfl) hd) (hS.le (Nat.le_of_ble_eq_true rfl)) (hR.le (Nat.le_of_ble_eq_true rfl))  (((v2 / 48) * 48) + (cf_80_0 (mz_irem v2 48) s.1)) s.2 h7 hq) (g_pop rfl ?_)
        refine g_weak ?_ (g_cl (cg_249_86 hd hS hR v2 s.1 ((cf_250_0 (((v2 / 48) * 48) + (cf_80_0 (mz_irem v2 48) s.1)) s.2).2) hr hc1 hx1 hc2 hx2 hp hC))
        exact ⟨rfl, rfl, rfl, rfl, trivial⟩
      · have hp := hp.2 h6
        refine g_weak ?_ (g_cl (cg_249_86 hd hS hR v2 s.1 s.2 hr hc1 hx1 hc2 hx2 hp hC))
        exact ⟨rfl, rfl, rfl, rfl, trivial⟩
  · have hp := hp.2 h1
    refine g_weak ?_ (g_cl (cg_249_92 hd hS hR v2 s.2 hr hc1 hx1 hp (hx2 _ hC)))
    exact ⟨rfl, rfl, rfl, trivial⟩
theorem cg_249_22 (hd : 1 ≤ d) (hS : mz_extR S 232) (hR : mz_rok R 232)  (v2 : Int32) (v3 : Int32) (N : mz_N) {C0 : (mz_N) → Prop} (hr : ∀ (N2 : mz_N), C0 N2 → Q (.inl none) (mz_k S R N2 b t)) {C1 : ((Int32 × mz_N) ⊕ (mz_N)) → Prop} (hc1 : ∀ s2, C1 (.inl s2) → mz_G (d, mz_X0 L xs, none, [], mk_249, 6, Q) 2 mt_249_2 [(0, .ref 65), (1, .ref 2), (2, .int s2.1)] [] false (mz_k S R s2.2 b t)) (hx1 : ∀ z, C1 (.inr z) → C0 z) (hp : cp_249_22 v2 v3 N) (hC : C1 (cf_249_22 v2 v3 N)) : mz_G (d, mz_X0 L xs, none, [], mk_249, 6, Q) 22 mt_249_22 [(0, .ref 65), (1, .ref 2), (2, .int v2), (3, .int v3)] [] false (mz_k S R N b t) := by
  obtain ⟨n, hn⟩ := hp
  exact g_loop (G := fun s => mz_G (d, mz_X0 L xs, none, [], mk_249, 6, Q) 22 mt_249_22 [(0, .ref 65), (1, .ref 2), (2, .int v2), (3, .int s.1)] [] false (mz_k S R s.2 b t)) (C := C1) (fun C2 hc hx s hP hC => cb_249_22 hd hS hR v2 s hr hc1 hx1 hc hx hP hC) n (v3, N) hn hC
theorem cb_249_2 (hd : 1 ≤ d) (hS : mz_extR S 232) (hR : mz_rok R 232)   (s : Int32 × mz_N) {C0 : (mz_N) → Prop} (hr : ∀ (N2 : mz_N), C0 N2 → Q (.inl none) (mz_k S R N2 b t)) {C1 : ((Int32 × mz_N) ⊕ (mz_N)) → Prop} (hc1 : ∀ s2, C1 (.inl s2) → mz_G (d, mz_X0 L xs, none, [], mk_249, 6, Q) 2 mt_249_2 [(0, .ref 65), (1, .ref 2), (2, .int s2.1)] [] false (mz_k S R s2.2 b t)) (hx1 : ∀ z, C1 (.inr z) → C0 z) (hp : cd_249_2  s) (hC : C1 (cq_249_2  s)) : mz_G (d, mz_X0 L xs, none, [], mk_249, 6, Q) 2 mt_249_2 [(0, .ref 65), (1, .ref 2), (2, .int s.1)] [] false (mz_k S R s.2 b t) := by
  unfold cq_249_2 at hC
  unfold cd_249_2 at hp
  refine g_iload_n rfl (g_sipush mzs_240 ?_)
  refine g_icge (tg := 98) rfl ms_249_98 hC (fun h1 hC => ?_) (fun h1 hC => ?_)
  · have hp := hp.1 h1
    refine g_aload_n rfl (g_getR (mz_at hS (Nat.le_of_ble_eq_true rfl) mzcS_65) mzcf_3_15 (mz_rb hR (Nat.le_of_ble_eq_true rfl) rfl mzcR_65_15) (g_iload_n rfl ?_))
    obtain ⟨h2, hp⟩ := hp
    refine g_iald hS.1 (mz_at hS (Nat.le_of_ble_eq_true rfl) mzcS_80) h2 (g_bipush mzb_100 ?_)
    refine g_icne (tg := 92) rfl ms_249_92 hC (fun h3 hC => ?_) (fun h3 hC => ?_)
    · have hp := hp.1 h3
      refine g_iconst mzi_0 (g_istore_n (Nat.le_of_ble_eq_true rfl) rfl ?_)
      refine g_weak ?_ (g_cl (cg_249_22 hd hS hR s.1 0 s.2 hr hc1 hx1 hp hC))
      exact ⟨rfl, rfl, rfl, rfl, trivial⟩
    · have hp := hp.2 h3
      refine g_weak ?_ (g_cl (cg_249_92 hd hS hR s.1 s.2 hr hc1 hx1 hp hC))
      exact ⟨rfl, rfl, rfl, trivial⟩
  · have hp := hp.2 h1
    exact g_vret rfl (hr _ (hx1 _ hC))
theorem cg_249_2 (hd : 1 ≤ d) (hS : mz_extR S 232) (hR : mz_rok R 232)  (v2 : Int32) (N : mz_N) {C0 : (mz_N) → Prop} (hr : ∀ (N2 : mz_N), C0 N2 → Q (.inl none) (mz_k S R N2 b t)) (hp : cp_249_2 v2 N) (hC : C0 (cf_249_2 v2 N)) : mz_G (d, mz_X0 L xs, none, [], mk_249, 6, Q) 2 mt_249_2 [(0, .ref 65), (1, .ref 2), (2, .int v2)] [] false (mz_k S R N b t) := by
  obtain ⟨n, hn⟩ := hp
  exact g_loop (G := fun s => mz_G (d, mz_X0 L xs, none, [], mk_249, 6, Q) 2 mt_249_2 [(0, .ref 65), (1, .ref 2), (2, .int s.1)] [] false (mz_k S R s.2 b t)) (C := C0) (fun C2 hc hx s hP hC => cb_249_2 hd hS hR  s hr hc hx hP hC) n (v2, N) hn hC
theorem cg_249_0 (hd : 1 ≤ d) (hS : mz_extR S 232) (hR : mz_rok R 232)  (N : mz_N) {C0 : (mz_N) → Prop} (hr : ∀ (N2 : mz_N), C0 N2 → Q (.inl none) (mz_k S R N2 b t)) (hp : cp_249_0 N) (hC : C0 (cf_249_0 N)) : mz_G (d, mz_X0 L xs, none, [], mk_249, 6, Q) 0 mk_249 [(0, .ref 65), (1, .ref 2)] [] true (mz_k S R N b t) := by
  unfold cf_249_0 at hC
  unfold cp_249_0 at hp
  refine g_iconst mzi_0 (g_istore_n (Nat.le_of_ble_eq_true rfl) rfl ?_)
  refine g_weak ?_ (g_cl (cg_249_2 hd hS hR 0 N hr hp hC))
  exact ⟨rfl, rfl, rfl, trivial⟩
theorem cs_249 (hd : 2 ≤ d) (hS : mz_extR S 232) (hR : mz_rok R 232)  (N : mz_N) (hp : cp_249_0 N) (hq : Q (.inl none) (mz_k S R (cf_249_0 N) b t)) : mz_Ed (mz_X0 L xs) d 249 [.ref 65, .ref 2] (mz_k S R N b t) Q :=
  by
  refine g_in mzq_249 (Nat.le_of_ble_eq_true rfl) (Nat.le_of_ble_eq_true rfl) (Nat.le_trans (Nat.le_of_ble_eq_true rfl) hd) ?_
  refine g_weak ?_ (cg_249_0 (d := d - 1) (by omega) hS hR N (C0 := fun z => Q (.inl none) (mz_k S R z b t)) (fun _ h => h) hp hq)
  exact ⟨rfl, rfl, trivial⟩
/-! 251 KeptHouse$Climate.driftSmoke (LKeptHouse$Plan;)V -/
theorem ms_251_0 : mz_sf mk_251 0 = mk_251 := mz_sf_zero _
theorem ms_251_18 : mz_sf mk_251 18 = mt_251_18 := mz_sf_add ms_251_0 (t := 18) rfl rfl
theorem ms_251_39 : mz_sf mk_251 39 = mt_251_39 := mz_sf_add ms_251_18 (t := 21) rfl rfl
theorem ms_251_61 : mz_sf mk_251 61 = mt_251_61 := mz_sf_add ms_251_39 (t := 22) rfl rfl
theorem ms_251_96 : mz_sf mk_251 96 = mt_251_96 := mz_sf_add ms_251_61 (t := 35) rfl rfl
theorem ms_251_120 : mz_sf mk_251 120 = mt_251_120 := mz_sf_add ms_251_96 (t := 24) rfl rfl
theorem ms_251_126 : mz_sf mk_251 126 = mt_251_126 := mz_sf_add ms_251_120 (t := 6) rfl rfl
set_option maxRecDepth 100000 in
theorem mzq_251 : mz_PG0 251 = some (3, ⟨"KeptHouse$Climate", "driftSmoke", "(LKeptHouse$Plan;)V"⟩, prog_5_method_25_code, 8, none, [], mk_251, []) := rfl
theorem cg_251_120 (hd : 1 ≤ d) (hS : mz_extR S 232) (hR : mz_rok R 232)  (v2 : Int32) (N : mz_N) {C0 : (mz_N) → Prop} (hr : ∀ (N2 : mz_N), C0 N2 → Q (.inl none) (mz_k S R N2 b t)) {C1 : ((Int32 × mz_N) ⊕ (mz_N)) → Prop} (hc1 : ∀ s2, C1 (.inl s2) → mz_G (d, mz_X0 L xs, none, [], mk_251, 8, Q) 18 mt_251_18 [(0, .ref 65), (1, .ref 2), (2, .int s2.1)] [] false (mz_k S R s2.2 b t)) (hx1 : ∀ z, C1 (.inr z) → C0 z) (hp : cp_251_120 v2 N) (hC : C1 (cf_251_120 v2 N)) : mz_G (d, mz_X0 L xs, none, [], mk_251, 8, Q) 120 mt_251_120 [(0, .ref 65), (1, .ref 2), (2, .int v2)] [] false (mz_k S R N b t) := by
  unfold cf_251_120 at hC
  unfold cp_251_120 at hp
  refine g_iinc rfl mzi_1 (Nat.le_of_ble_eq_true rfl) rfl (g_goto (tg := 18) rfl ms_251_18 ?_)
  refine g_weak ?_ (g_cl (hc1 ((v2 + 1), N) hC))
  exact ⟨rfl, rfl, rfl, trivial⟩
theorem cb_251_18 (hd : 1 ≤ d) (hS : mz_extR S 232) (hR : mz_rok R 232)   (s : Int32 × mz_N) {C0 : (mz_N) → Prop} (hr : ∀ (N2 : mz_N), C0 N2 → Q (.inl none) (mz_k S R N2 b t)) {C1 : ((Int32 × mz_N) ⊕ (mz_N)) → Prop} (hc1 : ∀ s2, C1 (.inl s2) → mz_G (d, mz_X0 L xs, none, [], mk_251, 8, Q) 18 mt_251_18 [(0, .ref 65), (1, .ref 2), (2, .int s2.1)] [] false (mz_k S R s2.2 b t)) (hx1 : ∀ z, C1 (.inr z) → C0 z) (hp : cd_251_18  s) (hC : C1 (cq_251_18  s)) : mz_G (d, mz_X0 L xs, none, [], mk_251, 8, Q) 18 mt_251_18 [(0, .ref 65), (1, .ref 2), (2, .int s.1)] [] false (mz_k S R s.2 b t) := by
  unfold cq_251_18 at hC
  unfold cd_251_18 at hp
  refine g_iload_n rfl (g_sipush mzs_550 ?_)
  refine g_icge (tg := 126) rfl ms_251_126 hC (fun h1 hC => ?_) (fun h1 hC => ?_)
  · have hp := hp.1 h1
    refine g_iload_n rfl (g_bipush mzb_110 (g_irem (by decide) (g_istore_n (Nat.le_of_ble_eq_true rfl) rfl (g_aload_n rfl (g_getR (mz_at hS (Nat.le_of_ble_eq_true rfl) mzcS_2) mzcf_5_0 (mz_rb hR (Nat.le_of_ble_eq_true rfl) rfl mzcR_2_0) (g_iload_n rfl ?_))))))
    obtain ⟨h2, hp⟩ := hp
    refine g_iald hS.1 (mz_at hS (Nat.le_of_ble_eq_true rfl) mzcS_3) h2 ?_
    refine g_ifne (tg := 120) rfl ms_251_120 hC (fun h3 hC => ?_) (fun h3 hC => ?_)
    · have hp := hp.1 h3
      refine g_iload_n rfl ?_
      refine g_s1v (Nat.le_of_ble_eq_true rfl) (fun _ hq => cs_21 (Nat.le_trans (Nat.le_of_ble_eq_true rfl) hd) (hS.le (Nat.le_of_ble_eq_true rfl)) (hR.le (Nat.le_of_ble_eq_true rfl))  (mz_irem s.1 110) trivial hq) (g_iconst mzi_m1 ?_)
      refine g_icne (tg := 120) rfl ms_251_120 hC (fun h5 hC => ?_) (fun h5 hC => ?_)
      · have hp := hp.1 h5
        refine g_iload_n rfl (g_bipush mzb_110 (g_idiv (by decide) (g_bipush mzb_48 (g_imul (g_iload_n rfl ?_)))))
        refine g_s1v (Nat.le_of_ble_eq_true rfl) (fun _ hq => cs_84 (Nat.le_trans (Nat.le_of_ble_eq_true rfl) hd) (hS.le (Nat.le_of_ble_eq_true rfl)) (hR.le (Nat.le_of_ble_eq_true rfl))  (mz_irem s.1 110) trivial hq) (g_iadd (g_istore (Nat.le_of_ble_eq_true rfl) rfl (g_iload_n rfl (g_bipush mzb_110 (g_idiv (by decide) (g_bipush mzb_48 (g_imul ?_)))))))
        refine g_iload_n rfl ?_
        refine g_s1v (Nat.le_of_ble_eq_true rfl) (fun _ hq => cs_85 (Nat.le_trans (Nat.le_of_ble_eq_true rfl) hd) (hS.le (Nat.le_of_ble_eq_true rfl)) (hR.le (Nat.le_of_ble_eq_true rfl))  (mz_irem s.1 110) trivial hq) (g_iadd (g_istore (Nat.le_of_ble_eq_true rfl) rfl (g_aload_n rfl (g_getR (mz_at hS (Nat.le_of_ble_eq_true rfl) mzcS_65) mzcf_3_14 (mz_rb hR (Nat.le_of_ble_eq_true rfl) rfl mzcR_65_14) (g_iload rfl ?_)))))
        obtain ⟨h8, hp⟩ := hp
        refine g_lald (mz_at hS (Nat.le_of_ble_eq_true rfl) mzcS_79) h8 (g_aload_n rfl (g_getR (mz_at hS (Nat.le_of_ble_eq_true rfl) mzcS_65) mzcf_3_14 (mz_rb hR (Nat.le_of_ble_eq_true rfl) rfl mzcR_65_14) (g_iload rfl ?_)))
        obtain ⟨h9, hp⟩ := hp
        refine g_lald (mz_at hS (Nat.le_of_ble_eq_true rfl) mzcS_79) h9 (g_lsub (g_con3 (g_ldiv (by decide) (g_lstore (Nat.le_of_ble_eq_true rfl) rfl rfl (g_aload_n rfl (g_getR (mz_at hS (Nat.le_of_ble_eq_true rfl) mzcS_65) mzcf_3_5 (mz_rb hR (Nat.le_of_ble_eq_true rfl) rfl mzcR_65_5) (g_iload rfl ?_)))))))
        refine g_dup2 rfl rfl ?_
        obtain ⟨h10, hp⟩ := hp
        refine g_lald (mz_at hS (Nat.le_of_ble_eq_true rfl) mzcS_71) h10 (g_lload rfl (g_lsub ?_))
        obtain ⟨h11, hp⟩ := hp
        refine g_last (mz_at hS (Nat.le_of_ble_eq_true rfl) mzcS_71) h11 (g_aload_n rfl (g_getR (mz_at hS (Nat.le_of_ble_eq_true rfl) mzcS_65) mzcf_3_5 (mz_rb hR (Nat.le_of_ble_eq_true rfl) rfl mzcR_65_5) (g_iload rfl (g_dup2 rfl rfl ?_))))
        obtain ⟨h12, hp⟩ := hp
        refine g_lald (mz_at hS (Nat.le_of_ble_eq_true rfl) mzcS_71) h12 (g_lload rfl (g_ladd ?_))
        obtain ⟨h13, hp⟩ := hp
        refine g_last (mz_at hS (Nat.le_of_ble_eq_true rfl) mzcS_71) h13 ?_
        refine g_weak ?_ (g_cl (cg_251_120 hd hS hR s.1 (mz_wL (mz_wL s.2 71 (((s.1 / 110) * 48) + (cf_84_0 (mz_irem s.1 110))) ((mz_gL s.2 71 (((s.1 / 110) * 48) + (cf_84_0 (mz_irem s.1 110)))) - (((mz_gL s.2 79 (((s.1 / 110) * 48) + (cf_84_0 (mz_irem s.1 110)))) - (mz_gL s.2 79 (((s.1 / 110) * 48) + (cf_85_0 (mz_irem s.1 110))))) / 4))) 71 (((s.1 / 110) * 48) + (cf_85_0 (mz_irem s.1 110))) ((mz_gL (mz_wL s.2 71 (((s.1 / 110) * 48) + (cf_84_0 (mz_irem s.1 110))) ((mz_gL s.2 71 (((s.1 / 110) * 48) + (cf_84_0 (mz_irem s.1 110)))) - (((mz_gL s.2 79 (((s.1 / 110) * 48) + (cf_84_0 (mz_irem s.1 110)))) - (mz_gL s.2 79 (((s.1 / 110) * 48) + (cf_85_0 (mz_irem s.1 110))))) / 4))) 71 (((s.1 / 110) * 48) + (cf_85_0 (mz_irem s.1 110)))) + (((mz_gL s.2 79 (((s.1 / 110) * 48) + (cf_84_0 (mz_irem s.1 110)))) - (mz_gL s.2 79 (((s.1 / 110) * 48) + (cf_85_0 (mz_irem s.1 110))))) / 4))) hr hc1 hx1 hp hC))
        exact ⟨rfl, rfl, rfl, trivial⟩
      · have hp := hp.2 h5
        refine g_weak ?_ (g_cl (cg_251_120 hd hS hR s.1 s.2 hr hc1 hx1 hp hC))
        exact ⟨rfl, rfl, rfl, trivial⟩
    · have hp := hp.2 h3
      refine g_weak ?_ (g_cl (cg_251_120 hd hS hR s.1 s.2 hr hc1 hx1 hp hC))
      exact ⟨rfl, rfl, rfl, trivial⟩
  · have hp := hp.2 h1
    exact g_vret rfl (hr _ (hx1 _ hC))
theorem cg_251_18 (hd : 1 ≤ d) (hS : mz_extR S 232) (hR : mz_rok R 232)  (v2 : Int32) (N : mz_N) {C0 : (mz_N) → Prop} (hr : ∀ (N2 : mz_N), C0 N2 → Q (.inl none) (mz_k S R N2 b t)) (hp : cp_251_18 v2 N) (hC : C0 (cf_251_18 v2 N)) : mz_G (d, mz_X0 L xs, none, [], mk_251, 8, Q) 18 mt_251_18 [(0, .ref 65), (1, .ref 2), (2, .int v2)] [] false (mz_k S R N b t) := by
  obtain ⟨n, hn⟩ := hp
  exact g_loop (G := fun s => mz_G (d, mz_X0 L xs, none, [], mk_251, 8, Q) 18 mt_251_18 [(0, .ref 65), (1, .ref 2), (2, .int s.1)] [] false (mz_k S R s.2 b t)) (C := C0) (fun C2 hc hx s hP hC => cb_251_18 hd hS hR  s hr hc hx hP hC) n (v2, N) hn hC
theorem cg_251_0 (hd : 1 ≤ d) (hS : mz_extR S 232) (hR : mz_rok R 232)  (N : mz_N) {C0 : (mz_N) → Prop} (hr : ∀ (N2 : mz_N), C0 N2 → Q (.inl none) (mz_k S R N2 b t)) (hp : cp_251_0 N) (hC : C0 (cf_251_0 N)) : mz_G (d, mz_X0 L xs, none, [], mk_251, 8, Q) 0 mk_251 [(0, .ref 65), (1, .ref 2)] [] true (mz_k S R N b t) := by
  unfold cf_251_0 at hC
  unfold cp_251_0 at hp
  refine g_aload_n rfl (g_getR (mz_at hS (Nat.le_of_ble_eq_true rfl) mzcS_65) mzcf_3_5 (mz_rb hR (Nat.le_of_ble_eq_true rfl) rfl mzcR_65_5) (g_iconst mzi_0 (g_aload_n rfl (g_getR (mz_at hS (Nat.le_of_ble_eq_true rfl) mzcS_65) mzcf_3_14 (mz_rb hR (Nat.le_of_ble_eq_true rfl) rfl mzcR_65_14) (g_iconst mzi_0 (g_sipush mzs_240 (g_cpL (Nat.le_of_ble_eq_true rfl) (mz_at hS (Nat.le_of_ble_eq_true rfl) mzcS_71) (mz_at hS (Nat.le_of_ble_eq_true rfl) mzcS_79) (mz_cpd (by decide)) ?_)))))))
  refine g_iconst mzi_0 (g_istore_n (Nat.le_of_ble_eq_true rfl) rfl ?_)
  refine g_weak ?_ (g_cl (cg_251_18 hd hS hR 0 (mz_yL N 71 0 79 0 240) hr hp hC))
  exact ⟨rfl, rfl, rfl, trivial⟩
theorem cs_251 (hd : 2 ≤ d) (hS : mz_extR S 232) (hR : mz_rok R 232)  (N : mz_N) (hp : cp_251_0 N) (hq : Q (.inl none) (mz_k S R (cf_251_0 N) b t)) : mz_Ed (mz_X0 L xs) d 251 [.ref 65, .ref 2] (mz_k S R N b t) Q :=
  by
  refine g_in mzq_251 (Nat.le_of_ble_eq_true rfl) (Nat.le_of_ble_eq_true rfl) (Nat.le_trans (Nat.le_of_ble_eq_true rfl) hd) ?_
  refine g_weak ?_ (cg_251_0 (d := d - 1) (by omega) hS hR N (C0 := fun z => Q (.inl none) (mz_k S R z b t)) (fun _ h => h) hp hq)
  exact ⟨rfl, rfl, trivial⟩
/-! 252 KeptHouse$Climate.ventSmoke (I)V -/
theorem ms_252_0 : mz_sf mk_252 0 = mk_252 := mz_sf_zero _
theorem ms_252_2 : mz_sf mk_252 2 = mt_252_2 := mz_sf_add ms_252_0 (t := 2) rfl rfl
theorem ms_252_31 : mz_sf mk_252 31 = mt_252_31 := mz_sf_add ms_252_2 (t := 29) rfl rfl
theorem ms_252_37 : mz_sf mk_252 37 = mt_252_37 := mz_sf_add ms_252_31 (t := 6) rfl rfl
set_option maxRecDepth 100000 in
theorem mzq_252 : mz_PG0 252 = some (3, ⟨"KeptHouse$Climate", "ventSmoke", "(I)V"⟩, prog_5_method_26_code, 3, none, [], mk_252, []) := rfl
theorem cg_252_31 (hd : 0 ≤ d) (hS : mz_extR S 232) (hR : mz_rok R 232)  (v1 : Int32) (v2 : Int32) (N : mz_N) {C0 : (mz_N) → Prop} (hr : ∀ (N2 : mz_N), C0 N2 → Q (.inl none) (mz_k S R N2 b t)) {C1 : ((Int32 × mz_N) ⊕ (mz_N)) → Prop} (hc1 : ∀ s2, C1 (.inl s2) → mz_G (d, mz_X0 L xs, none, [], mk_252, 3, Q) 2 mt_252_2 [(0, .ref 65), (1, .int v1), (2, .int s2.1)] [] false (mz_k S R s2.2 b t)) (hx1 : ∀ z, C1 (.inr z) → C0 z) (hp : cp_252_31 v1 v2 N) (hC : C1 (cf_252_31 v1 v2 N)) : mz_G (d, mz_X0 L xs, none, [], mk_252, 3, Q) 31 mt_252_31 [(0, .ref 65), (1, .int v1), (2, .int v2)] [] false (mz_k S R N b t) := by
  unfold cf_252_31 at hC
  unfold cp_252_31 at hp
  refine g_iinc rfl mzi_1 (Nat.le_of_ble_eq_true rfl) rfl (g_goto (tg := 2) rfl ms_252_2 ?_)
  refine g_weak ?_ (g_cl (hc1 ((v2 + 1), N) hC))
  exact ⟨rfl, rfl, rfl, trivial⟩
theorem cb_252_2 (hd : 0 ≤ d) (hS : mz_extR S 232) (hR : mz_rok R 232)  (v1 : Int32) (s : Int32 × mz_N) {C0 : (mz_N) → Prop} (hr : ∀ (N2 : mz_N), C0 N2 → Q (.inl none) (mz_k S R N2 b t)) {C1 : ((Int32 × mz_N) ⊕ (mz_N)) → Prop} (hc1 : ∀ s2, C1 (.inl s2) → mz_G (d, mz_X0 L xs, none, [], mk_252, 3, Q) 2 mt_252_2 [(0, .ref 65), (1, .int v1), (2, .int s2.1)] [] false (mz_k S R s2.2 b t)) (hx1 : ∀ z, C1 (.inr z) → C0 z) (hp : cd_252_2 v1 s) (hC : C1 (cq_252_2 v1 s)) : mz_G (d, mz_X0 L xs, none, [], mk_252, 3, Q) 2 mt_252_2 [(0, .ref 65), (1, .int v1), (2, .int s.1)] [] false (mz_k S R s.2 b t) := by
  unfold cq_252_2 at hC
  unfold cd_252_2 at hp
  refine g_iload_n rfl (g_sipush mzs_240 ?_)
  refine g_icge (tg := 37) rfl ms_252_37 hC (fun h1 hC => ?_) (fun h1 hC => ?_)
  · have hp := hp.1 h1
    refine g_aload_n rfl (g_getR (mz_at hS (Nat.le_of_ble_eq_true rfl) mzcS_65) mzcf_3_5 (mz_rb hR (Nat.le_of_ble_eq_true rfl) rfl mzcR_65_5) (g_iload_n rfl (g_dup2 rfl rfl ?_)))
    obtain ⟨h2, hp⟩ := hp
    refine g_lald (mz_at hS (Nat.le_of_ble_eq_true rfl) mzcS_71) h2 (g_aload_n rfl (g_getR (mz_at hS (Nat.le_of_ble_eq_true rfl) mzcS_65) mzcf_3_5 (mz_rb hR (Nat.le_of_ble_eq_true rfl) rfl mzcR_65_5) (g_iload_n rfl ?_)))
    obtain ⟨h3, hp⟩ := hp
    refine g_lald (mz_at hS (Nat.le_of_ble_eq_true rfl) mzcS_71) h3 (g_iload_n rfl (g_i2l (g_lmul (g_con3 (g_ldiv (by decide) (g_lsub ?_))))))
    obtain ⟨h4, hp⟩ := hp
    refine g_last (mz_at hS (Nat.le_of_ble_eq_true rfl) mzcS_71) h4 ?_
    refine g_weak ?_ (g_cl (cg_252_31 hd hS hR v1 s.1 (mz_wL s.2 71 s.1 ((mz_gL s.2 71 s.1) - (((mz_gL s.2 71 s.1) * v1.toInt64) / 50))) hr hc1 hx1 hp hC))
    exact ⟨rfl, rfl, rfl, trivial⟩
  · have hp := hp.2 h1
    exact g_vret rfl (hr _ (hx1 _ hC))
theorem cg_252_2 (hd : 0 ≤ d) (hS : mz_extR S 232) (hR : mz_rok R 232)  (v1 : Int32) (v2 : Int32) (N : mz_N) {C0 : (mz_N) → Prop} (hr : ∀ (N2 : mz_N), C0 N2 → Q (.inl none) (mz_k S R N2 b t)) (hp : cp_252_2 v1 v2 N) (hC : C0 (cf_252_2 v1 v2 N)) : mz_G (d, mz_X0 L xs, none, [], mk_252, 3, Q) 2 mt_252_2 [(0, .ref 65), (1, .int v1), (2, .int v2)] [] false (mz_k S R N b t) := by
  obtain ⟨n, hn⟩ := hp
  exact g_loop (G := fun s => mz_G (d, mz_X0 L xs, none, [], mk_252, 3, Q) 2 mt_252_2 [(0, .ref 65), (1, .int v1), (2, .int s.1)] [] false (mz_k S R s.2 b t)) (C := C0) (fun C2 hc hx s hP hC => cb_252_2 hd hS hR v1 s hr hc hx hP hC) n (v2, N) hn hC
theorem cg_252_0 (hd : 0 ≤ d) (hS : mz_extR S 232) (hR : mz_rok R 232)  (v1 : Int32) (N : mz_N) {C0 : (mz_N) → Prop} (hr : ∀ (N2 : mz_N), C0 N2 → Q (.inl none) (mz_k S R N2 b t)) (hp : cp_252_0 v1 N) (hC : C0 (cf_252_0 v1 N)) : mz_G (d, mz_X0 L xs, none, [], mk_252, 3, Q) 0 mk_252 [(0, .ref 65), (1, .int v1)] [] true (mz_k S R N b t) := by
  unfold cf_252_0 at hC
  unfold cp_252_0 at hp
  refine g_iconst mzi_0 (g_istore_n (Nat.le_of_ble_eq_true rfl) rfl ?_)
  refine g_weak ?_ (g_cl (cg_252_2 hd hS hR v1 0 N hr hp hC))
  exact ⟨rfl, rfl, rfl, trivial⟩
theorem cs_252 (hd : 1 ≤ d) (hS : mz_extR S 232) (hR : mz_rok R 232)  (v1 : Int32) (N : mz_N) (hp : cp_252_0 v1 N) (hq : Q (.inl none) (mz_k S R (cf_252_0 v1 N) b t)) : mz_Ed (mz_X0 L xs) d 252 [.ref 65, .int v1] (mz_k S R N b t) Q :=
  by
  refine g_in mzq_252 (Nat.le_of_ble_eq_true rfl) (Nat.le_of_ble_eq_true rfl) (Nat.le_trans (Nat.le_of_ble_eq_true rfl) hd) ?_
  refine g_weak ?_ (cg_252_0 (d := d - 1) (by omega) hS hR v1 N (C0 := fun z => Q (.inl none) (mz_k S R z b t)) (fun _ h => h) hp hq)
  exact ⟨rfl, rfl, trivial⟩
/-! 253 KeptHouse$Climate.sprinkle (LKeptHouse$Plan;LKeptHouse$Supply;)V -/
theorem ms_253_0 : mz_sf mk_253 0 = mk_253 := mz_sf_zero _
theorem ms_253_2 : mz_sf mk_253 2 = mt_253_2 := mz_sf_add ms_253_0 (t := 2) rfl rfl
theorem ms_253_30 : mz_sf mk_253 30 = mt_253_30 := mz_sf_add ms_253_2 (t := 28) rfl rfl
theorem ms_253_33 : mz_sf mk_253 33 = mt_253_33 := mz_sf_add ms_253_30 (t := 3) rfl rfl
theorem ms_253_58 : mz_sf mk_253 58 = mt_253_58 := mz_sf_add ms_253_33 (t := 25) rfl rfl
theorem ms_253_88 : mz_sf mk_253 88 = mt_253_88 := mz_sf_add ms_253_58 (t := 30) rfl rfl
theorem ms_253_109 : mz_sf mk_253 109 = mt_253_109 := mz_sf_add ms_253_88 (t := 21) rfl rfl
theorem ms_253_115 : mz_sf mk_253 115 = mt_253_115 := mz_sf_add ms_253_109 (t := 6) rfl rfl
theorem ms_253_121 : mz_sf mk_253 121 = mt_253_121 := mz_sf_add ms_253_115 (t := 6) rfl rfl
set_option maxRecDepth 100000 in
theorem mzq_253 : mz_PG0 253 = some (3, ⟨"KeptHouse$Climate", "sprinkle", "(LKeptHouse$Plan;LKeptHouse$Supply;)V"⟩, prog_5_method_27_code, 7, none, [], mk_253, []) := rfl
theorem cg_253_115 (hd : 2 ≤ d) (hS : mz_extR S 232) (hR : mz_rok R 232)  (v3 : Int32) (N : mz_N) {C0 : (mz_N) → Prop} (hr : ∀ (N2 : mz_N), C0 N2 → Q (.inl none) (mz_k S R N2 b t)) {C1 : ((Int32 × mz_N) ⊕ (mz_N)) → Prop} (hc1 : ∀ s2, C1 (.inl s2) → mz_G (d, mz_X0 L xs, none, [], mk_253, 7, Q) 2 mt_253_2 [(0, .ref 65), (1, .ref 2), (2, .ref 56), (3, .int s2.1)] [] false (mz_k S R s2.2 b t)) (hx1 : ∀ z, C1 (.inr z) → C0 z) (hp : cp_253_115 v3 N) (hC : C1 (cf_253_115 v3 N)) : mz_G (d, mz_X0 L xs, none, [], mk_253, 7, Q) 115 mt_253_115 [(0, .ref 65), (1, .ref 2), (2, .ref 56), (3, .int v3)] [] false (mz_k S R N b t) := by
  unfold cf_253_115 at hC
  unfold cp_253_115 at hp
  refine g_iinc rfl mzi_1 (Nat.le_of_ble_eq_true rfl) rfl (g_goto (tg := 2) rfl ms_253_2 ?_)
  refine g_weak ?_ (g_cl (hc1 ((v3 + 1), N) hC))
  exact ⟨rfl, rfl, rfl, rfl, trivial⟩
theorem cg_253_109 (hd : 2 ≤ d) (hS : mz_extR S 232) (hR : mz_rok R 232)  (v3 : Int32) (v4 : Int32) (v5 : Int32) (N : mz_N) {C0 : (mz_N) → Prop} (hr : ∀ (N2 : mz_N), C0 N2 → Q (.inl none) (mz_k S R N2 b t)) {C1 : ((Int32 × mz_N) ⊕ (mz_N)) → Prop} (hc1 : ∀ s2, C1 (.inl s2) → mz_G (d, mz_X0 L xs, none, [], mk_253, 7, Q) 2 mt_253_2 [(0, .ref 65), (1, .ref 2), (2, .ref 56), (3, .int s2.1)] [] false (mz_k S R s2.2 b t)) (hx1 : ∀ z, C1 (.inr z) → C0 z) {C2 : ((Int32 × mz_N) ⊕ ((Int32 × mz_N) ⊕ (mz_N))) → Prop} (hc2 : ∀ s2, C2 (.inl s2) → mz_G (d, mz_X0 L xs, none, [], mk_253, 7, Q) 33 mt_253_33 [(0, .ref 65), (1, .ref 2), (2, .ref 56), (3, .int v3), (4, .int v4), (5, .int s2.1)] [] false (mz_k S R s2.2 b t)) (hx2 : ∀ z, C2 (.inr z) → C1 z) (hp : cp_253_109 v3 v4 v5 N) (hC : C2 (cf_253_109 v3 v4 v5 N)) : mz_G (d, mz_X0 L xs, none, [], mk_253, 7, Q) 109 mt_253_109 [(0, .ref 65), (1, .ref 2), (2, .ref 56), (3, .int v3), (4, .int v4), (5, .int v5)] [] false (mz_k S R N b t) := by
  unfold cf_253_109 at hC
  unfold cp_253_109 at hp
  refine g_iinc rfl mzi_1 (Nat.le_of_ble_eq_true rfl) rfl (g_goto (tg := 33) rfl ms_253_33 ?_)
  refine g_weak ?_ (g_cl (hc2 ((v5 + 1), N) hC))
  exact ⟨rfl, rfl, rfl, rfl, rfl, rfl, trivial⟩
theorem cb_253_33 (hd : 2 ≤ d) (hS : mz_extR S 232) (hR : mz_rok R 232)  (v3 : Int32) (v4 : Int32) (s : Int32 × mz_N) {C0 : (mz_N) → Prop} (hr : ∀ (N2 : mz_N), C0 N2 → Q (.inl none) (mz_k S R N2 b t)) {C1 : ((Int32 × mz_N) ⊕ (mz_N)) → Prop} (hc1 : ∀ s2, C1 (.inl s2) → mz_G (d, mz_X0 L xs, none, [], mk_253, 7, Q) 2 mt_253_2 [(0, .ref 65), (1, .ref 2), (2, .ref 56), (3, .int s2.1)] [] false (mz_k S R s2.2 b t)) (hx1 : ∀ z, C1 (.inr z) → C0 z) {C2 : ((Int32 × mz_N) ⊕ ((Int32 × mz_N) ⊕ (mz_N))) → Prop} (hc2 : ∀ s2, C2 (.inl s2) → mz_G (d, mz_X0 L xs, none, [], mk_253, 7, Q) 33 mt_253_33 [(0, .ref 65), (1, .ref 2), (2, .ref 56), (3, .int v3), (4, .int v4), (5, .int s2.1)] [] false (mz_k S R s2.2 b t)) (hx2 : ∀ z, C2 (.inr z) → C1 z) (hp : cd_253_33 v3 v4 s) (hC : C2 (cq_253_33 v3 v4 s)) : mz_G (d, mz_X0 L xs, none, [], mk_253, 7, Q) 33 mt_253_33 [(0, .ref 65), (1, .ref 2), (2, .ref 56), (3, .int v3), (4, .int v4), (5, .int s.1)] [] false (mz_k S R s.2 b t) := by
  unfold cq_253_33 at hC
  unfold cd_253_33 at hp
  refine g_iload rfl (g_aload_n rfl (g_getR (mz_at hS (Nat.le_of_ble_eq_true rfl) mzcS_2) mzcf_5_9 (mz_rb hR (Nat.le_of_ble_eq_true rfl) rfl mzcR_2_9) (g_iconst mzi_2 (g_aald4 (m := 19) (mz_at hS (Nat.le_of_ble_eq_true rfl) mzcS_16) (mz_ibd (by decide)) (mz_rb hR (Nat.le_of_ble_eq_true rfl) rfl mzcRr_16_2) (g_iload_n rfl ?_)))))
  obtain ⟨h1, hp⟩ := hp
  refine g_iald hS.1 (mz_at hS (Nat.le_of_ble_eq_true rfl) mzcS_19) h1 ?_
  refine g_icge (tg := 115) rfl ms_253_115 hC (fun h2 hC => ?_) (fun h2 hC => ?_)
  · have hp := hp.1 h2
    refine g_aload_n rfl (g_getR (mz_at hS (Nat.le_of_ble_eq_true rfl) mzcS_2) mzcf_5_10 (mz_rb hR (Nat.le_of_ble_eq_true rfl) rfl mzcR_2_10) (g_iload rfl (g_iload rfl (g_iadd ?_))))
    obtain ⟨h3, hp⟩ := hp
    refine g_iald hS.1 (mz_at hS (Nat.le_of_ble_eq_true rfl) mzcS_30) h3 (g_istore (Nat.le_of_ble_eq_true rfl) rfl (g_aload_n rfl (g_getR (mz_at hS (Nat.le_of_ble_eq_true rfl) mzcS_65) mzcf_3_7 (mz_rb hR (Nat.le_of_ble_eq_true rfl) rfl mzcR_65_7) (g_iload rfl ?_))))
    obtain ⟨h4, hp⟩ := hp
    refine g_iald hS.1 (mz_at hS (Nat.le_of_ble_eq_true rfl) mzcS_73) h4 ?_
    refine g_ifle (tg := 109) rfl ms_253_109 hC (fun h5 hC => ?_) (fun h5 hC => ?_)
    · have hp := hp.1 h5
      refine g_aload_n rfl (g_getI (mz_at hS (Nat.le_of_ble_eq_true rfl) mzcS_56) mzcf_9_7 (g_bipush mzb_10 ?_))
      refine g_iclt (tg := 109) rfl ms_253_109 hC (fun h6 hC => ?_) (fun h6 hC => ?_)
      · have hp := hp.1 h6
        refine g_weak ?_ (g_cl (cg_253_109 hd hS hR v3 v4 s.1 s.2 hr hc1 hx1 hc2 hx2 hp hC))
        exact ⟨rfl, rfl, rfl, rfl, rfl, rfl, trivial⟩
      · have hp := hp.2 h6
        refine g_aload_n rfl (g_dup rfl (g_getI (mz_at hS (Nat.le_of_ble_eq_true rfl) mzcS_56) mzcf_9_7 (g_bipush mzb_10 (g_isub (g_putI (mz_at hS (Nat.le_of_ble_eq_true rfl) mzcS_56) mzcf_9_7 (g_aload_n rfl (g_getR (mz_at hS (Nat.le_of_ble_eq_true rfl) mzcS_65) mzcf_3_7 (mz_rb hR (Nat.le_of_ble_eq_true rfl) rfl mzcR_65_7) ?_)))))))
        refine g_iload rfl (g_iconst mzi_0 (g_aload_n rfl (g_getR (mz_at hS (Nat.le_of_ble_eq_true rfl) mzcS_65) mzcf_3_7 (mz_rb hR (Nat.le_of_ble_eq_true rfl) rfl mzcR_65_7) (g_iload rfl ?_))))
        obtain ⟨h7, hp⟩ := hp
        refine g_iald hS.1 (mz_at hS (Nat.le_of_ble_eq_true rfl) mzcS_73) h7 (g_bipush mzb_30 (g_isub (g_imax (Nat.le_of_ble_eq_true rfl) ?_)))
        obtain ⟨h8, hp⟩ := hp
        refine g_iast (mz_at hS (Nat.le_of_ble_eq_true rfl) mzcS_73) h8 ?_
        refine g_weak ?_ (g_cl (cg_253_109 hd hS hR v3 v4 s.1 (mz_wI (mz_pI s.2 56 7 ((s.2.1 56 7) - 10)) 73 (mz_gI s.2 30 (v4 + s.1)) (mz_imax 0 ((mz_gI (mz_pI s.2 56 7 ((s.2.1 56 7) - 10)) 73 (mz_gI s.2 30 (v4 + s.1))) - 30))) hr hc1 hx1 hc2 hx2 hp hC))
        exact ⟨rfl, rfl, rfl, rfl, rfl, rfl, trivial⟩
    · have hp := hp.2 h5
      refine g_weak ?_ (g_cl (cg_253_109 hd hS hR v3 v4 s.1 s.2 hr hc1 hx1 hc2 hx2 hp hC))
      exact ⟨rfl, rfl, rfl, rfl, rfl, rfl, trivial⟩
  · have hp := hp.2 h2
    refine g_weak ?_ (g_cl (cg_253_115 hd hS hR v3 s.2 hr hc1 hx1 hp (hx2 _ hC)))
    exact ⟨rfl, rfl, rfl, rfl, trivial⟩
theorem cg_253_33 (hd : 2 ≤ d) (hS : mz_extR S 232) (hR : mz_rok R 232)  (v3 : Int32) (v4 : Int32) (v5 : Int32) (N : mz_N) {C0 : (mz_N) → Prop} (hr : ∀ (N2 : mz_N), C0 N2 → Q (.inl none) (mz_k S R N2 b t)) {C1 : ((Int32 × mz_N) ⊕ (mz_N)) → Prop} (hc1 : ∀ s2, C1 (.inl s2) → mz_G (d, mz_X0 L xs, none, [], mk_253, 7, Q) 2 mt_253_2 [(0, .ref 65), (1, .ref 2), (2, .ref 56), (3, .int s2.1)] [] false (mz_k S R s2.2 b t)) (hx1 : ∀ z, C1 (.inr z) → C0 z) (hp : cp_253_33 v3 v4 v5 N) (hC : C1 (cf_253_33 v3 v4 v5 N)) : mz_G (d, mz_X0 L xs, none, [], mk_253, 7, Q) 33 mt_253_33 [(0, .ref 65), (1, .ref 2), (2, .ref 56), (3, .int v3), (4, .int v4), (5, .int v5)] [] false (mz_k S R N b t) := by
  obtain ⟨n, hn⟩ := hp
  exact g_loop (G := fun s => mz_G (d, mz_X0 L xs, none, [], mk_253, 7, Q) 33 mt_253_33 [(0, .ref 65), (1, .ref 2), (2, .ref 56), (3, .int v3), (4, .int v4), (5, .int s.1)] [] false (mz_k S R s.2 b t)) (C := C1) (fun C2 hc hx s hP hC => cb_253_33 hd hS hR v3 v4 s hr hc1 hx1 hc hx hP hC) n (v5, N) hn hC
theorem cb_253_2 (hd : 2 ≤ d) (hS : mz_extR S 232) (hR : mz_rok R 232)   (s : Int32 × mz_N) {C0 : (mz_N) → Prop} (hr : ∀ (N2 : mz_N), C0 N2 → Q (.inl none) (mz_k S R N2 b t)) {C1 : ((Int32 × mz_N) ⊕ (mz_N)) → Prop} (hc1 : ∀ s2, C1 (.inl s2) → mz_G (d, mz_X0 L xs, none, [], mk_253, 7, Q) 2 mt_253_2 [(0, .ref 65), (1, .ref 2), (2, .ref 56), (3, .int s2.1)] [] false (mz_k S R s2.2 b t)) (hx1 : ∀ z, C1 (.inr z) → C0 z) (hp : cd_253_2  s) (hC : C1 (cq_253_2  s)) : mz_G (d, mz_X0 L xs, none, [], mk_253, 7, Q) 2 mt_253_2 [(0, .ref 65), (1, .ref 2), (2, .ref 56), (3, .int s.1)] [] false (mz_k S R s.2 b t) := by
  unfold cq_253_2 at hC
  unfold cd_253_2 at hp
  refine g_iload_n rfl (g_aload_n rfl (g_getI (mz_at hS (Nat.le_of_ble_eq_true rfl) mzcS_2) mzcf_5_7 ?_))
  refine g_icge (tg := 121) rfl ms_253_121 hC (fun h1 hC => ?_) (fun h1 hC => ?_)
  · have hp := hp.1 h1
    refine g_aload_n rfl (g_aload_n rfl (g_iload_n rfl ?_))
    obtain ⟨h2, hp⟩ := hp
    refine g_v3v (Nat.le_of_ble_eq_true rfl) (mz_at hS (Nat.le_of_ble_eq_true rfl) mzcS_65) (fun _ hq => cs_210 (Nat.le_trans (Nat.le_of_ble_eq_true rfl) hd) (hS.le (Nat.le_of_ble_eq_true rfl)) (hR.le (Nat.le_of_ble_eq_true rfl))  s.1 s.2 h2 hq) ?_
    refine g_zeq (tg := 115) rfl ms_253_115 hC (fun h3 hC => ?_) (fun h3 hC => ?_)
    · have hp := hp.1 h3
      refine g_aload_n rfl (g_getR (mz_at hS (Nat.le_of_ble_eq_true rfl) mzcS_2) mzcf_5_9 (mz_rb hR (Nat.le_of_ble_eq_true rfl) rfl mzcR_2_9) (g_bipush mzb_11 (g_aald4 (m := 28) (mz_at hS (Nat.le_of_ble_eq_true rfl) mzcS_16) (mz_ibd (by decide)) (mz_rb hR (Nat.le_of_ble_eq_true rfl) rfl mzcRr_16_11) (g_iload_n rfl ?_))))
      obtain ⟨h4, hp⟩ := hp
      refine g_iald hS.1 (mz_at hS (Nat.le_of_ble_eq_true rfl) mzcS_28) h4 (g_istore (Nat.le_of_ble_eq_true rfl) rfl (g_iconst mzi_0 (g_istore (Nat.le_of_ble_eq_true rfl) rfl ?_)))
      refine g_weak ?_ (g_cl (cg_253_33 hd hS hR s.1 (mz_gI s.2 28 s.1) 0 s.2 hr hc1 hx1 hp hC))
      exact ⟨rfl, rfl, rfl, rfl, rfl, rfl, trivial⟩
    · have hp := hp.2 h3
      refine g_weak ?_ (g_cl (cg_253_115 hd hS hR s.1 s.2 hr hc1 hx1 hp hC))
      exact ⟨rfl, rfl, rfl, rfl, trivial⟩
  · have hp := hp.2 h1
    exact g_vret rfl (hr _ (hx1 _ hC))
theorem cg_253_2 (hd : 2 ≤ d) (hS : mz_extR S 232) (hR : mz_rok R 232)  (v3 : Int32) (N : mz_N) {C0 : (mz_N) → Prop} (hr : ∀ (N2 : mz_N), C0 N2 → Q (.inl none) (mz_k S R N2 b t)) (hp : cp_253_2 v3 N) (hC : C0 (cf_253_2 v3 N)) : mz_G (d, mz_X0 L xs, none, [], mk_253, 7, Q) 2 mt_253_2 [(0, .ref 65), (1, .ref 2), (2, .ref 56), (3, .int v3)] [] false (mz_k S R N b t) := by
  obtain ⟨n, hn⟩ := hp
  exact g_loop (G := fun s => mz_G (d, mz_X0 L xs, none, [], mk_253, 7, Q) 2 mt_253_2 [(0, .ref 65), (1, .ref 2), (2, .ref 56), (3, .int s.1)] [] false (mz_k S R s.2 b t)) (C := C0) (fun C2 hc hx s hP hC => cb_253_2 hd hS hR  s hr hc hx hP hC) n (v3, N) hn hC
theorem cg_253_0 (hd : 2 ≤ d) (hS : mz_extR S 232) (hR : mz_rok R 232)  (N : mz_N) {C0 : (mz_N) → Prop} (hr : ∀ (N2 : mz_N), C0 N2 → Q (.inl none) (mz_k S R N2 b t)) (hp : cp_253_0 N) (hC : C0 (cf_253_0 N)) : mz_G (d, mz_X0 L xs, none, [], mk_253, 7, Q) 0 mk_253 [(0, .ref 65), (1, .ref 2), (2, .ref 56)] [] true (mz_k S R N b t) := by
  unfold cf_253_0 at hC
  unfold cp_253_0 at hp
  refine g_iconst mzi_0 (g_istore_n (Nat.le_of_ble_eq_true rfl) rfl ?_)
  refine g_weak ?_ (g_cl (cg_253_2 hd hS hR 0 N hr hp hC))
  exact ⟨rfl, rfl, rfl, rfl, trivial⟩
theorem cs_253 (hd : 3 ≤ d) (hS : mz_extR S 232) (hR : mz_rok R 232)  (N : mz_N) (hp : cp_253_0 N) (hq : Q (.inl none) (mz_k S R (cf_253_0 N) b t)) : mz_Ed (mz_X0 L xs) d 253 [.ref 65, .ref 2, .ref 56] (mz_k S R N b t) Q :=
  by
  refine g_in mzq_253 (Nat.le_of_ble_eq_true rfl) (Nat.le_of_ble_eq_true rfl) (Nat.le_trans (Nat.le_of_ble_eq_true rfl) hd) ?_
  refine g_weak ?_ (cg_253_0 (d := d - 1) (by omega) hS hR N (C0 := fun z => Q (.inl none) (mz_k S R z b t)) (fun _ h => h) hp hq)
  exact ⟨rfl, rfl, rfl, trivial⟩
/-! 254 KeptHouse$Climate.isAnyLeft ()Z -/
theorem ms_254_0 : mz_sf mk_254 0 = mk_254 := mz_sf_zero _
theorem ms_254_2 : mz_sf mk_254 2 = mt_254_2 := mz_sf_add ms_254_0 (t := 2) rfl rfl
theorem ms_254_29 : mz_sf mk_254 29 = mt_254_29 := mz_sf_add ms_254_2 (t := 27) rfl rfl
theorem ms_254_31 : mz_sf mk_254 31 = mt_254_31 := mz_sf_add ms_254_29 (t := 2) rfl rfl
theorem ms_254_37 : mz_sf mk_254 37 = mt_254_37 := mz_sf_add ms_254_31 (t := 6) rfl rfl
set_option maxRecDepth 100000 in
theorem mzq_254 : mz_PG0 254 = some (3, ⟨"KeptHouse$Climate", "isAnyLeft", "()Z"⟩, prog_5_method_28_code, 2, some .boolean, [], mk_254, []) := rfl
theorem cb_254_2 (hd : 0 ≤ d) (hS : mz_extR S 232) (hR : mz_rok R 232)  (N : mz_N) (s : Int32) {C0 : (Bool) → Prop} (hr : ∀ (w : Bool), C0 w → Q (.inl (some (.int (mz_b01 w)))) (mz_k S R N b t)) {C1 : ((Int32) ⊕ (Bool)) → Prop} (hc1 : ∀ s2, C1 (.inl s2) → mz_G (d, mz_X0 L xs, some .boolean, [], mk_254, 2, Q) 2 mt_254_2 [(0, .ref 65), (1, .int s2)] [] false (mz_k S R N b t)) (hx1 : ∀ z, C1 (.inr z) → C0 z) (hp : cd_254_2 N s) (hC : C1 (cq_254_2 N s)) : mz_G (d, mz_X0 L xs, some .boolean, [], mk_254, 2, Q) 2 mt_254_2 [(0, .ref 65), (1, .int s)] [] false (mz_k S R N b t) := by
  unfold cq_254_2 at hC
  unfold cd_254_2 at hp
  refine g_iload_n rfl (g_sipush mzs_240 ?_)
  refine g_icge (tg := 37) rfl ms_254_37 hC (fun h1 hC => ?_) (fun h1 hC => ?_)
  · have hp := hp.1 h1
    refine g_aload_n rfl (g_getR (mz_at hS (Nat.le_of_ble_eq_true rfl) mzcS_65) mzcf_3_7 (mz_rb hR (Nat.le_of_ble_eq_true rfl) rfl mzcR_65_7) (g_iload_n rfl ?_))
    obtain ⟨h2, hp⟩ := hp
    refine g_iald hS.1 (mz_at hS (Nat.le_of_ble_eq_true rfl) mzcS_73) h2 ?_
    refine g_ifgt (tg := 29) rfl ms_254_29 hC (fun h3 hC => ?_) (fun h3 hC => ?_)
    · have hp := hp.1 h3
      refine g_iconst mzi_1 ?_
      exact g_zret (z := true) rfl (hr _ (hx1 _ hC))
    · have hp := hp.2 h3
      refine g_aload_n rfl (g_getR (mz_at hS (Nat.le_of_ble_eq_true rfl) mzcS_65) mzcf_3_5 (mz_rb hR (Nat.le_of_ble_eq_true rfl) rfl mzcR_65_5) (g_iload_n rfl ?_))
      have h4 := hp
      refine g_lald (mz_at hS (Nat.le_of_ble_eq_true rfl) mzcS_71) h4 (g_lconst mzl_0 (g_lcmp ?_))
      refine g_lle (tg := 31) rfl ms_254_31 hC (fun h5 hC => ?_) (fun h5 hC => ?_)
      · refine g_iconst mzi_1 ?_
        exact g_zret (z := true) rfl (hr _ (hx1 _ hC))
      · refine g_iinc rfl mzi_1 (Nat.le_of_ble_eq_true rfl) rfl (g_goto (tg := 2) rfl ms_254_2 ?_)
        refine g_weak ?_ (g_cl (hc1 ((s + 1)) hC))
        exact ⟨rfl, rfl, trivial⟩
  · have hp := hp.2 h1
    refine g_iconst mzi_0 ?_
    exact g_zret (z := false) rfl (hr _ (hx1 _ hC))
theorem cg_254_2 (hd : 0 ≤ d) (hS : mz_extR S 232) (hR : mz_rok R 232)  (v1 : Int32) (N : mz_N) {C0 : (Bool) → Prop} (hr : ∀ (w : Bool), C0 w → Q (.inl (some (.int (mz_b01 w)))) (mz_k S R N b t)) (hp : cp_254_2 v1 N) (hC : C0 (cf_254_2 v1 N)) : mz_G (d, mz_X0 L xs, some .boolean, [], mk_254, 2, Q) 2 mt_254_2 [(0, .ref 65), (1, .int v1)] [] false (mz_k S R N b t) := by
  obtain ⟨n, hn⟩ := hp
  exact g_loop (G := fun s => mz_G (d, mz_X0 L xs, some .boolean, [], mk_254, 2, Q) 2 mt_254_2 [(0, .ref 65), (1, .int s)] [] false (mz_k S R N b t)) (C := C0) (fun C2 hc hx s hP hC => cb_254_2 hd hS hR N s hr hc hx hP hC) n (v1) hn hC
theorem cg_254_0 (hd : 0 ≤ d) (hS : mz_extR S 232) (hR : mz_rok R 232)  (N : mz_N) {C0 : (Bool) → Prop} (hr : ∀ (w : Bool), C0 w → Q (.inl (some (.int (mz_b01 w)))) (mz_k S R N b t)) (hp : cp_254_0 N) (hC : C0 (cf_254_0 N)) : mz_G (d, mz_X0 L xs, some .boolean, [], mk_254, 2, Q) 0 mk_254 [(0, .ref 65)] [] true (mz_k S R N b t) := by
  unfold cf_254_0 at hC
  unfold cp_254_0 at hp
  refine g_iconst mzi_0 (g_istore_n (Nat.le_of_ble_eq_true rfl) rfl ?_)
  refine g_weak ?_ (g_cl (cg_254_2 hd hS hR 0 N hr hp hC))
  exact ⟨rfl, rfl, trivial⟩
theorem cs_254 (hd : 1 ≤ d) (hS : mz_extR S 232) (hR : mz_rok R 232)  (N : mz_N) (hp : cp_254_0 N) (hq : Q (.inl (some (.int (mz_b01 (cf_254_0 N))))) (mz_k S R N b t)) : mz_Ed (mz_X0 L xs) d 254 [.ref 65] (mz_k S R N b t) Q :=
  by
  refine g_in mzq_254 (Nat.le_of_ble_eq_true rfl) (Nat.le_of_ble_eq_true rfl) (Nat.le_trans (Nat.le_of_ble_eq_true rfl) hd) ?_
  refine g_weak ?_ (cg_254_0 (d := d - 1) (by omega) hS hR N (C0 := fun z => Q (.inl (some (.int (mz_b01 z)))) (mz_k S R N b t)) (fun _ h => h) hp hq)
  exact ⟨rfl, trivial⟩
/-! 247 KeptHouse$Climate.burn (LKeptHouse$Plan;LKeptHouse$Supply;[I)V -/
theorem ms_247_0 : mz_sf mk_247 0 = mk_247 := mz_sf_zero _
theorem ms_247_29 : mz_sf mk_247 29 = mt_247_29 := mz_sf_add ms_247_0 (t := 29) rfl rfl
theorem ms_247_43 : mz_sf mk_247 43 = mt_247_43 := mz_sf_add ms_247_29 (t := 14) rfl rfl
set_option maxRecDepth 100000 in
theorem mzq_247 : mz_PG0 247 = some (3, ⟨"KeptHouse$Climate", "burn", "(LKeptHouse$Plan;LKeptHouse$Supply;[I)V"⟩, prog_5_method_22_code, 4, none, [], mk_247, []) := rfl
theorem cg_247_43 (hd : 3 ≤ d) (hS : mz_extR S 232) (hR : mz_rok R 232)  (N : mz_N) {C0 : (mz_N) → Prop} (hr : ∀ (N2 : mz_N), C0 N2 → Q (.inl none) (mz_k S R N2 b t)) (hp : cp_247_43 N) (hC : C0 (cf_247_43 N)) : mz_G (d, mz_X0 L xs, none, [], mk_247, 4, Q) 43 mt_247_43 [(0, .ref 65)] [] false (mz_k S R N b t) := by
  unfold cf_247_43 at hC
  unfold cp_247_43 at hp
  refine g_aload_n rfl (g_aload_n rfl ?_)
  have h1 := hp
  refine g_v1v (Nat.le_of_ble_eq_true rfl) (mz_at hS (Nat.le_of_ble_eq_true rfl) mzcS_65) (fun _ hq => cs_254 (Nat.le_trans (Nat.le_of_ble_eq_true rfl) hd) (hS.le (Nat.le_of_ble_eq_true rfl)) (hR.le (Nat.le_of_ble_eq_true rfl))  N h1 hq) (g_putZ (z := (cf_254_0 N)) (mz_at hS (Nat.le_of_ble_eq_true rfl) mzcS_65) mzcf_3_8 ?_)
  exact g_vret rfl (hr _ hC)
theorem cg_247_29 (hd : 3 ≤ d) (hS : mz_extR S 232) (hR : mz_rok R 232)  (N : mz_N) {C0 : (mz_N) → Prop} (hr : ∀ (N2 : mz_N), C0 N2 → Q (.inl none) (mz_k S R N2 b t)) (hp : cp_247_29 N) (hC : C0 (cf_247_29 N)) : mz_G (d, mz_X0 L xs, none, [], mk_247, 4, Q) 29 mt_247_29 [(0, .ref 65), (1, .ref 2), (2, .ref 56), (3, .ref 53)] [] false (mz_k S R N b t) := by
  unfold cf_247_29 at hC
  unfold cp_247_29 at hp
  refine g_aload_n rfl (g_bipush mzb_15 (g_iald hS.1 (mz_at hS (Nat.le_of_ble_eq_true rfl) mzcS_53) (mz_ibd (by decide)) (g_iconst mzi_1 ?_)))
  refine g_icne (tg := 43) rfl ms_247_43 hC (fun h1 hC => ?_) (fun h1 hC => ?_)
  · have hp := hp.1 h1
    refine g_aload_n rfl (g_aload_n rfl (g_aload_n rfl ?_))
    obtain ⟨h2, hp⟩ := hp
    refine g_v3n (Nat.le_of_ble_eq_true rfl) (mz_at hS (Nat.le_of_ble_eq_true rfl) mzcS_65) (fun _ hq => cs_253 (Nat.le_trans (Nat.le_of_ble_eq_true rfl) hd) (hS.le (Nat.le_of_ble_eq_true rfl)) (hR.le (Nat.le_of_ble_eq_true rfl))  N h2 hq) ?_
    refine g_weak ?_ (g_cl (cg_247_43 hd hS hR (cf_253_0 N) hr hp hC))
    exact ⟨rfl, trivial⟩
  · have hp := hp.2 h1
    refine g_weak ?_ (g_cl (cg_247_43 hd hS hR N hr hp hC))
    exact ⟨rfl, trivial⟩
theorem cg_247_0 (hd : 3 ≤ d) (hS : mz_extR S 232) (hR : mz_rok R 232)  (N : mz_N) {C0 : (mz_N) → Prop} (hr : ∀ (N2 : mz_N), C0 N2 → Q (.inl none) (mz_k S R N2 b t)) (hp : cp_247_0 N) (hC : C0 (cf_247_0 N)) : mz_G (d, mz_X0 L xs, none, [], mk_247, 4, Q) 0 mk_247 [(0, .ref 65), (1, .ref 2), (2, .ref 56), (3, .ref 53)] [] true (mz_k S R N b t) := by
  unfold cf_247_0 at hC
  unfold cp_247_0 at hp
  refine g_aload_n rfl ?_
  obtain ⟨h1, hp⟩ := hp
  refine g_v1n (Nat.le_of_ble_eq_true rfl) (mz_at hS (Nat.le_of_ble_eq_true rfl) mzcS_65) (fun _ hq => cs_248 (Nat.le_trans (Nat.le_of_ble_eq_true rfl) hd) (hS.le (Nat.le_of_ble_eq_true rfl)) (hR.le (Nat.le_of_ble_eq_true rfl))  N h1 hq) (g_aload_n rfl (g_aload_n rfl ?_))
  obtain ⟨h2, hp⟩ := hp
  refine g_v2n (Nat.le_of_ble_eq_true rfl) (mz_at hS (Nat.le_of_ble_eq_true rfl) mzcS_65) (fun _ hq => cs_249 (Nat.le_trans (Nat.le_of_ble_eq_true rfl) hd) (hS.le (Nat.le_of_ble_eq_true rfl)) (hR.le (Nat.le_of_ble_eq_true rfl))  (cf_248_0 N) h2 hq) (g_aload_n rfl (g_aload_n rfl ?_))
  obtain ⟨h3, hp⟩ := hp
  refine g_v2n (Nat.le_of_ble_eq_true rfl) (mz_at hS (Nat.le_of_ble_eq_true rfl) mzcS_65) (fun _ hq => cs_251 (Nat.le_trans (Nat.le_of_ble_eq_true rfl) hd) (hS.le (Nat.le_of_ble_eq_true rfl)) (hR.le (Nat.le_of_ble_eq_true rfl))  (cf_249_0 (cf_248_0 N)) h3 hq) (g_aload_n rfl ?_)
  obtain ⟨h4, hp⟩ := hp
  refine g_getZ (mz_at hS (Nat.le_of_ble_eq_true rfl) mzcS_56) mzcf_9_6 h4 ?_
  refine g_zeq (tg := 29) rfl ms_247_29 hC (fun h5 hC => ?_) (fun h5 hC => ?_)
  · have hp := hp.1 h5
    refine g_aload_n rfl (g_aload_n rfl (g_bipush mzb_13 (g_iald hS.1 (mz_at hS (Nat.le_of_ble_eq_true rfl) mzcS_53) (mz_ibd (by decide)) ?_)))
    obtain ⟨h6, hp⟩ := hp
    refine g_v2n (Nat.le_of_ble_eq_true rfl) (mz_at hS (Nat.le_of_ble_eq_true rfl) mzcS_65) (fun _ hq => cs_252 (Nat.le_trans (Nat.le_of_ble_eq_true rfl) hd) (hS.le (Nat.le_of_ble_eq_true rfl)) (hR.le (Nat.le_of_ble_eq_true rfl))  (mz_gI (cf_251_0 (cf_249_0 (cf_248_0 N))) 53 13) (cf_251_0 (cf_249_0 (cf_248_0 N))) h6 hq) ?_
    refine g_weak ?_ (g_cl (cg_247_29 hd hS hR (cf_252_0 (mz_gI (cf_251_0 (cf_249_0 (cf_248_0 N))) 53 13) (cf_251_0 (cf_249_0 (cf_248_0 N)))) hr hp hC))
    exact ⟨rfl, rfl, rfl, rfl, trivial⟩
  · have hp := hp.2 h5
    refine g_weak ?_ (g_cl (cg_247_29 hd hS hR (cf_251_0 (cf_249_0 (cf_248_0 N))) hr hp hC))
    exact ⟨rfl, rfl, rfl, rfl, trivial⟩
theorem cs_247 (hd : 4 ≤ d) (hS : mz_extR S 232) (hR : mz_rok R 232)  (N : mz_N) (hp : cp_247_0 N) (hq : Q (.inl none) (mz_k S R (cf_247_0 N) b t)) : mz_Ed (mz_X0 L xs) d 247 [.ref 65, .ref 2, .ref 56, .ref 53] (mz_k S R N b t) Q :=
  by
  refine g_in mzq_247 (Nat.le_of_ble_eq_true rfl) (Nat.le_of_ble_eq_true rfl) (Nat.le_trans (Nat.le_of_ble_eq_true rfl) hd) ?_
  refine g_weak ?_ (cg_247_0 (d := d - 1) (by omega) hS hR N (C0 := fun z => Q (.inl none) (mz_k S R z b t)) (fun _ h => h) hp hq)
  exact ⟨rfl, rfl, rfl, rfl, trivial⟩
/-! 256 KeptHouse$Care.wearOut (IZ)V -/
theorem ms_256_0 : mz_sf mk_256 0 = mk_256 := mz_sf_zero _
theorem ms_256_16 : mz_sf mk_256 16 = mt_256_16 := mz_sf_add ms_256_0 (t := 16) rfl rfl
set_option maxRecDepth 100000 in
theorem mzq_256 : mz_PG0 256 = some (2, ⟨"KeptHouse$Care", "wearOut", "(IZ)V"⟩, prog_4_method_27_code, 3, none, [], mk_256, []) := rfl
theorem cg_256_0 (hd : 0 ≤ d) (hS : mz_extR S 232) (hR : mz_rok R 232)  (v1 : Int32) (v2 : Bool) (N : mz_N) {C0 : (mz_N) → Prop} (hr : ∀ (N2 : mz_N), C0 N2 → Q (.inl none) (mz_k S R N2 b t)) (hp : cp_256_0 v1 v2 N) (hC : C0 (cf_256_0 v1 v2 N)) : mz_G (d, mz_X0 L xs, none, [], mk_256, 3, Q) 0 mk_256 [(0, .ref 115), (1, .int v1), (2, .int (mz_b01 v2))] [] true (mz_k S R N b t) := by
  unfold cf_256_0 at hC
  unfold cp_256_0 at hp
  refine g_iload_n rfl ?_
  refine g_zeq (tg := 16) rfl ms_256_16 hC (fun h1 hC => ?_) (fun h1 hC => ?_)
  · have hp := hp.1 h1
    refine g_aload_n rfl (g_getR (mz_at hS (Nat.le_of_ble_eq_true rfl) mzcS_115) mzcf_2_3 (mz_rb hR (Nat.le_of_ble_eq_true rfl) rfl mzcR_115_3) (g_iconst mzi_1 (g_aald4 (m := 126) (mz_at hS (Nat.le_of_ble_eq_true rfl) mzcS_124) (mz_ibd (by decide)) (mz_rb hR (Nat.le_of_ble_eq_true rfl) rfl mzcRr_124_1) (g_iload_n rfl (g_dup2 rfl rfl ?_)))))
    obtain ⟨h2, hp⟩ := hp
    refine g_iald hS.1 (mz_at hS (Nat.le_of_ble_eq_true rfl) mzcS_126) h2 (g_iconst mzi_1 (g_iadd ?_))
    have h3 := hp
    refine g_iast (mz_at hS (Nat.le_of_ble_eq_true rfl) mzcS_126) h3 ?_
    exact g_vret rfl (hr _ hC)
  · have hp := hp.2 h1
    exact g_vret rfl (hr _ hC)
theorem cs_256 (hd : 1 ≤ d) (hS : mz_extR S 232) (hR : mz_rok R 232)  (v1 : Int32) (v2 : Bool) (N : mz_N) (hp : cp_256_0 v1 v2 N) (hq : Q (.inl none) (mz_k S R (cf_256_0 v1 v2 N) b t)) : mz_Ed (mz_X0 L xs) d 256 [.ref 115, .int v1, .int (mz_b01 v2)] (mz_k S R N b t) Q :=
  by
  refine g_in mzq_256 (Nat.le_of_ble_eq_true rfl) (Nat.le_of_ble_eq_true rfl) (Nat.le_trans (Nat.le_of_ble_eq_true rfl) hd) ?_
  refine g_weak ?_ (cg_256_0 (d := d - 1) (by omega) hS hR v1 v2 N (C0 := fun z => Q (.inl none) (mz_k S R z b t)) (fun _ h => h) hp hq)
  exact ⟨rfl, rfl, rfl, trivial⟩
/-! 257 KeptHouse$Care.isSpent (I)Z -/
theorem ms_257_0 : mz_sf mk_257 0 = mk_257 := mz_sf_zero _
theorem ms_257_27 : mz_sf mk_257 27 = mt_257_27 := mz_sf_add ms_257_0 (t := 27) rfl rfl
theorem ms_257_31 : mz_sf mk_257 31 = mt_257_31 := mz_sf_add ms_257_27 (t := 4) rfl rfl
theorem ms_257_32 : mz_sf mk_257 32 = mt_257_32 := mz_sf_add ms_257_31 (t := 1) rfl rfl
set_option maxRecDepth 100000 in
theorem mzq_257 : mz_PG0 257 = some (2, ⟨"KeptHouse$Care", "isSpent", "(I)Z"⟩, prog_4_method_28_code, 2, some .boolean, [], mk_257, []) := rfl
theorem cg_257_0 (hd : 1 ≤ d) (hS : mz_extR S 232) (hR : mz_rok R 232)  (v1 : Int32) (N : mz_N) {C0 : (Bool) → Prop} (hr : ∀ (w : Bool), C0 w → Q (.inl (some (.int (mz_b01 w)))) (mz_k S R N b t)) (hp : cp_257_0 v1 N) (hC : C0 (cf_257_0 v1 N)) : mz_G (d, mz_X0 L xs, some .boolean, [], mk_257, 2, Q) 0 mk_257 [(0, .ref 115), (1, .int v1)] [] true (mz_k S R N b t) := by
  unfold cf_257_0 at hC
  unfold cp_257_0 at hp
  refine g_aload_n rfl (g_iload_n rfl ?_)
  obtain ⟨h1, hp⟩ := hp
  refine g_v2v (Nat.le_of_ble_eq_true rfl) (mz_at hS (Nat.le_of_ble_eq_true rfl) mzcS_115) (fun _ hq => cs_224 (Nat.le_trans (Nat.le_of_ble_eq_true rfl) hd) (hS.le (Nat.le_of_ble_eq_true rfl)) (hR.le (Nat.le_of_ble_eq_true rfl))  v1 N h1 hq) ?_
  refine g_zeq (tg := 31) rfl ms_257_31 hC (fun h2 hC => ?_) (fun h2 hC => ?_)
  · have hp := hp.1 h2
    refine g_aload_n rfl (g_getR (mz_at hS (Nat.le_of_ble_eq_true rfl) mzcS_115) mzcf_2_3 (mz_rb hR (Nat.le_of_ble_eq_true rfl) rfl mzcR_115_3) (g_iconst mzi_1 (g_aald4 (m := 126) (mz_at hS (Nat.le_of_ble_eq_true rfl) mzcS_124) (mz_ibd (by decide)) (mz_rb hR (Nat.le_of_ble_eq_true rfl) rfl mzcRr_124_1) (g_iload_n rfl ?_))))
    obtain ⟨h3, hp⟩ := hp
    refine g_iald hS.1 (mz_at hS (Nat.le_of_ble_eq_true rfl) mzcS_126) h3 (g_aload_n rfl (g_getR (mz_at hS (Nat.le_of_ble_eq_true rfl) mzcS_115) mzcf_2_3 (mz_rb hR (Nat.le_of_ble_eq_true rfl) rfl mzcR_115_3) (g_iconst mzi_0 (g_aald4 (m := 125) (mz_at hS (Nat.le_of_ble_eq_true rfl) mzcS_124) (mz_ibd (by decide)) (mz_rb hR (Nat.le_of_ble_eq_true rfl) rfl mzcRr_124_0) (g_iload_n rfl ?_)))))
    have h4 := hp
    refine g_iald hS.1 (mz_at hS (Nat.le_of_ble_eq_true rfl) mzcS_125) h4 ?_
    refine g_iclt (tg := 31) rfl ms_257_31 hC (fun h5 hC => ?_) (fun h5 hC => ?_)
    · refine g_iconst mzi_0 ?_
      exact g_zret (z := false) rfl (hr _ hC)
    · refine g_iconst mzi_1 (g_goto (tg := 32) rfl ms_257_32 ?_)
      exact g_zret (z := true) rfl (hr _ hC)
  · have hp := hp.2 h2
    refine g_iconst mzi_0 ?_
    exact g_zret (z := false) rfl (hr _ hC)
theorem cs_257 (hd : 2 ≤ d) (hS : mz_extR S 232) (hR : mz_rok R 232)  (v1 : Int32) (N : mz_N) (hp : cp_257_0 v1 N) (hq : Q (.inl (some (.int (mz_b01 (cf_257_0 v1 N))))) (mz_k S R N b t)) : mz_Ed (mz_X0 L xs) d 257 [.ref 115, .int v1] (mz_k S R N b t) Q :=
  by
  refine g_in mzq_257 (Nat.le_of_ble_eq_true rfl) (Nat.le_of_ble_eq_true rfl) (Nat.le_trans (Nat.le_of_ble_eq_true rfl) hd) ?_
  refine g_weak ?_ (cg_257_0 (d := d - 1) (by omega) hS hR v1 N (C0 := fun z => Q (.inl (some (.int (mz_b01 z)))) (mz_k S R N b t)) (fun _ h => h) hp hq)
  exact ⟨rfl, rfl, trivial⟩
/-! 259 KeptHouse$Care.freePlace ()I -/
theorem ms_259_0 : mz_sf mk_259 0 = mk_259 := mz_sf_zero _
theorem ms_259_2 : mz_sf mk_259 2 = mt_259_2 := mz_sf_add ms_259_0 (t := 2) rfl rfl
theorem ms_259_19 : mz_sf mk_259 19 = mt_259_19 := mz_sf_add ms_259_2 (t := 17) rfl rfl
theorem ms_259_25 : mz_sf mk_259 25 = mt_259_25 := mz_sf_add ms_259_19 (t := 6) rfl rfl
set_option maxRecDepth 100000 in
theorem mzq_259 : mz_PG0 259 = some (2, ⟨"KeptHouse$Care", "freePlace", "()I"⟩, prog_4_method_3_code, 2, some .int, [], mk_259, []) := rfl
theorem cb_259_2 (hd : 0 ≤ d) (hS : mz_extR S 232) (hR : mz_rok R 232)  (N : mz_N) (s : Int32) {C0 : (Int32) → Prop} (hr : ∀ (w : Int32), C0 w → Q (.inl (some (.int w))) (mz_k S R N b t)) {C1 : ((Int32) ⊕ (Int32)) → Prop} (hc1 : ∀ s2, C1 (.inl s2) → mz_G (d, mz_X0 L xs, some .int, [], mk_259, 2, Q) 2 mt_259_2 [(0, .ref 115), (1, .int s2)] [] false (mz_k S R N b t)) (hx1 : ∀ z, C1 (.inr z) → C0 z) (hp : cd_259_2 N s) (hC : C1 (cq_259_2 N s)) : mz_G (d, mz_X0 L xs, some .int, [], mk_259, 2, Q) 2 mt_259_2 [(0, .ref 115), (1, .int s)] [] false (mz_k S R N b t) := by
  unfold cq_259_2 at hC
  unfold cd_259_2 at hp
  refine g_iload_n rfl (g_bipush mzb_16 ?_)
  refine g_icge (tg := 25) rfl ms_259_25 hC (fun h1 hC => ?_) (fun h1 hC => ?_)
  · have hp := hp.1 h1
    refine g_aload_n rfl (g_getR (mz_at hS (Nat.le_of_ble_eq_true rfl) mzcS_115) mzcf_2_1 (mz_rb hR (Nat.le_of_ble_eq_true rfl) rfl mzcR_115_1) (g_iload_n rfl ?_))
    have h2 := hp
    refine g_iald hS.1 (mz_at hS (Nat.le_of_ble_eq_true rfl) mzcS_123) h2 ?_
    refine g_ifne (tg := 19) rfl ms_259_19 hC (fun h3 hC => ?_) (fun h3 hC => ?_)
    · refine g_iload_n rfl ?_
      exact g_iret rfl (hr _ (hx1 _ hC))
    · refine g_iinc rfl mzi_1 (Nat.le_of_ble_eq_true rfl) rfl (g_goto (tg := 2) rfl ms_259_2 ?_)
      refine g_weak ?_ (g_cl (hc1 ((s + 1)) hC))
      exact ⟨rfl, rfl, trivial⟩
  · have hp := hp.2 h1
    refine g_iconst mzi_m1 ?_
    exact g_iret rfl (hr _ (hx1 _ hC))
theorem cg_259_2 (hd : 0 ≤ d) (hS : mz_extR S 232) (hR : mz_rok R 232)  (v1 : Int32) (N : mz_N) {C0 : (Int32) → Prop} (hr : ∀ (w : Int32), C0 w → Q (.inl (some (.int w))) (mz_k S R N b t)) (hp : cp_259_2 v1 N) (hC : C0 (cf_259_2 v1 N)) : mz_G (d, mz_X0 L xs, some .int, [], mk_259, 2, Q) 2 mt_259_2 [(0, .ref 115), (1, .int v1)] [] false (mz_k S R N b t) := by
  obtain ⟨n, hn⟩ := hp
  exact g_loop (G := fun s => mz_G (d, mz_X0 L xs, some .int, [], mk_259, 2, Q) 2 mt_259_2 [(0, .ref 115), (1, .int s)] [] false (mz_k S R N b t)) (C := C0) (fun C2 hc hx s hP hC => cb_259_2 hd hS hR N s hr hc hx hP hC) n (v1) hn hC
theorem cg_259_0 (hd : 0 ≤ d) (hS : mz_extR S 232) (hR : mz_rok R 232)  (N : mz_N) {C0 : (Int32) → Prop} (hr : ∀ (w : Int32), C0 w → Q (.inl (some (.int w))) (mz_k S R N b t)) (hp : cp_259_0 N) (hC : C0 (cf_259_0 N)) : mz_G (d, mz_X0 L xs, some .int, [], mk_259, 2, Q) 0 mk_259 [(0, .ref 115)] [] true (mz_k S R N b t) := by
  unfold cf_259_0 at hC
  unfold cp_259_0 at hp
  refine g_iconst mzi_0 (g_istore_n (Nat.le_of_ble_eq_true rfl) rfl ?_)
  refine g_weak ?_ (g_cl (cg_259_2 hd hS hR 0 N hr hp hC))
  exact ⟨rfl, rfl, trivial⟩
theorem cs_259 (hd : 1 ≤ d) (hS : mz_extR S 232) (hR : mz_rok R 232)  (N : mz_N) (hp : cp_259_0 N) (hq : Q (.inl (some (.int (cf_259_0 N)))) (mz_k S R N b t)) : mz_Ed (mz_X0 L xs) d 259 [.ref 115] (mz_k S R N b t) Q :=
  by
  refine g_in mzq_259 (Nat.le_of_ble_eq_true rfl) (Nat.le_of_ble_eq_true rfl) (Nat.le_trans (Nat.le_of_ble_eq_true rfl) hd) ?_
  refine g_weak ?_ (cg_259_0 (d := d - 1) (by omega) hS hR N (C0 := fun z => Q (.inl (some (.int z))) (mz_k S R N b t)) (fun _ h => h) hp hq)
  exact ⟨rfl, trivial⟩
/-! 260 KeptHouse$Care.give (IIIII)V -/
theorem ms_260_0 : mz_sf mk_260 0 = mk_260 := mz_sf_zero _
theorem ms_260_21 : mz_sf mk_260 21 = mt_260_21 := mz_sf_add ms_260_0 (t := 21) rfl rfl
theorem ms_260_41 : mz_sf mk_260 41 = mt_260_41 := mz_sf_add ms_260_21 (t := 20) rfl rfl
set_option maxRecDepth 100000 in
theorem mzq_260 : mz_PG0 260 = some (2, ⟨"KeptHouse$Care", "give", "(IIIII)V"⟩, prog_4_method_4_code, 6, none, [], mk_260, []) := rfl
theorem cg_260_41 (hd : 1 ≤ d) (hS : mz_extR S 232) (hR : mz_rok R 232)  (N : mz_N) {C0 : (mz_N) → Prop} (hr : ∀ (N2 : mz_N), C0 N2 → Q (.inl none) (mz_k S R N2 b t)) (hp : cp_260_41 N) (hC : C0 (cf_260_41 N)) : mz_G (d, mz_X0 L xs, none, [], mk_260, 6, Q) 41 mt_260_41 [] [] false (mz_k S R N b t) := by
  unfold cf_260_41 at hC
  unfold cp_260_41 at hp
  exact g_vret rfl (hr _ hC)
theorem cg_260_0 (hd : 1 ≤ d) (hS : mz_extR S 232) (hR : mz_rok R 232)  (v1 : Int32) (v2 : Int32) (v3 : Int32) (v4 : Int32) (v5 : Int32) (N : mz_N) {C0 : (mz_N) → Prop} (hr : ∀ (N2 : mz_N), C0 N2 → Q (.inl none) (mz_k S R N2 b t)) (hp : cp_260_0 v1 v2 v3 v4 v5 N) (hC : C0 (cf_260_0 v1 v2 v3 v4 v5 N)) : mz_G (d, mz_X0 L xs, none, [], mk_260, 6, Q) 0 mk_260 [(0, .ref 115), (1, .int v1), (2, .int v2), (3, .int v3), (4, .int v4), (5, .int v5)] [] true (mz_k S R N b t) := by
  unfold cf_260_0 at hC
  unfold cp_260_0 at hp
  refine g_aload_n rfl (g_iload_n rfl (g_iload_n rfl (g_iload_n rfl (g_iload rfl ?_))))
  obtain ⟨h1, hp⟩ := hp
  refine g_v5n (Nat.le_of_ble_eq_true rfl) (mz_at hS (Nat.le_of_ble_eq_true rfl) mzcS_115) (fun _ hq => cs_68 (Nat.le_trans (Nat.le_of_ble_eq_true rfl) hd) (hS.le (Nat.le_of_ble_eq_true rfl)) (hR.le (Nat.le_of_ble_eq_true rfl))  v1 v2 v3 v4 N h1 hq) (g_aload_n rfl (g_getR (mz_at hS (Nat.le_of_ble_eq_true rfl) mzcS_115) mzcf_2_0 (mz_rb hR (Nat.le_of_ble_eq_true rfl) rfl mzcR_115_0) (g_iconst mzi_0 (g_aald4 (m := 117) (mz_at hS (Nat.le_of_ble_eq_true rfl) mzcS_116) (mz_ibd (by decide)) (mz_rb hR (Nat.le_of_ble_eq_true rfl) rfl mzcRr_116_0) (g_iload_n rfl (g_aload_n rfl (g_getI (mz_at hS (Nat.le_of_ble_eq_true rfl) mzcS_115) mzcf_2_2 ?_)))))))
  obtain ⟨h2, hp⟩ := hp
  refine g_iast (mz_at hS (Nat.le_of_ble_eq_true rfl) mzcS_117) h2 (g_aload_n rfl (g_getR (mz_at hS (Nat.le_of_ble_eq_true rfl) mzcS_115) mzcf_2_0 (mz_rb hR (Nat.le_of_ble_eq_true rfl) rfl mzcR_115_0) (g_iconst mzi_4 (g_aald4 (m := 121) (mz_at hS (Nat.le_of_ble_eq_true rfl) mzcS_116) (mz_ibd (by decide)) (mz_rb hR (Nat.le_of_ble_eq_true rfl) rfl mzcRr_116_4) (g_iload_n rfl (g_iload rfl ?_))))))
  obtain ⟨h3, hp⟩ := hp
  refine g_iast (mz_at hS (Nat.le_of_ble_eq_true rfl) mzcS_121) h3 (g_aload_n rfl (g_dup rfl (g_getI (mz_at hS (Nat.le_of_ble_eq_true rfl) mzcS_115) mzcf_2_2 (g_iconst mzi_1 (g_iadd (g_putI (mz_at hS (Nat.le_of_ble_eq_true rfl) mzcS_115) mzcf_2_2 ?_))))))
  refine g_weak ?_ (g_cl (cg_260_41 hd hS hR (mz_pI (mz_wI (mz_wI (cf_68_0 v1 v2 v3 v4 N) 117 v1 ((cf_68_0 v1 v2 v3 v4 N).1 115 2)) 121 v1 v5) 115 2 (((mz_wI (mz_wI (cf_68_0 v1 v2 v3 v4 N) 117 v1 ((cf_68_0 v1 v2 v3 v4 N).1 115 2)) 121 v1 v5).1 115 2) + 1)) hr hp hC))
  exact trivial
theorem cs_260 (hd : 2 ≤ d) (hS : mz_extR S 232) (hR : mz_rok R 232)  (v1 : Int32) (v2 : Int32) (v3 : Int32) (v4 : Int32) (v5 : Int32) (N : mz_N) (hp : cp_260_0 v1 v2 v3 v4 v5 N) (hq : Q (.inl none) (mz_k S R (cf_260_0 v1 v2 v3 v4 v5 N) b t)) : mz_Ed (mz_X0 L xs) d 260 [.ref 115, .int v1, .int v2, .int v3, .int v4, .int v5] (mz_k S R N b t) Q :=
  by
  refine g_in mzq_260 (Nat.le_of_ble_eq_true rfl) (Nat.le_of_ble_eq_true rfl) (Nat.le_trans (Nat.le_of_ble_eq_true rfl) hd) ?_
  refine g_weak ?_ (cg_260_0 (d := d - 1) (by omega) hS hR v1 v2 v3 v4 v5 N (C0 := fun z => Q (.inl none) (mz_k S R z b t)) (fun _ h => h) hp hq)
  exact ⟨rfl, rfl, rfl, rfl, rfl, rfl, trivial⟩
/-! 258 KeptHouse.failPart (I)Z -/
theorem ms_258_0 : mz_sf mk_258 0 = mk_258 := mz_sf_zero _
theorem ms_258_29 : mz_sf mk_258 29 = mt_258_29 := mz_sf_add ms_258_0 (t := 29) rfl rfl
theorem ms_258_60 : mz_sf mk_258 60 = mt_258_60 := mz_sf_add ms_258_29 (t := 31) rfl rfl
theorem ms_258_70 : mz_sf mk_258 70 = mt_258_70 := mz_sf_add ms_258_60 (t := 10) rfl rfl
set_option maxRecDepth 100000 in
theorem mzq_258 : mz_PG0 258 = some (11, ⟨"KeptHouse", "failPart", "(I)Z"⟩, prog_1_method_81_code, 3, some .boolean, [], mk_258, []) := rfl
theorem cg_258_70 (hd : 4 ≤ d) (hS : mz_extR S 232) (hR : mz_rok R 232)  (N : mz_N) (b : Bool) {C0 : (Bool × mz_N) → Prop} (hr : ∀ (w : Bool) (N2 : mz_N), C0 (w, N2) → Q (.inl (some (.int (mz_b01 w)))) (mz_k S R N2 b t)) (hp : cp_258_70 N b) (hC : C0 (cf_258_70 N b)) : mz_G (d, mz_X0 L xs, some .boolean, [], mk_258, 3, Q) 70 mt_258_70 [(0, .ref 0)] [] false (mz_k S R N b t) := by
  unfold cf_258_70 at hC
  unfold cp_258_70 at hp
  refine g_aload_n rfl (g_getR (mz_at hS (Nat.le_of_ble_eq_true rfl) mzcS_0) mzcf_11_0 (mz_rb hR (Nat.le_of_ble_eq_true rfl) rfl mzcR_0_0) ?_)
  have h1 := hp
  refine g_v1v (Nat.le_of_ble_eq_true rfl) (mz_at hS (Nat.le_of_ble_eq_true rfl) mzcS_1) (fun _ hq => cs_121 (Nat.le_trans (Nat.le_of_ble_eq_true rfl) hd) (hS.le (Nat.le_of_ble_eq_true rfl)) (hR.le (Nat.le_of_ble_eq_true rfl))  N b h1 hq) ?_
  exact g_zret (z := ((cf_121_0 N b).1)) rfl (hr _ _ hC)
theorem cg_258_60 (hd : 4 ≤ d) (hS : mz_extR S 232) (hR : mz_rok R 232)  (v2 : Int32) (N : mz_N) (b : Bool) {C0 : (Bool × mz_N) → Prop} (hr : ∀ (w : Bool) (N2 : mz_N), C0 (w, N2) → Q (.inl (some (.int (mz_b01 w)))) (mz_k S R N2 b t)) (hp : cp_258_60 v2 N b) (hC : C0 (cf_258_60 v2 N b)) : mz_G (d, mz_X0 L xs, some .boolean, [], mk_258, 3, Q) 60 mt_258_60 [(0, .ref 0), (2, .int v2)] [] false (mz_k S R N b t) := by
  unfold cf_258_60 at hC
  unfold cp_258_60 at hp
  refine g_aload_n rfl (g_getR (mz_at hS (Nat.le_of_ble_eq_true rfl) mzcS_0) mzcf_11_0 (mz_rb hR (Nat.le_of_ble_eq_true rfl) rfl mzcR_0_0) (g_bipush mzb_12 (g_iload_n rfl ?_)))
  obtain ⟨h1, hp⟩ := hp
  refine g_v3n (Nat.le_of_ble_eq_true rfl) (mz_at hS (Nat.le_of_ble_eq_true rfl) mzcS_1) (fun _ hq => cs_119 (Nat.le_trans (Nat.le_of_ble_eq_true rfl) hd) (hS.le (Nat.le_of_ble_eq_true rfl)) (hR.le (Nat.le_of_ble_eq_true rfl))  12 v2 N h1 hq) ?_
  refine g_weak ?_ (g_cl (cg_258_70 hd hS hR (cf_119_0 12 v2 N) b hr hp hC))
  exact ⟨rfl, trivial⟩
theorem cg_258_0 (hd : 4 ≤ d) (hS : mz_extR S 232) (hR : mz_rok R 232)  (v1 : Int32) (N : mz_N) (b : Bool) {C0 : (Bool × mz_N) → Prop} (hr : ∀ (w : Bool) (N2 : mz_N), C0 (w, N2) → Q (.inl (some (.int (mz_b01 w)))) (mz_k S R N2 b t)) (hp : cp_258_0 v1 N b) (hC : C0 (cf_258_0 v1 N b)) : mz_G (d, mz_X0 L xs, some .boolean, [], mk_258, 3, Q) 0 mk_258 [(0, .ref 0), (1, .int v1)] [] true (mz_k S R N b t) := by
  unfold cf_258_0 at hC
  unfold cp_258_0 at hp
  refine g_aload_n rfl (g_getR (mz_at hS (Nat.le_of_ble_eq_true rfl) mzcS_0) mzcf_11_7 (mz_rb hR (Nat.le_of_ble_eq_true rfl) rfl mzcR_0_7) (g_getR (mz_at hS (Nat.le_of_ble_eq_true rfl) mzcS_115) mzcf_2_3 (mz_rb hR (Nat.le_of_ble_eq_true rfl) rfl mzcR_115_3) (g_iconst mzi_3 (g_aald4 (m := 128) (mz_at hS (Nat.le_of_ble_eq_true rfl) mzcS_124) (mz_ibd (by decide)) (mz_rb hR (Nat.le_of_ble_eq_true rfl) rfl mzcRr_124_3) (g_iload_n rfl (g_iconst mzi_1 ?_))))))
  obtain ⟨h1, hp⟩ := hp
  refine g_iast (mz_at hS (Nat.le_of_ble_eq_true rfl) mzcS_128) h1 (g_aload_n rfl (g_getR (mz_at hS (Nat.le_of_ble_eq_true rfl) mzcS_0) mzcf_11_0 (mz_rb hR (Nat.le_of_ble_eq_true rfl) rfl mzcR_0_0) ?_))
  refine g_v1n (Nat.le_of_ble_eq_true rfl) (mz_at hS (Nat.le_of_ble_eq_true rfl) mzcS_1) (fun _ hq => cs_117 (Nat.le_trans (Nat.le_of_ble_eq_true rfl) hd) (hS.le (Nat.le_of_ble_eq_true rfl)) (hR.le (Nat.le_of_ble_eq_true rfl))  (mz_wI N 128 v1 1) trivial hq) (g_aload_n rfl (g_getR (mz_at hS (Nat.le_of_ble_eq_true rfl) mzcS_0) mzcf_11_0 (mz_rb hR (Nat.le_of_ble_eq_true rfl) rfl mzcR_0_0) (g_bipush mzb_11 (g_iload_n rfl ?_))))
  obtain ⟨h3, hp⟩ := hp
  refine g_v3n (Nat.le_of_ble_eq_true rfl) (mz_at hS (Nat.le_of_ble_eq_true rfl) mzcS_1) (fun _ hq => cs_119 (Nat.le_trans (Nat.le_of_ble_eq_true rfl) hd) (hS.le (Nat.le_of_ble_eq_true rfl)) (hR.le (Nat.le_of_ble_eq_true rfl))  11 v1 (cf_117_0 (mz_wI N 128 v1 1)) h3 hq) (g_aload_n rfl (g_getR (mz_at hS (Nat.le_of_ble_eq_true rfl) mzcS_0) mzcf_11_7 (mz_rb hR (Nat.le_of_ble_eq_true rfl) rfl mzcR_0_7) ?_))
  obtain ⟨h4, hp⟩ := hp
  refine g_v1v (Nat.le_of_ble_eq_true rfl) (mz_at hS (Nat.le_of_ble_eq_true rfl) mzcS_115) (fun _ hq => cs_259 (Nat.le_trans (Nat.le_of_ble_eq_true rfl) hd) (hS.le (Nat.le_of_ble_eq_true rfl)) (hR.le (Nat.le_of_ble_eq_true rfl))  (cf_119_0 11 v1 (cf_117_0 (mz_wI N 128 v1 1))) h4 hq) (g_istore_n (Nat.le_of_ble_eq_true rfl) rfl (g_iload_n rfl (g_iconst mzi_m1 ?_)))
  refine g_iceq (tg := 70) rfl ms_258_70 hC (fun h5 hC => ?_) (fun h5 hC => ?_)
  · have hp := hp.1 h5
    refine g_weak ?_ (g_cl (cg_258_70 hd hS hR (cf_119_0 11 v1 (cf_117_0 (mz_wI N 128 v1 1))) b hr hp hC))
    exact ⟨rfl, trivial⟩
  · have hp := hp.2 h5
    refine g_aload_n rfl (g_getR (mz_at hS (Nat.le_of_ble_eq_true rfl) mzcS_0) mzcf_11_7 (mz_rb hR (Nat.le_of_ble_eq_true rfl) rfl mzcR_0_7) (g_iload_n rfl (g_iconst mzi_0 (g_iload_n rfl (g_iload_n rfl (g_aload_n rfl (g_getR (mz_at hS (Nat.le_of_ble_eq_true rfl) mzcS_0) mzcf_11_8 (mz_rb hR (Nat.le_of_ble_eq_true rfl) rfl mzcR_0_8) ?_)))))))
    refine g_getI (mz_at hS (Nat.le_of_ble_eq_true rfl) mzcS_208) mzcf_1_0 ?_
    obtain ⟨h6, hp⟩ := hp
    refine g_v6n (Nat.le_of_ble_eq_true rfl) (mz_at hS (Nat.le_of_ble_eq_true rfl) mzcS_115) (fun _ hq => cs_260 (Nat.le_trans (Nat.le_of_ble_eq_true rfl) hd) (hS.le (Nat.le_of_ble_eq_true rfl)) (hR.le (Nat.le_of_ble_eq_true rfl))  (cf_259_0 (cf_119_0 11 v1 (cf_117_0 (mz_wI N 128 v1 1)))) 0 v1 v1 ((cf_119_0 11 v1 (cf_117_0 (mz_wI N 128 v1 1))).1 208 0) (cf_119_0 11 v1 (cf_117_0 (mz_wI N 128 v1 1))) h6 hq) ?_
    refine g_weak ?_ (g_cl (cg_258_60 hd hS hR (cf_259_0 (cf_119_0 11 v1 (cf_117_0 (mz_wI N 128 v1 1)))) (cf_260_0 (cf_259_0 (cf_119_0 11 v1 (cf_117_0 (mz_wI N 128 v1 1)))) 0 v1 v1 ((cf_119_0 11 v1 (cf_117_0 (mz_wI N 128 v1 1))).1 208 0) (cf_119_0 11 v1 (cf_117_0 (mz_wI N 128 v1 1)))) b hr hp hC))
    exact ⟨rfl, rfl, trivial⟩
theorem cs_258 (hd : 5 ≤ d) (hS : mz_extR S 232) (hR : mz_rok R 232)  (v1 : Int32) (N : mz_N) (b : Bool) (hp : cp_258_0 v1 N b) (hq : Q (.inl (some (.int (mz_b01 ((cf_258_0 v1 N b).1))))) (mz_k S R ((cf_258_0 v1 N b).2) b t)) : mz_Ed (mz_X0 L xs) d 258 [.ref 0, .int v1] (mz_k S R N b t) Q :=
  by
  refine g_in mzq_258 (Nat.le_of_ble_eq_true rfl) (Nat.le_of_ble_eq_true rfl) (Nat.le_trans (Nat.le_of_ble_eq_true rfl) hd) ?_
  refine g_weak ?_ (cg_258_0 (d := d - 1) (by omega) hS hR v1 N b (C0 := fun z => Q (.inl (some (.int (mz_b01 z.1)))) (mz_k S R z.2 b t)) (fun _ _ h => h) hp hq)
  exact ⟨rfl, rfl, trivial⟩
/-! 255 KeptHouse.wearParts ()Z -/
theorem ms_255_0 : mz_sf mk_255 0 = mk_255 := mz_sf_zero _
theorem ms_255_19 : mz_sf mk_255 19 = mt_255_19 := mz_sf_add ms_255_0 (t := 19) rfl rfl
theorem ms_255_20 : mz_sf mk_255 20 = mt_255_20 := mz_sf_add ms_255_19 (t := 1) rfl rfl
theorem ms_255_53 : mz_sf mk_255 53 = mt_255_53 := mz_sf_add ms_255_20 (t := 33) rfl rfl
theorem ms_255_55 : mz_sf mk_255 55 = mt_255_55 := mz_sf_add ms_255_53 (t := 2) rfl rfl
theorem ms_255_79 : mz_sf mk_255 79 = mt_255_79 := mz_sf_add ms_255_55 (t := 24) rfl rfl
theorem ms_255_81 : mz_sf mk_255 81 = mt_255_81 := mz_sf_add ms_255_79 (t := 2) rfl rfl
theorem ms_255_87 : mz_sf mk_255 87 = mt_255_87 := mz_sf_add ms_255_81 (t := 6) rfl rfl
set_option maxRecDepth 100000 in
theorem mzq_255 : mz_PG0 255 = some (11, ⟨"KeptHouse", "wearParts", "()Z"⟩, prog_1_method_80_code, 2, some .boolean, [], mk_255, []) := rfl
theorem cg_255_81 (hd : 5 ≤ d) (hS : mz_extR S 232) (hR : mz_rok R 232)  (v1 : Int32) (N : mz_N) (b : Bool) {C0 : (Bool × mz_N) → Prop} (hr : ∀ (w : Bool) (N2 : mz_N), C0 (w, N2) → Q (.inl (some (.int (mz_b01 w)))) (mz_k S R N2 b t)) {C1 : ((Int32 × mz_N) ⊕ (Bool × mz_N)) → Prop} (hc1 : ∀ s2, C1 (.inl s2) → mz_G (d, mz_X0 L xs, some .boolean, [], mk_255, 2, Q) 55 mt_255_55 [(0, .ref 0), (1, .int s2.1)] [] false (mz_k S R s2.2 b t)) (hx1 : ∀ z, C1 (.inr z) → C0 z) (hp : cp_255_81 v1 N b) (hC : C1 (cf_255_81 v1 N b)) : mz_G (d, mz_X0 L xs, some .boolean, [], mk_255, 2, Q) 81 mt_255_81 [(0, .ref 0), (1, .int v1)] [] false (mz_k S R N b t) := by
  unfold cf_255_81 at hC
  unfold cp_255_81 at hp
  refine g_iinc rfl mzi_1 (Nat.le_of_ble_eq_true rfl) rfl (g_goto (tg := 55) rfl ms_255_55 ?_)
  refine g_weak ?_ (g_cl (hc1 ((v1 + 1), N) hC))
  exact ⟨rfl, rfl, trivial⟩
theorem cb_255_55 (hd : 5 ≤ d) (hS : mz_extR S 232) (hR : mz_rok R 232)  (b : Bool) (s : Int32 × mz_N) {C0 : (Bool × mz_N) → Prop} (hr : ∀ (w : Bool) (N2 : mz_N), C0 (w, N2) → Q (.inl (some (.int (mz_b01 w)))) (mz_k S R N2 b t)) {C1 : ((Int32 × mz_N) ⊕ (Bool × mz_N)) → Prop} (hc1 : ∀ s2, C1 (.inl s2) → mz_G (d, mz_X0 L xs, some .boolean, [], mk_255, 2, Q) 55 mt_255_55 [(0, .ref 0), (1, .int s2.1)] [] false (mz_k S R s2.2 b t)) (hx1 : ∀ z, C1 (.inr z) → C0 z) (hp : cd_255_55 b s) (hC : C1 (cq_255_55 b s)) : mz_G (d, mz_X0 L xs, some .boolean, [], mk_255, 2, Q) 55 mt_255_55 [(0, .ref 0), (1, .int s.1)] [] false (mz_k S R s.2 b t) := by
  unfold cq_255_55 at hC
  unfold cd_255_55 at hp
  refine g_iload_n rfl (g_iconst mzi_3 ?_)
  refine g_icge (tg := 87) rfl ms_255_87 hC (fun h1 hC => ?_) (fun h1 hC => ?_)
  · have hp := hp.1 h1
    refine g_aload_n rfl (g_getR (mz_at hS (Nat.le_of_ble_eq_true rfl) mzcS_0) mzcf_11_7 (mz_rb hR (Nat.le_of_ble_eq_true rfl) rfl mzcR_0_7) (g_iload_n rfl ?_))
    obtain ⟨h2, hp⟩ := hp
    refine g_v2v (Nat.le_of_ble_eq_true rfl) (mz_at hS (Nat.le_of_ble_eq_true rfl) mzcS_115) (fun _ hq => cs_257 (Nat.le_trans (Nat.le_of_ble_eq_true rfl) hd) (hS.le (Nat.le_of_ble_eq_true rfl)) (hR.le (Nat.le_of_ble_eq_true rfl))  s.1 s.2 h2 hq) ?_
    refine g_zeq (tg := 81) rfl ms_255_81 hC (fun h3 hC => ?_) (fun h3 hC => ?_)
    · have hp := hp.1 h3
      refine g_aload_n rfl (g_iload_n rfl ?_)
      obtain ⟨h4, hp⟩ := hp
      refine g_v2v (Nat.le_of_ble_eq_true rfl) (mz_at hS (Nat.le_of_ble_eq_true rfl) mzcS_0) (fun _ hq => cs_258 (Nat.le_trans (Nat.le_of_ble_eq_true rfl) hd) (hS.le (Nat.le_of_ble_eq_true rfl)) (hR.le (Nat.le_of_ble_eq_true rfl))  s.1 s.2 b h4 hq) ?_
      refine g_zne (tg := 81) rfl ms_255_81 hC (fun h5 hC => ?_) (fun h5 hC => ?_)
      · have hp := hp.1 h5
        refine g_weak ?_ (g_cl (cg_255_81 hd hS hR s.1 ((cf_258_0 s.1 s.2 b).2) b hr hc1 hx1 hp hC))
        exact ⟨rfl, rfl, trivial⟩
      · have hp := hp.2 h5
        refine g_iconst mzi_0 ?_
        exact g_zret (z := false) rfl (hr _ _ (hx1 _ hC))
    · have hp := hp.2 h3
      refine g_weak ?_ (g_cl (cg_255_81 hd hS hR s.1 s.2 b hr hc1 hx1 hp hC))
      exact ⟨rfl, rfl, trivial⟩
  · have hp := hp.2 h1
    refine g_iconst mzi_1 ?_
    exact g_zret (z := true) rfl (hr _ _ (hx1 _ hC))
theorem cg_255_55 (hd : 5 ≤ d) (hS : mz_extR S 232) (hR : mz_rok R 232)  (v1 : Int32) (N : mz_N) (b : Bool) {C0 : (Bool × mz_N) → Prop} (hr : ∀ (w : Bool) (N2 : mz_N), C0 (w, N2) → Q (.inl (some (.int (mz_b01 w)))) (mz_k S R N2 b t)) (hp : cp_255_55 v1 N b) (hC : C0 (cf_255_55 v1 N b)) : mz_G (d, mz_X0 L xs, some .boolean, [], mk_255, 2, Q) 55 mt_255_55 [(0, .ref 0), (1, .int v1)] [] false (mz_k S R N b t) := by
  obtain ⟨n, hn⟩ := hp
  exact g_loop (G := fun s => mz_G (d, mz_X0 L xs, some .boolean, [], mk_255, 2, Q) 55 mt_255_55 [(0, .ref 0), (1, .int s.1)] [] false (mz_k S R s.2 b t)) (C := C0) (fun C2 hc hx s hP hC => cb_255_55 hd hS hR b s hr hc hx hP hC) n (v1, N) hn hC
theorem cg_255_53 (hd : 5 ≤ d) (hS : mz_extR S 232) (hR : mz_rok R 232)  (N : mz_N) (b : Bool) {C0 : (Bool × mz_N) → Prop} (hr : ∀ (w : Bool) (N2 : mz_N), C0 (w, N2) → Q (.inl (some (.int (mz_b01 w)))) (mz_k S R N2 b t)) (hp : cp_255_53 N b) (hC : C0 (cf_255_53 N b)) : mz_G (d, mz_X0 L xs, some .boolean, [], mk_255, 2, Q) 53 mt_255_53 [(0, .ref 0)] [] false (mz_k S R N b t) := by
  unfold cf_255_53 at hC
  unfold cp_255_53 at hp
  refine g_iconst mzi_0 (g_istore_n (Nat.le_of_ble_eq_true rfl) rfl ?_)
  refine g_weak ?_ (g_cl (cg_255_55 hd hS hR 0 N b hr hp hC))
  exact ⟨rfl, rfl, trivial⟩
theorem cg_255_20 (hd : 5 ≤ d) (hS : mz_extR S 232) (hR : mz_rok R 232)  (s1 : Int32) (s2 : Bool) (N : mz_N) (b : Bool) {C0 : (Bool × mz_N) → Prop} (hr : ∀ (w : Bool) (N2 : mz_N), C0 (w, N2) → Q (.inl (some (.int (mz_b01 w)))) (mz_k S R N2 b t)) (hp : cp_255_20 s1 s2 N b) (hC : C0 (cf_255_20 s1 s2 N b)) : mz_G (d, mz_X0 L xs, some .boolean, [], mk_255, 2, Q) 20 mt_255_20 [(0, .ref 0)] [.int (mz_b01 s2), .int s1, .ref 115] true (mz_k S R N b t) := by
  unfold cf_255_20 at hC
  unfold cp_255_20 at hp
  obtain ⟨h1, hp⟩ := hp
  refine g_v3n (Nat.le_of_ble_eq_true rfl) (mz_at hS (Nat.le_of_ble_eq_true rfl) mzcS_115) (fun _ hq => cs_256 (Nat.le_trans (Nat.le_of_ble_eq_true rfl) hd) (hS.le (Nat.le_of_ble_eq_true rfl)) (hR.le (Nat.le_of_ble_eq_true rfl))  s1 s2 N h1 hq) (g_aload_n rfl (g_getR (mz_at hS (Nat.le_of_ble_eq_true rfl) mzcS_0) mzcf_11_7 (mz_rb hR (Nat.le_of_ble_eq_true rfl) rfl mzcR_0_7) (g_iconst mzi_1 (g_aload_n rfl (g_getR (mz_at hS (Nat.le_of_ble_eq_true rfl) mzcS_0) mzcf_11_3 (mz_rb hR (Nat.le_of_ble_eq_true rfl) rfl mzcR_0_3) ?_)))))
  obtain ⟨h2, hp⟩ := hp
  refine g_getZ (mz_at hS (Nat.le_of_ble_eq_true rfl) mzcS_56) mzcf_9_9 h2 ?_
  obtain ⟨h3, hp⟩ := hp
  refine g_v3n (Nat.le_of_ble_eq_true rfl) (mz_at hS (Nat.le_of_ble_eq_true rfl) mzcS_115) (fun _ hq => cs_256 (Nat.le_trans (Nat.le_of_ble_eq_true rfl) hd) (hS.le (Nat.le_of_ble_eq_true rfl)) (hR.le (Nat.le_of_ble_eq_true rfl))  1 (mz_fZ (cf_256_0 s1 s2 N) 56 9) (cf_256_0 s1 s2 N) h3 hq) (g_aload_n rfl (g_getR (mz_at hS (Nat.le_of_ble_eq_true rfl) mzcS_0) mzcf_11_7 (mz_rb hR (Nat.le_of_ble_eq_true rfl) rfl mzcR_0_7) (g_iconst mzi_2 (g_aload_n rfl (g_getR (mz_at hS (Nat.le_of_ble_eq_true rfl) mzcS_0) mzcf_11_3 (mz_rb hR (Nat.le_of_ble_eq_true rfl) rfl mzcR_0_3) ?_)))))
  obtain ⟨h4, hp⟩ := hp
  refine g_getZ (mz_at hS (Nat.le_of_ble_eq_true rfl) mzcS_56) mzcf_9_5 h4 ?_
  obtain ⟨h5, hp⟩ := hp
  refine g_v3n (Nat.le_of_ble_eq_true rfl) (mz_at hS (Nat.le_of_ble_eq_true rfl) mzcS_115) (fun _ hq => cs_256 (Nat.le_trans (Nat.le_of_ble_eq_true rfl) hd) (hS.le (Nat.le_of_ble_eq_true rfl)) (hR.le (Nat.le_of_ble_eq_true rfl))  2 (mz_fZ (cf_256_0 1 (mz_fZ (cf_256_0 s1 s2 N) 56 9) (cf_256_0 s1 s2 N)) 56 5) (cf_256_0 1 (mz_fZ (cf_256_0 s1 s2 N) 56 9) (cf_256_0 s1 s2 N)) h5 hq) ?_
  refine g_weak ?_ (g_cl (cg_255_53 hd hS hR (cf_256_0 2 (mz_fZ (cf_256_0 1 (mz_fZ (cf_256_0 s1 s2 N) 56 9) (cf_256_0 s1 s2 N)) 56 5) (cf_256_0 1 (mz_fZ (cf_256_0 s1 s2 N) 56 9) (cf_256_0 s1 s2 N))) b hr hp hC))
  exact ⟨rfl, trivial⟩
theorem cg_255_0 (hd : 5 ≤ d) (hS : mz_extR S 232) (hR : mz_rok R 232)  (N : mz_N) (b : Bool) {C0 : (Bool × mz_N) → Prop} (hr : ∀ (w : Bool) (N2 : mz_N), C0 (w, N2) → Q (.inl (some (.int (mz_b01 w)))) (mz_k S R N2 b t)) (hp : cp_255_0 N b) (hC : C0 (cf_255_0 N b)) : mz_G (d, mz_X0 L xs, some .boolean, [], mk_255, 2, Q) 0 mk_255 [(0, .ref 0)] [] true (mz_k S R N b t) := by
  unfold cf_255_0 at hC
  unfold cp_255_0 at hp
  refine g_aload_n rfl (g_getR (mz_at hS (Nat.le_of_ble_eq_true rfl) mzcS_0) mzcf_11_7 (mz_rb hR (Nat.le_of_ble_eq_true rfl) rfl mzcR_0_7) (g_iconst mzi_0 (g_aload_n rfl (g_getR (mz_at hS (Nat.le_of_ble_eq_true rfl) mzcS_0) mzcf_11_3 (mz_rb hR (Nat.le_of_ble_eq_true rfl) rfl mzcR_0_3) (g_getI (mz_at hS (Nat.le_of_ble_eq_true rfl) mzcS_56) mzcf_9_13 ?_)))))
  refine g_ifle (tg := 19) rfl ms_255_19 hC (fun h1 hC => ?_) (fun h1 hC => ?_)
  · have hp := hp.1 h1
    refine g_iconst mzi_1 (g_goto (tg := 20) rfl ms_255_20 ?_)
    refine g_weak ?_ (cg_255_20 hd hS hR 0 true N b hr hp hC)
    exact ⟨rfl, trivial⟩
  · have hp := hp.2 h1
    refine g_iconst mzi_0 ?_
    refine g_weak ?_ (cg_255_20 hd hS hR 0 false N b hr hp hC)
    exact ⟨rfl, trivial⟩
theorem cs_255 (hd : 6 ≤ d) (hS : mz_extR S 232) (hR : mz_rok R 232)  (N : mz_N) (b : Bool) (hp : cp_255_0 N b) (hq : Q (.inl (some (.int (mz_b01 ((cf_255_0 N b).1))))) (mz_k S R ((cf_255_0 N b).2) b t)) : mz_Ed (mz_X0 L xs) d 255 [.ref 0] (mz_k S R N b t) Q :=
  by
  refine g_in mzq_255 (Nat.le_of_ble_eq_true rfl) (Nat.le_of_ble_eq_true rfl) (Nat.le_trans (Nat.le_of_ble_eq_true rfl) hd) ?_
  refine g_weak ?_ (cg_255_0 (d := d - 1) (by omega) hS hR N b (C0 := fun z => Q (.inl (some (.int (mz_b01 z.1)))) (mz_k S R z.2 b t)) (fun _ _ h => h) hp hq)
  exact ⟨rfl, trivial⟩
/-! 262 KeptHouse$Watch.isLongCold (IZ)Z -/
theorem ms_262_0 : mz_sf mk_262 0 = mk_262 := mz_sf_zero _
theorem ms_262_20 : mz_sf mk_262 20 = mt_262_20 := mz_sf_add ms_262_0 (t := 20) rfl rfl
theorem ms_262_21 : mz_sf mk_262 21 = mt_262_21 := mz_sf_add ms_262_20 (t := 1) rfl rfl
theorem ms_262_37 : mz_sf mk_262 37 = mt_262_37 := mz_sf_add ms_262_21 (t := 16) rfl rfl
theorem ms_262_38 : mz_sf mk_262 38 = mt_262_38 := mz_sf_add ms_262_37 (t := 1) rfl rfl
set_option maxRecDepth 100000 in
theorem mzq_262 : mz_PG0 262 = some (10, ⟨"KeptHouse$Watch", "isLongCold", "(IZ)Z"⟩, prog_12_method_3_code, 3, some .boolean, [], mk_262, []) := rfl
theorem cg_262_21 (hd : 0 ≤ d) (hS : mz_extR S 232) (hR : mz_rok R 232)  (s1 : Int32) (s2 : Int32) (v1 : Int32) (N : mz_N) {C0 : (Bool × mz_N) → Prop} (hr : ∀ (w : Bool) (N2 : mz_N), C0 (w, N2) → Q (.inl (some (.int (mz_b01 w)))) (mz_k S R N2 b t)) (hp : cp_262_21 s1 s2 v1 N) (hC : C0 (cf_262_21 s1 s2 v1 N)) : mz_G (d, mz_X0 L xs, some .boolean, [], mk_262, 3, Q) 21 mt_262_21 [(0, .ref 81), (1, .int v1)] [.int s2, .int s1, .ref 82] true (mz_k S R N b t) := by
  unfold cf_262_21 at hC
  unfold cp_262_21 at hp
  obtain ⟨h1, hp⟩ := hp
  refine g_iast (mz_at hS (Nat.le_of_ble_eq_true rfl) mzcS_82) h1 (g_aload_n rfl (g_getR (mz_at hS (Nat.le_of_ble_eq_true rfl) mzcS_81) mzcf_10_0 (mz_rb hR (Nat.le_of_ble_eq_true rfl) rfl mzcR_81_0) (g_iload_n rfl ?_)))
  have h2 := hp
  refine g_iald hS.1 (mz_at hS (Nat.le_of_ble_eq_true rfl) mzcS_82) h2 (g_bipush mzb_30 ?_)
  refine g_iclt (tg := 37) rfl ms_262_37 hC (fun h3 hC => ?_) (fun h3 hC => ?_)
  · refine g_iconst mzi_0 ?_
    exact g_zret (z := false) rfl (hr _ _ hC)
  · refine g_iconst mzi_1 (g_goto (tg := 38) rfl ms_262_38 ?_)
    exact g_zret (z := true) rfl (hr _ _ hC)
theorem cg_262_0 (hd : 0 ≤ d) (hS : mz_extR S 232) (hR : mz_rok R 232)  (v1 : Int32) (v2 : Bool) (N : mz_N) {C0 : (Bool × mz_N) → Prop} (hr : ∀ (w : Bool) (N2 : mz_N), C0 (w, N2) → Q (.inl (some (.int (mz_b01 w)))) (mz_k S R N2 b t)) (hp : cp_262_0 v1 v2 N) (hC : C0 (cf_262_0 v1 v2 N)) : mz_G (d, mz_X0 L xs, some .boolean, [], mk_262, 3, Q) 0 mk_262 [(0, .ref 81), (1, .int v1), (2, .int (mz_b01 v2))] [] true (mz_k S R N b t) := by
  unfold cf_262_0 at hC
  unfold cp_262_0 at hp
  refine g_aload_n rfl (g_getR (mz_at hS (Nat.le_of_ble_eq_true rfl) mzcS_81) mzcf_10_0 (mz_rb hR (Nat.le_of_ble_eq_true rfl) rfl mzcR_81_0) (g_iload_n rfl (g_iload_n rfl ?_)))
  refine g_zeq (tg := 20) rfl ms_262_20 hC (fun h1 hC => ?_) (fun h1 hC => ?_)
  · have hp := hp.1 h1
    refine g_aload_n rfl (g_getR (mz_at hS (Nat.le_of_ble_eq_true rfl) mzcS_81) mzcf_10_0 (mz_rb hR (Nat.le_of_ble_eq_true rfl) rfl mzcR_81_0) (g_iload_n rfl ?_))
    obtain ⟨h2, hp⟩ := hp
    refine g_iald hS.1 (mz_at hS (Nat.le_of_ble_eq_true rfl) mzcS_82) h2 (g_iconst mzi_1 (g_iadd (g_goto (tg := 21) rfl ms_262_21 ?_)))
    refine g_weak ?_ (cg_262_21 hd hS hR v1 ((mz_gI N 82 v1) + 1) v1 N hr hp hC)
    exact ⟨rfl, rfl, trivial⟩
  · have hp := hp.2 h1
    refine g_iconst mzi_0 ?_
    refine g_weak ?_ (cg_262_21 hd hS hR v1 0 v1 N hr hp hC)
    exact ⟨rfl, rfl, trivial⟩
theorem cs_262 (hd : 1 ≤ d) (hS : mz_extR S 232) (hR : mz_rok R 232)  (v1 : Int32) (v2 : Bool) (N : mz_N) (hp : cp_262_0 v1 v2 N) (hq : Q (.inl (some (.int (mz_b01 ((cf_262_0 v1 v2 N).1))))) (mz_k S R ((cf_262_0 v1 v2 N).2) b t)) : mz_Ed (mz_X0 L xs) d 262 [.ref 81, .int v1, .int (mz_b01 v2)] (mz_k S R N b t) Q :=
  by
  refine g_in mzq_262 (Nat.le_of_ble_eq_true rfl) (Nat.le_of_ble_eq_true rfl) (Nat.le_trans (Nat.le_of_ble_eq_true rfl) hd) ?_
  refine g_weak ?_ (cg_262_0 (d := d - 1) (by omega) hS hR v1 v2 N (C0 := fun z => Q (.inl (some (.int (mz_b01 z.1)))) (mz_k S R z.2 b t)) (fun _ _ h => h) hp hq)
  exact ⟨rfl, rfl, rfl, trivial⟩
end Fn12
