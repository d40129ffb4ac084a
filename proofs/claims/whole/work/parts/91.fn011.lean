/-! THE FUNCTIONS: written by program: each method comes to its function. -/
section Fn11
variable {L : Nat} {xs : Nat → Int32} {d : Nat} {S : mz_S} {R : Nat → Nat → Option Nat} {Q : mz_Q} {N : mz_N} {b : Bool} {t : Nat}
/-! 239 KeptHouse$Climate.boil (LKeptHouse$Plan;LKeptHouse$Supply;LKeptHouse$Books;[I)V -/
theorem ms_239_0 : mz_sf mk_239 0 = mk_239 := mz_sf_zero _
theorem ms_239_12 : mz_sf mk_239 12 = mt_239_12 := mz_sf_add ms_239_0 (t := 12) rfl rfl
theorem ms_239_41 : mz_sf mk_239 41 = mt_239_41 := mz_sf_add ms_239_12 (t := 29) rfl rfl
theorem ms_239_63 : mz_sf mk_239 63 = mt_239_63 := mz_sf_add ms_239_41 (t := 22) rfl rfl
theorem ms_239_66 : mz_sf mk_239 66 = mt_239_66 := mz_sf_add ms_239_63 (t := 3) rfl rfl
theorem ms_239_101 : mz_sf mk_239 101 = mt_239_101 := mz_sf_add ms_239_66 (t := 35) rfl rfl
theorem ms_239_119 : mz_sf mk_239 119 = mt_239_119 := mz_sf_add ms_239_101 (t := 18) rfl rfl
theorem ms_239_153 : mz_sf mk_239 153 = mt_239_153 := mz_sf_add ms_239_119 (t := 34) rfl rfl
theorem ms_239_189 : mz_sf mk_239 189 = mt_239_189 := mz_sf_add ms_239_153 (t := 36) rfl rfl
theorem ms_239_192 : mz_sf mk_239 192 = mt_239_192 := mz_sf_add ms_239_189 (t := 3) rfl rfl
theorem ms_239_216 : mz_sf mk_239 216 = mt_239_216 := mz_sf_add ms_239_192 (t := 24) rfl rfl
theorem ms_239_248 : mz_sf mk_239 248 = mt_239_248 := mz_sf_add ms_239_216 (t := 32) rfl rfl
theorem ms_239_254 : mz_sf mk_239 254 = mt_239_254 := mz_sf_add ms_239_248 (t := 6) rfl rfl
theorem ms_239_291 : mz_sf mk_239 291 = mt_239_291 := mz_sf_add ms_239_254 (t := 37) rfl rfl
theorem ms_239_315 : mz_sf mk_239 315 = mt_239_315 := mz_sf_add ms_239_291 (t := 24) rfl rfl
set_option maxRecDepth 100000 in
theorem mzq_239 : mz_PG0 239 = some (3, ⟨"KeptHouse$Climate", "boil", "(LKeptHouse$Plan;LKeptHouse$Supply;LKeptHouse$Books;[I)V"⟩, prog_5_method_16_code, 13, none, [], mk_239, []) := rfl
theorem cg_239_101 (hd : 2 ≤ d) (hS : mz_ext S 232) (hR : mz_rok R 232)  (v5 : Int32) (v6 : Int64) (v8 : Int32) (N : mz_N) {C0 : (mz_N) → Prop} (hr : ∀ (N2 : mz_N), C0 N2 → Q (.inl none) (mz_k S R N2 b t)) {C1 : ((Int64 × Int32 × mz_N) ⊕ (mz_N)) → Prop} (hc1 : ∀ s2, C1 (.inl s2) → mz_G (d, mz_X0 L xs, none, [], mk_239, 13, Q) 12 mt_239_12 [(0, .ref 65), (1, .ref 2), (2, .ref 56), (3, .ref 208), (4, .ref 53), (5, .int v5), (6, .long s2.1), (8, .int s2.2.1)] [] false (mz_k S R s2.2.2 b t)) (hx1 : ∀ z, C1 (.inr z) → C0 z) (hp : cp_239_101 v5 v6 v8 N) (hC : C1 (cf_239_101 v5 v6 v8 N)) : mz_G (d, mz_X0 L xs, none, [], mk_239, 13, Q) 101 mt_239_101 [(0, .ref 65), (1, .ref 2), (2, .ref 56), (3, .ref 208), (4, .ref 53), (5, .int v5), (6, .long v6), (8, .int v8)] [] false (mz_k S R N b t) := by
  unfold cf_239_101 at hC
  unfold cp_239_101 at hp
  refine g_lload rfl (g_aload_n rfl (g_getR (mz_at hS (Nat.le_of_ble_eq_true rfl) mzcS_65) mzcf_3_11 (mz_rb hR (Nat.le_of_ble_eq_true rfl) rfl mzcR_65_11) (g_iload rfl ?_)))
  have h1 := hp
  refine g_lald (mz_at hS (Nat.le_of_ble_eq_true rfl) mzcS_76) h1 (g_ladd (g_lstore (Nat.le_of_ble_eq_true rfl) rfl rfl (g_iinc rfl mzi_1 (Nat.le_of_ble_eq_true rfl) rfl (g_goto (tg := 12) rfl ms_239_12 ?_))))
  refine g_weak ?_ (g_cl (hc1 ((v6 + (mz_gL N 76 v8)), (v8 + 1), N) hC))
  exact ⟨rfl, rfl, rfl, rfl, rfl, rfl, rfl, rfl, trivial⟩
theorem cg_239_66 (hd : 2 ≤ d) (hS : mz_ext S 232) (hR : mz_rok R 232)  (s0 : Int64) (s1 : Int32) (v5 : Int32) (v6 : Int64) (v8 : Int32) (v9 : Int32) (N : mz_N) {C0 : (mz_N) → Prop} (hr : ∀ (N2 : mz_N), C0 N2 → Q (.inl none) (mz_k S R N2 b t)) {C1 : ((Int64 × Int32 × mz_N) ⊕ (mz_N)) → Prop} (hc1 : ∀ s2, C1 (.inl s2) → mz_G (d, mz_X0 L xs, none, [], mk_239, 13, Q) 12 mt_239_12 [(0, .ref 65), (1, .ref 2), (2, .ref 56), (3, .ref 208), (4, .ref 53), (5, .int v5), (6, .long s2.1), (8, .int s2.2.1)] [] false (mz_k S R s2.2.2 b t)) (hx1 : ∀ z, C1 (.inr z) → C0 z) (hp : cp_239_66 s0 s1 v5 v6 v8 v9 N) (hC : C1 (cf_239_66 s0 s1 v5 v6 v8 v9 N)) : mz_G (d, mz_X0 L xs, none, [], mk_239, 13, Q) 66 mt_239_66 [(0, .ref 65), (1, .ref 2), (2, .ref 56), (3, .ref 208), (4, .ref 53), (5, .int v5), (6, .long v6), (8, .int v8), (9, .int v9)] [.int s1, .long s0] false (mz_k S R N b t) := by
  unfold cf_239_66 at hC
  unfold cp_239_66 at hp
  refine g_i2l (g_lmul (g_aload_n rfl (g_getR (mz_at hS (Nat.le_of_ble_eq_true rfl) mzcS_65) mzcf_3_9 (mz_rb hR (Nat.le_of_ble_eq_true rfl) rfl mzcR_65_9) (g_iload rfl ?_))))
  obtain ⟨h1, hp⟩ := hp
  refine g_lald (mz_at hS (Nat.le_of_ble_eq_true rfl) mzcS_74) h1 (g_lsub (g_lstore (Nat.le_of_ble_eq_true rfl) rfl rfl (g_aload_n rfl (g_getR (mz_at hS (Nat.le_of_ble_eq_true rfl) mzcS_65) mzcf_3_11 (mz_rb hR (Nat.le_of_ble_eq_true rfl) rfl mzcR_65_11) (g_iload rfl (g_con3 (g_iload rfl ?_)))))))
  refine g_i2l (g_lmul (g_lconst mzl_0 (g_lload rfl (g_lmax (Nat.le_of_ble_eq_true rfl) (g_lmin (Nat.le_of_ble_eq_true rfl) ?_)))))
  obtain ⟨h2, hp⟩ := hp
  refine g_last (mz_at hS (Nat.le_of_ble_eq_true rfl) mzcS_76) h2 ?_
  refine g_weak ?_ (g_cl (cg_239_101 hd hS hR v5 v6 v8 (mz_wL N 76 v8 (mz_lmin (60 * v9.toInt64) (mz_lmax 0 ((s0 * s1.toInt64) - (mz_gL N 74 v8))))) hr hc1 hx1 hp hC))
  exact ⟨rfl, rfl, rfl, rfl, rfl, rfl, rfl, rfl, trivial⟩
theorem cg_239_248 (hd : 2 ≤ d) (hS : mz_ext S 232) (hR : mz_rok R 232)  (v5 : Int32) (v8 : Int64) (v10 : Int32) (N : mz_N) {C0 : (mz_N) → Prop} (hr : ∀ (N2 : mz_N), C0 N2 → Q (.inl none) (mz_k S R N2 b t)) {C1 : ((Int32 × mz_N) ⊕ (mz_N)) → Prop} (hc1 : ∀ s2, C1 (.inl s2) → mz_G (d, mz_X0 L xs, none, [], mk_239, 13, Q) 192 mt_239_192 [(0, .ref 65), (1, .ref 2), (2, .ref 56), (3, .ref 208), (5, .int v5), (8, .long v8), (10, .int s2.1)] [] false (mz_k S R s2.2 b t)) (hx1 : ∀ z, C1 (.inr z) → C0 z) (hp : cp_239_248 v5 v8 v10 N) (hC : C1 (cf_239_248 v5 v8 v10 N)) : mz_G (d, mz_X0 L xs, none, [], mk_239, 13, Q) 248 mt_239_248 [(0, .ref 65), (1, .ref 2), (2, .ref 56), (3, .ref 208), (5, .int v5), (8, .long v8), (10, .int v10)] [] false (mz_k S R N b t) := by
  unfold cf_239_248 at hC
  unfold cp_239_248 at hp
  refine g_iinc rfl mzi_1 (Nat.le_of_ble_eq_true rfl) rfl (g_goto (tg := 192) rfl ms_239_192 ?_)
  refine g_weak ?_ (g_cl (hc1 ((v10 + 1), N) hC))
  exact ⟨rfl, rfl, rfl, rfl, rfl, rfl, rfl, trivial⟩
theorem cg_239_291 (hd : 2 ≤ d) (hS : mz_ext S 232) (hR : mz_rok R 232)  (v8 : Int64) (N : mz_N) {C0 : (mz_N) → Prop} (hr : ∀ (N2 : mz_N), C0 N2 → Q (.inl none) (mz_k S R N2 b t)) (hp : cp_239_291 v8 N) (hC : C0 (cf_239_291 v8 N)) : mz_G (d, mz_X0 L xs, none, [], mk_239, 13, Q) 291 mt_239_291 [(2, .ref 56), (3, .ref 208), (8, .long v8)] [] false (mz_k S R N b t) := by
  unfold cf_239_291 at hC
  unfold cp_239_291 at hp
  refine g_aload_n rfl (g_dup rfl (g_getI (mz_at hS (Nat.le_of_ble_eq_true rfl) mzcS_208) mzcf_1_3 (g_con3 (g_lload rfl (g_lmul (g_con3 (g_ladd ?_)))))))
  refine g_con3 (g_ldiv (by decide) (g_l2i (g_iadd (g_putI (mz_at hS (Nat.le_of_ble_eq_true rfl) mzcS_208) mzcf_1_3 (g_aload_n rfl (g_lload rfl (g_l2i ?_)))))))
  refine g_putI (mz_at hS (Nat.le_of_ble_eq_true rfl) mzcS_56) mzcf_9_13 ?_
  exact g_vret rfl (hr _ hC)
theorem cb_239_192 (hd : 2 ≤ d) (hS : mz_ext S 232) (hR : mz_rok R 232)  (v5 : Int32) (v8 : Int64) (s : Int32 × mz_N) {C0 : (mz_N) → Prop} (hr : ∀ (N2 : mz_N), C0 N2 → Q (.inl none) (mz_k S R N2 b t)) {C1 : ((Int32 × mz_N) ⊕ (mz_N)) → Prop} (hc1 : ∀ s2, C1 (.inl s2) → mz_G (d, mz_X0 L xs, none, [], mk_239, 13, Q) 192 mt_239_192 [(0, .ref 65), (1, .ref 2), (2, .ref 56), (3, .ref 208), (5, .int v5), (8, .long v8), (10, .int s2.1)] [] false (mz_k S R s2.2 b t)) (hx1 : ∀ z, C1 (.inr z) → C0 z) (hp : cd_239_192 v5 v8 s) (hC : C1 (cq_239_192 v5 v8 s)) : mz_G (d, mz_X0 L xs, none, [], mk_239, 13, Q) 192 mt_239_192 [(0, .ref 65), (1, .ref 2), (2, .ref 56), (3, .ref 208), (5, .int v5), (8, .long v8), (10, .int s.1)] [] false (mz_k S R s.2 b t) := by
  unfold cq_239_192 at hC
  unfold cd_239_192 at hp
  refine g_iload rfl (g_iload rfl ?_)
  refine g_icge (tg := 254) rfl ms_239_254 hC (fun h1 hC => ?_) (fun h1 hC => ?_)
  · have hp := hp.1 h1
    refine g_aload_n rfl (g_getR (mz_at hS (Nat.le_of_ble_eq_true rfl) mzcS_65) mzcf_3_9 (mz_rb hR (Nat.le_of_ble_eq_true rfl) rfl mzcR_65_9) (g_iload rfl (g_dup2 rfl rfl ?_)))
    obtain ⟨h2, hp⟩ := hp
    refine g_lald (mz_at hS (Nat.le_of_ble_eq_true rfl) mzcS_74) h2 (g_aload_n rfl (g_getR (mz_at hS (Nat.le_of_ble_eq_true rfl) mzcS_65) mzcf_3_12 (mz_rb hR (Nat.le_of_ble_eq_true rfl) rfl mzcR_65_12) (g_iload rfl ?_)))
    obtain ⟨h3, hp⟩ := hp
    refine g_lald (mz_at hS (Nat.le_of_ble_eq_true rfl) mzcS_77) h3 (g_ladd ?_)
    obtain ⟨h4, hp⟩ := hp
    refine g_last (mz_at hS (Nat.le_of_ble_eq_true rfl) mzcS_74) h4 (g_aload_n rfl (g_getR (mz_at hS (Nat.le_of_ble_eq_true rfl) mzcS_208) mzcf_1_5 (mz_rb hR (Nat.le_of_ble_eq_true rfl) rfl mzcR_208_5) (g_iconst mzi_0 (g_aald4 (m := 210) (mz_at hS (Nat.le_of_ble_eq_true rfl) mzcS_209) (mz_ibd (by decide)) (mz_rb hR (Nat.le_of_ble_eq_true rfl) rfl mzcRr_209_0) (g_aload_n rfl (g_getR (mz_at hS (Nat.le_of_ble_eq_true rfl) mzcS_2) mzcf_5_9 (mz_rb hR (Nat.le_of_ble_eq_true rfl) rfl mzcR_2_9) (g_iconst mzi_3 ?_)))))))
    refine g_aald4 (m := 20) (mz_at hS (Nat.le_of_ble_eq_true rfl) mzcS_16) (mz_ibd (by decide)) (mz_rb hR (Nat.le_of_ble_eq_true rfl) rfl mzcRr_16_3) (g_iload rfl ?_)
    obtain ⟨h5, hp⟩ := hp
    refine g_iald hS.1 (mz_at hS (Nat.le_of_ble_eq_true rfl) mzcS_20) h5 (g_bipush mzb_10 (g_imin (Nat.le_of_ble_eq_true rfl) (g_dup2 rfl rfl ?_)))
    obtain ⟨h6, hp⟩ := hp
    refine g_iald hS.1 (mz_at hS (Nat.le_of_ble_eq_true rfl) mzcS_210) h6 (g_aload_n rfl (g_getR (mz_at hS (Nat.le_of_ble_eq_true rfl) mzcS_65) mzcf_3_12 (mz_rb hR (Nat.le_of_ble_eq_true rfl) rfl mzcR_65_12) (g_iload rfl ?_)))
    obtain ⟨h7, hp⟩ := hp
    refine g_lald (mz_at hS (Nat.le_of_ble_eq_true rfl) mzcS_77) h7 (g_l2i (g_iadd ?_))
    obtain ⟨h8, hp⟩ := hp
    refine g_iast (mz_at hS (Nat.le_of_ble_eq_true rfl) mzcS_210) h8 ?_
    refine g_weak ?_ (g_cl (cg_239_248 hd hS hR v5 v8 s.1 (mz_wI (mz_wL s.2 74 s.1 ((mz_gL s.2 74 s.1) + (mz_gL s.2 77 s.1))) 210 (mz_imin (mz_gI (mz_wL s.2 74 s.1 ((mz_gL s.2 74 s.1) + (mz_gL s.2 77 s.1))) 20 s.1) 10) ((mz_gI (mz_wL s.2 74 s.1 ((mz_gL s.2 74 s.1) + (mz_gL s.2 77 s.1))) 210 (mz_imin (mz_gI (mz_wL s.2 74 s.1 ((mz_gL s.2 74 s.1) + (mz_gL s.2 77 s.1))) 20 s.1) 10)) + ((mz_gL (mz_wL s.2 74 s.1 ((mz_gL s.2 74 s.1) + (mz_gL s.2 77 s.1))) 77 s.1).toInt32))) hr hc1 hx1 hp hC))
    exact ⟨rfl, rfl, rfl, rfl, rfl, rfl, rfl, trivial⟩
  · have hp := hp.2 h1
    refine g_aload_n rfl (g_dup rfl (g_getI (mz_at hS (Nat.le_of_ble_eq_true rfl) mzcS_56) mzcf_9_11 (g_aload_n rfl (g_getR (mz_at hS (Nat.le_of_ble_eq_true rfl) mzcS_65) mzcf_3_12 (mz_rb hR (Nat.le_of_ble_eq_true rfl) rfl mzcR_65_12) (g_iload rfl ?_)))))
    obtain ⟨h9, hp⟩ := hp
    refine g_lald (mz_at hS (Nat.le_of_ble_eq_true rfl) mzcS_77) h9 (g_l2i (g_iadd (g_putI (mz_at hS (Nat.le_of_ble_eq_true rfl) mzcS_56) mzcf_9_11 (g_aload_n rfl (g_getR (mz_at hS (Nat.le_of_ble_eq_true rfl) mzcS_208) mzcf_1_5 (mz_rb hR (Nat.le_of_ble_eq_true rfl) rfl mzcR_208_5) (g_iconst mzi_0 (g_aald4 (m := 210) (mz_at hS (Nat.le_of_ble_eq_true rfl) mzcS_209) (mz_ibd (by decide)) (mz_rb hR (Nat.le_of_ble_eq_true rfl) rfl mzcRr_209_0) ?_)))))))
    refine g_bipush mzb_10 (g_dup2 rfl rfl (g_iald hS.1 (mz_at hS (Nat.le_of_ble_eq_true rfl) mzcS_210) (mz_ibd (by decide)) (g_aload_n rfl (g_getR (mz_at hS (Nat.le_of_ble_eq_true rfl) mzcS_65) mzcf_3_12 (mz_rb hR (Nat.le_of_ble_eq_true rfl) rfl mzcR_65_12) (g_iload rfl ?_)))))
    obtain ⟨h10, hp⟩ := hp
    refine g_lald (mz_at hS (Nat.le_of_ble_eq_true rfl) mzcS_77) h10 (g_l2i (g_iadd (g_iast (mz_at hS (Nat.le_of_ble_eq_true rfl) mzcS_210) (mz_ibd (by decide)) ?_)))
    refine g_weak ?_ (g_cl (cg_239_291 hd hS hR v8 (mz_wI (mz_pI s.2 56 11 ((s.2.1 56 11) + ((mz_gL s.2 77 v5).toInt32))) 210 10 ((mz_gI (mz_pI s.2 56 11 ((s.2.1 56 11) + ((mz_gL s.2 77 v5).toInt32))) 210 10) + ((mz_gL (mz_pI s.2 56 11 ((s.2.1 56 11) + ((mz_gL s.2 77 v5).toInt32))) 77 v5).toInt32))) hr hp (hx1 _ hC)))
    exact ⟨rfl, rfl, rfl, trivial⟩
theorem cg_239_192 (hd : 2 ≤ d) (hS : mz_ext S 232) (hR : mz_rok R 232)  (v5 : Int32) (v8 : Int64) (v10 : Int32) (N : mz_N) {C0 : (mz_N) → Prop} (hr : ∀ (N2 : mz_N), C0 N2 → Q (.inl none) (mz_k S R N2 b t)) (hp : cp_239_192 v5 v8 v10 N) (hC : C0 (cf_239_192 v5 v8 v10 N)) : mz_G (d, mz_X0 L xs, none, [], mk_239, 13, Q) 192 mt_239_192 [(0, .ref 65), (1, .ref 2), (2, .ref 56), (3, .ref 208), (5, .int v5), (8, .long v8), (10, .int v10)] [] false (mz_k S R N b t) := by
  obtain ⟨n, hn⟩ := hp
  exact g_loop (G := fun s => mz_G (d, mz_X0 L xs, none, [], mk_239, 13, Q) 192 mt_239_192 [(0, .ref 65), (1, .ref 2), (2, .ref 56), (3, .ref 208), (5, .int v5), (8, .long v8), (10, .int s.1)] [] false (mz_k S R s.2 b t)) (C := C0) (fun C2 hc hx s hP hC => cb_239_192 hd hS hR v5 v8 s hr hc hx hP hC) n (v10, N) hn hC
theorem cg_239_189 (hd : 2 ≤ d) (hS : mz_ext S 232) (hR : mz_rok R 232)  (v5 : Int32) (v8 : Int64) (N : mz_N) {C0 : (mz_N) → Prop} (hr : ∀ (N2 : mz_N), C0 N2 → Q (.inl none) (mz_k S R N2 b t)) (hp : cp_239_189 v5 v8 N) (hC : C0 (cf_239_189 v5 v8 N)) : mz_G (d, mz_X0 L xs, none, [], mk_239, 13, Q) 189 mt_239_189 [(0, .ref 65), (1, .ref 2), (2, .ref 56), (3, .ref 208), (5, .int v5), (8, .long v8)] [] false (mz_k S R N b t) := by
  unfold cf_239_189 at hC
  unfold cp_239_189 at hp
  refine g_iconst mzi_0 (g_istore (Nat.le_of_ble_eq_true rfl) rfl ?_)
  refine g_weak ?_ (g_cl (cg_239_192 hd hS hR v5 v8 0 N hr hp hC))
  exact ⟨rfl, rfl, rfl, rfl, rfl, rfl, rfl, trivial⟩
theorem cb_239_12 (hd : 2 ≤ d) (hS : mz_ext S 232) (hR : mz_rok R 232)  (v5 : Int32) (s : Int64 × Int32 × mz_N) {C0 : (mz_N) → Prop} (hr : ∀ (N2 : mz_N), C0 N2 → Q (.inl none) (mz_k S R N2 b t)) {C1 : ((Int64 × Int32 × mz_N) ⊕ (mz_N)) → Prop} (hc1 : ∀ s2, C1 (.inl s2) → mz_G (d, mz_X0 L xs, none, [], mk_239, 13, Q) 12 mt_239_12 [(0, .ref 65), (1, .ref 2), (2, .ref 56), (3, .ref 208), (4, .ref 53), (5, .int v5), (6, .long s2.1), (8, .int s2.2.1)] [] false (mz_k S R s2.2.2 b t)) (hx1 : ∀ z, C1 (.inr z) → C0 z) (hp : cd_239_12 v5 s) (hC : C1 (cq_239_12 v5 s)) : mz_G (d, mz_X0 L xs, none, [], mk_239, 13, Q) 12 mt_239_12 [(0, .ref 65), (1, .ref 2), (2, .ref 56), (3, .ref 208), (4, .ref 53), (5, .int v5), (6, .long s.1), (8, .int s.2.1)] [] false (mz_k S R s.2.2 b t) := by
  unfold cq_239_12 at hC
  unfold cd_239_12 at hp
  refine g_iload rfl (g_iload rfl ?_)
  refine g_icge (tg := 119) rfl ms_239_119 hC (fun h1 hC => ?_) (fun h1 hC => ?_)
  · have hp := hp.1 h1
    refine g_aload_n rfl (g_getR (mz_at hS (Nat.le_of_ble_eq_true rfl) mzcS_2) mzcf_5_9 (mz_rb hR (Nat.le_of_ble_eq_true rfl) rfl mzcR_2_9) (g_iconst mzi_2 (g_aald4 (m := 19) (mz_at hS (Nat.le_of_ble_eq_true rfl) mzcS_16) (mz_ibd (by decide)) (mz_rb hR (Nat.le_of_ble_eq_true rfl) rfl mzcRr_16_2) (g_iload rfl ?_))))
    obtain ⟨h2, hp⟩ := hp
    refine g_iald hS.1 (mz_at hS (Nat.le_of_ble_eq_true rfl) mzcS_19) h2 (g_istore (Nat.le_of_ble_eq_true rfl) rfl (g_aload_n rfl (g_getR (mz_at hS (Nat.le_of_ble_eq_true rfl) mzcS_2) mzcf_5_9 (mz_rb hR (Nat.le_of_ble_eq_true rfl) rfl mzcR_2_9) (g_iconst mzi_3 (g_aald4 (m := 20) (mz_at hS (Nat.le_of_ble_eq_true rfl) mzcS_16) (mz_ibd (by decide)) (mz_rb hR (Nat.le_of_ble_eq_true rfl) rfl mzcRr_16_3) (g_iload rfl ?_))))))
    obtain ⟨h3, hp⟩ := hp
    refine g_iald hS.1 (mz_at hS (Nat.le_of_ble_eq_true rfl) mzcS_20) h3 (g_istore (Nat.le_of_ble_eq_true rfl) rfl (g_con3 (g_iload rfl (g_i2l (g_lmul (g_iload rfl (g_bipush mzb_10 ?_)))))))
    refine g_icge (tg := 63) rfl ms_239_63 hC (fun h4 hC => ?_) (fun h4 hC => ?_)
    · have hp := hp.1 h4
      refine g_aload rfl (g_iload rfl ?_)
      obtain ⟨h5, hp⟩ := hp
      refine g_iald hS.1 (mz_at hS (Nat.le_of_ble_eq_true rfl) mzcS_53) h5 (g_goto (tg := 66) rfl ms_239_66 ?_)
      refine g_weak ?_ (g_cl (cg_239_66 hd hS hR (100 * ((mz_gI s.2.2 19 s.2.1).toInt64)) (mz_gI s.2.2 53 (mz_gI s.2.2 20 s.2.1)) v5 s.1 s.2.1 (mz_gI s.2.2 19 s.2.1) s.2.2 hr hc1 hx1 hp hC))
      exact ⟨rfl, rfl, rfl, rfl, rfl, rfl, rfl, rfl, rfl, trivial⟩
    · have hp := hp.2 h4
      refine g_sipush mzs_150 ?_
      refine g_weak ?_ (g_cl (cg_239_66 hd hS hR (100 * ((mz_gI s.2.2 19 s.2.1).toInt64)) 150 v5 s.1 s.2.1 (mz_gI s.2.2 19 s.2.1) s.2.2 hr hc1 hx1 hp hC))
      exact ⟨rfl, rfl, rfl, rfl, rfl, rfl, rfl, rfl, rfl, trivial⟩
  · have hp := hp.2 h1
    refine g_aload_n rfl (g_getR (mz_at hS (Nat.le_of_ble_eq_true rfl) mzcS_65) mzcf_3_11 (mz_rb hR (Nat.le_of_ble_eq_true rfl) rfl mzcR_65_11) (g_iload rfl (g_sipush mzs_300 (g_sipush mzs_20000 (g_aload_n rfl (g_getI (mz_at hS (Nat.le_of_ble_eq_true rfl) mzcS_56) mzcf_9_11 (g_isub ?_)))))))
    refine g_imin (Nat.le_of_ble_eq_true rfl) (g_i2l ?_)
    obtain ⟨h6, hp⟩ := hp
    refine g_last (mz_at hS (Nat.le_of_ble_eq_true rfl) mzcS_76) h6 (g_lload rfl (g_aload_n rfl (g_getR (mz_at hS (Nat.le_of_ble_eq_true rfl) mzcS_65) mzcf_3_11 (mz_rb hR (Nat.le_of_ble_eq_true rfl) rfl mzcR_65_11) (g_iload rfl ?_))))
    obtain ⟨h7, hp⟩ := hp
    refine g_lald (mz_at hS (Nat.le_of_ble_eq_true rfl) mzcS_76) h7 (g_ladd (g_lstore (Nat.le_of_ble_eq_true rfl) rfl rfl (g_aload_n rfl (g_getR (mz_at hS (Nat.le_of_ble_eq_true rfl) mzcS_208) mzcf_1_8 (mz_rb hR (Nat.le_of_ble_eq_true rfl) rfl mzcR_208_8) (g_iconst mzi_0 (g_iald hS.1 (mz_at hS (Nat.le_of_ble_eq_true rfl) mzcS_215) (mz_ibd (by decide)) (g_i2l ?_)))))))
    refine g_lload rfl (g_lmin (Nat.le_of_ble_eq_true rfl) (g_lstore (Nat.le_of_ble_eq_true rfl) rfl rfl (g_lload rfl (g_aload_n rfl (g_getR (mz_at hS (Nat.le_of_ble_eq_true rfl) mzcS_65) mzcf_3_11 (mz_rb hR (Nat.le_of_ble_eq_true rfl) rfl mzcR_65_11) (g_iload rfl (g_iconst mzi_1 ?_)))))))
    refine g_iadd (g_aload_n rfl (g_getR (mz_at hS (Nat.le_of_ble_eq_true rfl) mzcS_65) mzcf_3_12 (mz_rb hR (Nat.le_of_ble_eq_true rfl) rfl mzcR_65_12) (g_aload_n rfl (g_getR (mz_at hS (Nat.le_of_ble_eq_true rfl) mzcS_65) mzcf_3_13 (mz_rb hR (Nat.le_of_ble_eq_true rfl) rfl mzcR_65_13) ?_))))
    obtain ⟨h8, hp⟩ := hp
    refine g_s5v (Nat.le_of_ble_eq_true rfl) (fun _ hq => cs_240 (Nat.le_trans (Nat.le_of_ble_eq_true rfl) hd) (hS.le (Nat.le_of_ble_eq_true rfl)) (hR.le (Nat.le_of_ble_eq_true rfl)) 76 41 77 41 78 41 (mz_at hS (Nat.le_of_ble_eq_true rfl) mzcS_76) (mz_at hS (Nat.le_of_ble_eq_true rfl) mzcS_77) (mz_at hS (Nat.le_of_ble_eq_true rfl) mzcS_78) (mz_lmin ((mz_gI (mz_wL s.2.2 76 v5 ((mz_imin 300 (20000 - (s.2.2.1 56 11))).toInt64)) 215 0).toInt64) (s.1 + (mz_gL (mz_wL s.2.2 76 v5 ((mz_imin 300 (20000 - (s.2.2.1 56 11))).toInt64)) 76 v5))) (v5 + 1) (mz_wL s.2.2 76 v5 ((mz_imin 300 (20000 - (s.2.2.1 56 11))).toInt64)) h8 hq) (g_pop rfl ?_)
    refine g_weak ?_ (g_cl (cg_239_189 hd hS hR v5 (mz_lmin ((mz_gI (mz_wL s.2.2 76 v5 ((mz_imin 300 (20000 - (s.2.2.1 56 11))).toInt64)) 215 0).toInt64) (s.1 + (mz_gL (mz_wL s.2.2 76 v5 ((mz_imin 300 (20000 - (s.2.2.1 56 11))).toInt64)) 76 v5))) ((cf_240_0 76 41 77 41 78 41 (mz_lmin ((mz_gI (mz_wL s.2.2 76 v5 ((mz_imin 300 (20000 - (s.2.2.1 56 11))).toInt64)) 215 0).toInt64) (s.1 + (mz_gL (mz_wL s.2.2 76 v5 ((mz_imin 300 (20000 - (s.2.2.1 56 11))).toInt64)) 76 v5))) (v5 + 1) (mz_wL s.2.2 76 v5 ((mz_imin 300 (20000 - (s.2.2.1 56 11))).toInt64))).2) hr hp (hx1 _ hC)))
    exact ⟨rfl, rfl, rfl, rfl, rfl, rfl, trivial⟩
theorem cg_239_12 (hd : 2 ≤ d) (hS : mz_ext S 232) (hR : mz_rok R 232)  (v5 : Int32) (v6 : Int64) (v8 : Int32) (N : mz_N) {C0 : (mz_N) → Prop} (hr : ∀ (N2 : mz_N), C0 N2 → Q (.inl none) (mz_k S R N2 b t)) (hp : cp_239_12 v5 v6 v8 N) (hC : C0 (cf_239_12 v5 v6 v8 N)) : mz_G (d, mz_X0 L xs, none, [], mk_239, 13, Q) 12 mt_239_12 [(0, .ref 65), (1, .ref 2), (2, .ref 56), (3, .ref 208), (4, .ref 53), (5, .int v5), (6, .long v6), (8, .int v8)] [] false (mz_k S R N b t) := by
  obtain ⟨n, hn⟩ := hp
  exact g_loop (G := fun s => mz_G (d, mz_X0 L xs, none, [], mk_239, 13, Q) 12 mt_239_12 [(0, .ref 65), (1, .ref 2), (2, .ref 56), (3, .ref 208), (4, .ref 53), (5, .int v5), (6, .long s.1), (8, .int s.2.1)] [] false (mz_k S R s.2.2 b t)) (C := C0) (fun C2 hc hx s hP hC => cb_239_12 hd hS hR v5 s hr hc hx hP hC) n (v6, v8, N) hn hC
theorem cg_239_0 (hd : 2 ≤ d) (hS : mz_ext S 232) (hR : mz_rok R 232)  (N : mz_N) {C0 : (mz_N) → Prop} (hr : ∀ (N2 : mz_N), C0 N2 → Q (.inl none) (mz_k S R N2 b t)) (hp : cp_239_0 N) (hC : C0 (cf_239_0 N)) : mz_G (d, mz_X0 L xs, none, [], mk_239, 13, Q) 0 mk_239 [(0, .ref 65), (1, .ref 2), (2, .ref 56), (3, .ref 208), (4, .ref 53)] [] true (mz_k S R N b t) := by
  unfold cf_239_0 at hC
  unfold cp_239_0 at hp
  refine g_aload_n rfl (g_getI (mz_at hS (Nat.le_of_ble_eq_true rfl) mzcS_2) mzcf_5_7 (g_istore (Nat.le_of_ble_eq_true rfl) rfl (g_lconst mzl_0 (g_lstore (Nat.le_of_ble_eq_true rfl) rfl rfl (g_iconst mzi_0 (g_istore (Nat.le_of_ble_eq_true rfl) rfl ?_))))))
  refine g_weak ?_ (g_cl (cg_239_12 hd hS hR (N.1 2 7) 0 0 N hr hp hC))
  exact ⟨rfl, rfl, rfl, rfl, rfl, rfl, rfl, rfl, trivial⟩
theorem cs_239 (hd : 3 ≤ d) (hS : mz_ext S 232) (hR : mz_rok R 232)  (N : mz_N) (hp : cp_239_0 N) (hq : Q (.inl none) (mz_k S R (cf_239_0 N) b t)) : mz_Ed (mz_X0 L xs) d 239 [.ref 65, .ref 2, .ref 56, .ref 208, .ref 53] (mz_k S R N b t) Q :=
  by
  refine g_in mzq_239 (Nat.le_of_ble_eq_true rfl) (Nat.le_of_ble_eq_true rfl) (Nat.le_trans (Nat.le_of_ble_eq_true rfl) hd) ?_
  refine g_weak ?_ (cg_239_0 (d := d - 1) (by omega) hS hR N (C0 := fun z => Q (.inl none) (mz_k S R z b t)) (fun _ h => h) hp hq)
  exact ⟨rfl, rfl, rfl, rfl, rfl, trivial⟩
/-! 243 KeptHouse$Climate.spread (LKeptHouse$Plan;[J)V -/
theorem ms_243_0 : mz_sf mk_243 0 = mk_243 := mz_sf_zero _
theorem ms_243_2 : mz_sf mk_243 2 = mt_243_2 := mz_sf_add ms_243_0 (t := 2) rfl rfl
theorem ms_243_31 : mz_sf mk_243 31 = mt_243_31 := mz_sf_add ms_243_2 (t := 29) rfl rfl
theorem ms_243_60 : mz_sf mk_243 60 = mt_243_60 := mz_sf_add ms_243_31 (t := 29) rfl rfl
theorem ms_243_63 : mz_sf mk_243 63 = mt_243_63 := mz_sf_add ms_243_60 (t := 3) rfl rfl
theorem ms_243_97 : mz_sf mk_243 97 = mt_243_97 := mz_sf_add ms_243_63 (t := 34) rfl rfl
theorem ms_243_99 : mz_sf mk_243 99 = mt_243_99 := mz_sf_add ms_243_97 (t := 2) rfl rfl
theorem ms_243_106 : mz_sf mk_243 106 = mt_243_106 := mz_sf_add ms_243_99 (t := 7) rfl rfl
theorem ms_243_112 : mz_sf mk_243 112 = mt_243_112 := mz_sf_add ms_243_106 (t := 6) rfl rfl
set_option maxRecDepth 100000 in
theorem mzq_243 : mz_PG0 243 = some (3, ⟨"KeptHouse$Climate", "spread", "(LKeptHouse$Plan;[J)V"⟩, prog_5_method_12_code, 11, none, [], mk_243, []) := rfl
theorem cg_243_99 (hd : 2 ≤ d) (hS : mz_ext S 232) (hR : mz_rok R 232) (a2 : Nat) (hs2 : S[a2]? = some (1, 240, [])) (s1 : Int32) (s2 : Int64) (v3 : Int32) (v4 : Int32) (v5 : Int32) (v6 : Int64) (v8 : Int64) (v10 : Int32) (N : mz_N) {C0 : (mz_N) → Prop} (hr : ∀ (N2 : mz_N), C0 N2 → Q (.inl none) (mz_k S R N2 b t)) {C1 : ((Int32 × mz_N) ⊕ (mz_N)) → Prop} (hc1 : ∀ s2, C1 (.inl s2) → mz_G (d, mz_X0 L xs, none, [], mk_243, 11, Q) 2 mt_243_2 [(0, .ref 65), (1, .ref 2), (2, .ref a2), (3, .int s2.1)] [] false (mz_k S R s2.2 b t)) (hx1 : ∀ z, C1 (.inr z) → C0 z) {C2 : ((Int32 × mz_N) ⊕ ((Int32 × mz_N) ⊕ (mz_N))) → Prop} (hc2 : ∀ s2, C2 (.inl s2) → mz_G (d, mz_X0 L xs, none, [], mk_243, 11, Q) 63 mt_243_63 [(0, .ref 65), (1, .ref 2), (2, .ref a2), (3, .int v3), (4, .int v4), (5, .int v5), (6, .long v6), (8, .long v8), (10, .int s2.1)] [] false (mz_k S R s2.2 b t)) (hx2 : ∀ z, C2 (.inr z) → C1 z) (hp : cp_243_99 a2 s1 s2 v3 v4 v5 v6 v8 v10 N) (hC : C2 (cf_243_99 a2 s1 s2 v3 v4 v5 v6 v8 v10 N)) : mz_G (d, mz_X0 L xs, none, [], mk_243, 11, Q) 99 mt_243_99 [(0, .ref 65), (1, .ref 2), (2, .ref a2), (3, .int v3), (4, .int v4), (5, .int v5), (6, .long v6), (8, .long v8), (10, .int v10)] [.long s2, .int s1, .ref a2] false (mz_k S R N b t) := by
  unfold cf_243_99 at hC
  unfold cp_243_99 at hp
  have h1 := hp
  refine g_last hs2 h1 (g_iinc rfl mzi_1 (Nat.le_of_ble_eq_true rfl) rfl (g_goto (tg := 63) rfl ms_243_63 ?_))
  refine g_weak ?_ (g_cl (hc2 ((v10 + 1), mz_wL N a2 s1 s2) hC))
  exact ⟨rfl, rfl, rfl, rfl, rfl, rfl, rfl, rfl, rfl, trivial⟩
theorem cb_243_63 (hd : 2 ≤ d) (hS : mz_ext S 232) (hR : mz_rok R 232) (a2 : Nat) (hs2 : S[a2]? = some (1, 240, [])) (v3 : Int32) (v4 : Int32) (v5 : Int32) (v6 : Int64) (v8 : Int64) (s : Int32 × mz_N) {C0 : (mz_N) → Prop} (hr : ∀ (N2 : mz_N), C0 N2 → Q (.inl none) (mz_k S R N2 b t)) {C1 : ((Int32 × mz_N) ⊕ (mz_N)) → Prop} (hc1 : ∀ s2, C1 (.inl s2) → mz_G (d, mz_X0 L xs, none, [], mk_243, 11, Q) 2 mt_243_2 [(0, .ref 65), (1, .ref 2), (2, .ref a2), (3, .int s2.1)] [] false (mz_k S R s2.2 b t)) (hx1 : ∀ z, C1 (.inr z) → C0 z) {C2 : ((Int32 × mz_N) ⊕ ((Int32 × mz_N) ⊕ (mz_N))) → Prop} (hc2 : ∀ s2, C2 (.inl s2) → mz_G (d, mz_X0 L xs, none, [], mk_243, 11, Q) 63 mt_243_63 [(0, .ref 65), (1, .ref 2), (2, .ref a2), (3, .int v3), (4, .int v4), (5, .int v5), (6, .long v6), (8, .long v8), (10, .int s2.1)] [] false (mz_k S R s2.2 b t)) (hx2 : ∀ z, C2 (.inr z) → C1 z) (hp : cd_243_63 a2 v3 v4 v5 v6 v8 s) (hC : C2 (cq_243_63 a2 v3 v4 v5 v6 v8 s)) : mz_G (d, mz_X0 L xs, none, [], mk_243, 11, Q) 63 mt_243_63 [(0, .ref 65), (1, .ref 2), (2, .ref a2), (3, .int v3), (4, .int v4), (5, .int v5), (6, .long v6), (8, .long v8), (10, .int s.1)] [] false (mz_k S R s.2 b t) := by
  unfold cq_243_63 at hC
  unfold cd_243_63 at hp
  refine g_iload rfl (g_iload rfl ?_)
  refine g_icge (tg := 106) rfl ms_243_106 hC (fun h1 hC => ?_) (fun h1 hC => ?_)
  · have hp := hp.1 h1
    refine g_aload_n rfl (g_aload_n rfl (g_getR (mz_at hS (Nat.le_of_ble_eq_true rfl) mzcS_2) mzcf_5_10 (mz_rb hR (Nat.le_of_ble_eq_true rfl) rfl mzcR_2_10) (g_iload rfl (g_iload rfl (g_iadd ?_)))))
    obtain ⟨h2, hp⟩ := hp
    refine g_iald hS.1 (mz_at hS (Nat.le_of_ble_eq_true rfl) mzcS_30) h2 (g_iload rfl (g_i2l (g_lload rfl (g_lcmp ?_))))
    refine g_lge (tg := 97) rfl ms_243_97 hC (fun h3 hC => ?_) (fun h3 hC => ?_)
    · have hp := hp.1 h3
      refine g_lload rfl (g_lconst mzl_1 (g_ladd (g_goto (tg := 99) rfl ms_243_99 ?_)))
      refine g_weak ?_ (g_cl (cg_243_99 hd hS hR a2 hs2 (mz_gI s.2 30 (v5 + s.1)) (v6 + 1) v3 v4 v5 v6 v8 s.1 s.2 hr hc1 hx1 hc2 hx2 hp hC))
      exact ⟨rfl, rfl, rfl, rfl, rfl, rfl, rfl, rfl, rfl, trivial⟩
    · have hp := hp.2 h3
      refine g_lload rfl ?_
      refine g_weak ?_ (g_cl (cg_243_99 hd hS hR a2 hs2 (mz_gI s.2 30 (v5 + s.1)) v6 v3 v4 v5 v6 v8 s.1 s.2 hr hc1 hx1 hc2 hx2 hp hC))
      exact ⟨rfl, rfl, rfl, rfl, rfl, rfl, rfl, rfl, rfl, trivial⟩
  · have hp := hp.2 h1
    refine g_iinc rfl mzi_1 (Nat.le_of_ble_eq_true rfl) rfl (g_goto (tg := 2) rfl ms_243_2 ?_)
    refine g_weak ?_ (g_cl (hc1 ((v3 + 1), s.2) (hx2 _ hC)))
    exact ⟨rfl, rfl, rfl, rfl, trivial⟩
theorem cg_243_63 (hd : 2 ≤ d) (hS : mz_ext S 232) (hR : mz_rok R 232) (a2 : Nat) (hs2 : S[a2]? = some (1, 240, [])) (v3 : Int32) (v4 : Int32) (v5 : Int32) (v6 : Int64) (v8 : Int64) (v10 : Int32) (N : mz_N) {C0 : (mz_N) → Prop} (hr : ∀ (N2 : mz_N), C0 N2 → Q (.inl none) (mz_k S R N2 b t)) {C1 : ((Int32 × mz_N) ⊕ (mz_N)) → Prop} (hc1 : ∀ s2, C1 (.inl s2) → mz_G (d, mz_X0 L xs, none, [], mk_243, 11, Q) 2 mt_243_2 [(0, .ref 65), (1, .ref 2), (2, .ref a2), (3, .int s2.1)] [] false (mz_k S R s2.2 b t)) (hx1 : ∀ z, C1 (.inr z) → C0 z) (hp : cp_243_63 a2 v3 v4 v5 v6 v8 v10 N) (hC : C1 (cf_243_63 a2 v3 v4 v5 v6 v8 v10 N)) : mz_G (d, mz_X0 L xs, none, [], mk_243, 11, Q) 63 mt_243_63 [(0, .ref 65), (1, .ref 2), (2, .ref a2), (3, .int v3), (4, .int v4), (5, .int v5), (6, .long v6), (8, .long v8), (10, .int v10)] [] false (mz_k S R N b t) := by
  obtain ⟨n, hn⟩ := hp
  exact g_loop (G := fun s => mz_G (d, mz_X0 L xs, none, [], mk_243, 11, Q) 63 mt_243_63 [(0, .ref 65), (1, .ref 2), (2, .ref a2), (3, .int v3), (4, .int v4), (5, .int v5), (6, .long v6), (8, .long v8), (10, .int s.1)] [] false (mz_k S R s.2 b t)) (C := C1) (fun C2 hc hx s hP hC => cb_243_63 hd hS hR a2 hs2 v3 v4 v5 v6 v8 s hr hc1 hx1 hc hx hP hC) n (v10, N) hn hC
theorem cb_243_2 (hd : 2 ≤ d) (hS : mz_ext S 232) (hR : mz_rok R 232) (a2 : Nat) (hs2 : S[a2]? = some (1, 240, []))  (s : Int32 × mz_N) {C0 : (mz_N) → Prop} (hr : ∀ (N2 : mz_N), C0 N2 → Q (.inl none) (mz_k S R N2 b t)) {C1 : ((Int32 × mz_N) ⊕ (mz_N)) → Prop} (hc1 : ∀ s2, C1 (.inl s2) → mz_G (d, mz_X0 L xs, none, [], mk_243, 11, Q) 2 mt_243_2 [(0, .ref 65), (1, .ref 2), (2, .ref a2), (3, .int s2.1)] [] false (mz_k S R s2.2 b t)) (hx1 : ∀ z, C1 (.inr z) → C0 z) (hp : cd_243_2 a2 s) (hC : C1 (cq_243_2 a2 s)) : mz_G (d, mz_X0 L xs, none, [], mk_243, 11, Q) 2 mt_243_2 [(0, .ref 65), (1, .ref 2), (2, .ref a2), (3, .int s.1)] [] false (mz_k S R s.2 b t) := by
  unfold cq_243_2 at hC
  unfold cd_243_2 at hp
  refine g_iload_n rfl (g_aload_n rfl (g_getI (mz_at hS (Nat.le_of_ble_eq_true rfl) mzcS_2) mzcf_5_7 ?_))
  refine g_icge (tg := 112) rfl ms_243_112 hC (fun h1 hC => ?_) (fun h1 hC => ?_)
  · have hp := hp.1 h1
    refine g_aload_n rfl (g_getR (mz_at hS (Nat.le_of_ble_eq_true rfl) mzcS_2) mzcf_5_9 (mz_rb hR (Nat.le_of_ble_eq_true rfl) rfl mzcR_2_9) (g_iconst mzi_2 (g_aald4 (m := 19) (mz_at hS (Nat.le_of_ble_eq_true rfl) mzcS_16) (mz_ibd (by decide)) (mz_rb hR (Nat.le_of_ble_eq_true rfl) rfl mzcRr_16_2) (g_iload_n rfl ?_))))
    obtain ⟨h2, hp⟩ := hp
    refine g_iald hS.1 (mz_at hS (Nat.le_of_ble_eq_true rfl) mzcS_19) h2 (g_istore (Nat.le_of_ble_eq_true rfl) rfl (g_aload_n rfl (g_getR (mz_at hS (Nat.le_of_ble_eq_true rfl) mzcS_2) mzcf_5_9 (mz_rb hR (Nat.le_of_ble_eq_true rfl) rfl mzcR_2_9) (g_bipush mzb_11 (g_aald4 (m := 28) (mz_at hS (Nat.le_of_ble_eq_true rfl) mzcS_16) (mz_ibd (by decide)) (mz_rb hR (Nat.le_of_ble_eq_true rfl) rfl mzcRr_16_11) (g_iload_n rfl ?_))))))
    obtain ⟨h3, hp⟩ := hp
    refine g_iald hS.1 (mz_at hS (Nat.le_of_ble_eq_true rfl) mzcS_28) h3 (g_istore (Nat.le_of_ble_eq_true rfl) rfl (g_aload_n rfl (g_getR (mz_at hS (Nat.le_of_ble_eq_true rfl) mzcS_65) mzcf_3_9 (mz_rb hR (Nat.le_of_ble_eq_true rfl) rfl mzcR_65_9) (g_iload_n rfl ?_))))
    obtain ⟨h4, hp⟩ := hp
    refine g_lald (mz_at hS (Nat.le_of_ble_eq_true rfl) mzcS_74) h4 (g_iconst mzi_1 (g_iload rfl ?_))
    obtain ⟨h5, hp⟩ := hp
    refine g_s3v (Nat.le_of_ble_eq_true rfl) (fun _ hq => cs_159 (Nat.le_trans (Nat.le_of_ble_eq_true rfl) hd) (hS.le (Nat.le_of_ble_eq_true rfl)) (hR.le (Nat.le_of_ble_eq_true rfl))  (mz_gL s.2 74 s.1) 1 (mz_gI s.2 19 s.1) h5 hq) (g_lstore (Nat.le_of_ble_eq_true rfl) rfl rfl (g_aload_n rfl (g_getR (mz_at hS (Nat.le_of_ble_eq_true rfl) mzcS_65) mzcf_3_9 (mz_rb hR (Nat.le_of_ble_eq_true rfl) rfl mzcR_65_9) (g_iload_n rfl ?_))))
    obtain ⟨h6, hp⟩ := hp
    refine g_lald (mz_at hS (Nat.le_of_ble_eq_true rfl) mzcS_74) h6 (g_lload rfl (g_iload rfl (g_i2l (g_lmul (g_lsub (g_lstore (Nat.le_of_ble_eq_true rfl) rfl rfl (g_iconst mzi_0 ?_)))))))
    refine g_istore (Nat.le_of_ble_eq_true rfl) rfl ?_
    refine g_weak ?_ (g_cl (cg_243_63 hd hS hR a2 hs2 s.1 (mz_gI s.2 19 s.1) (mz_gI s.2 28 s.1) (cf_159_0 (mz_gL s.2 74 s.1) 1 (mz_gI s.2 19 s.1)) ((mz_gL s.2 74 s.1) - ((cf_159_0 (mz_gL s.2 74 s.1) 1 (mz_gI s.2 19 s.1)) * ((mz_gI s.2 19 s.1).toInt64))) 0 s.2 hr hc1 hx1 hp hC))
    exact ⟨rfl, rfl, rfl, rfl, rfl, rfl, rfl, rfl, rfl, trivial⟩
  · have hp := hp.2 h1
    exact g_vret rfl (hr _ (hx1 _ hC))
theorem cg_243_2 (hd : 2 ≤ d) (hS : mz_ext S 232) (hR : mz_rok R 232) (a2 : Nat) (hs2 : S[a2]? = some (1, 240, [])) (v3 : Int32) (N : mz_N) {C0 : (mz_N) → Prop} (hr : ∀ (N2 : mz_N), C0 N2 → Q (.inl none) (mz_k S R N2 b t)) (hp : cp_243_2 a2 v3 N) (hC : C0 (cf_243_2 a2 v3 N)) : mz_G (d, mz_X0 L xs, none, [], mk_243, 11, Q) 2 mt_243_2 [(0, .ref 65), (1, .ref 2), (2, .ref a2), (3, .int v3)] [] false (mz_k S R N b t) := by
  obtain ⟨n, hn⟩ := hp
  exact g_loop (G := fun s => mz_G (d, mz_X0 L xs, none, [], mk_243, 11, Q) 2 mt_243_2 [(0, .ref 65), (1, .ref 2), (2, .ref a2), (3, .int s.1)] [] false (mz_k S R s.2 b t)) (C := C0) (fun C2 hc hx s hP hC => cb_243_2 hd hS hR a2 hs2 s hr hc hx hP hC) n (v3, N) hn hC
theorem cg_243_0 (hd : 2 ≤ d) (hS : mz_ext S 232) (hR : mz_rok R 232) (a2 : Nat) (hs2 : S[a2]? = some (1, 240, [])) (N : mz_N) {C0 : (mz_N) → Prop} (hr : ∀ (N2 : mz_N), C0 N2 → Q (.inl none) (mz_k S R N2 b t)) (hp : cp_243_0 a2 N) (hC : C0 (cf_243_0 a2 N)) : mz_G (d, mz_X0 L xs, none, [], mk_243, 11, Q) 0 mk_243 [(0, .ref 65), (1, .ref 2), (2, .ref a2)] [] true (mz_k S R N b t) := by
  unfold cf_243_0 at hC
  unfold cp_243_0 at hp
  refine g_iconst mzi_0 (g_istore_n (Nat.le_of_ble_eq_true rfl) rfl ?_)
  refine g_weak ?_ (g_cl (cg_243_2 hd hS hR a2 hs2 0 N hr hp hC))
  exact ⟨rfl, rfl, rfl, rfl, trivial⟩
theorem cs_243 (hd : 3 ≤ d) (hS : mz_ext S 232) (hR : mz_rok R 232) (a2 : Nat) (hs2 : S[a2]? = some (1, 240, [])) (N : mz_N) (hp : cp_243_0 a2 N) (hq : Q (.inl none) (mz_k S R (cf_243_0 a2 N) b t)) : mz_Ed (mz_X0 L xs) d 243 [.ref 65, .ref 2, .ref a2] (mz_k S R N b t) Q :=
  by
  refine g_in mzq_243 (Nat.le_of_ble_eq_true rfl) (Nat.le_of_ble_eq_true rfl) (Nat.le_trans (Nat.le_of_ble_eq_true rfl) hd) ?_
  refine g_weak ?_ (cg_243_0 (d := d - 1) (by omega) hS hR a2 hs2 N (C0 := fun z => Q (.inl none) (mz_k S R z b t)) (fun _ h => h) hp hq)
  exact ⟨rfl, rfl, rfl, trivial⟩
/-! 242 KeptHouse$Climate.settleHeat (LKeptHouse$Plan;)V -/
theorem ms_242_0 : mz_sf mk_242 0 = mk_242 := mz_sf_zero _
set_option maxRecDepth 100000 in
theorem mzq_242 : mz_PG0 242 = some (3, ⟨"KeptHouse$Climate", "settleHeat", "(LKeptHouse$Plan;)V"⟩, prog_5_method_17_code, 2, none, [], mk_242, []) := rfl
theorem cg_242_0 (hd : 3 ≤ d) (hS : mz_ext S 232) (hR : mz_rok R 232)  (N : mz_N) {C0 : (mz_N) → Prop} (hr : ∀ (N2 : mz_N), C0 N2 → Q (.inl none) (mz_k S R N2 b t)) (hp : cp_242_0 N) (hC : C0 (cf_242_0 N)) : mz_G (d, mz_X0 L xs, none, [], mk_242, 2, Q) 0 mk_242 [(0, .ref 65), (1, .ref 2)] [] true (mz_k S R N b t) := by
  unfold cf_242_0 at hC
  unfold cp_242_0 at hp
  refine g_aload_n rfl (g_aload_n rfl ?_)
  obtain ⟨h1, hp⟩ := hp
  refine g_v2n (Nat.le_of_ble_eq_true rfl) (mz_at hS (Nat.le_of_ble_eq_true rfl) mzcS_65) (fun _ hq => cs_236 (Nat.le_trans (Nat.le_of_ble_eq_true rfl) hd) (hS.le (Nat.le_of_ble_eq_true rfl)) (hR.le (Nat.le_of_ble_eq_true rfl))  N h1 hq) (g_aload_n rfl (g_aload_n rfl (g_aload_n rfl (g_getR (mz_at hS (Nat.le_of_ble_eq_true rfl) mzcS_65) mzcf_3_2 (mz_rb hR (Nat.le_of_ble_eq_true rfl) rfl mzcR_65_2) ?_))))
  have h2 := hp
  refine g_v3n (Nat.le_of_ble_eq_true rfl) (mz_at hS (Nat.le_of_ble_eq_true rfl) mzcS_65) (fun _ hq => cs_243 (Nat.le_trans (Nat.le_of_ble_eq_true rfl) hd) (hS.le (Nat.le_of_ble_eq_true rfl)) (hR.le (Nat.le_of_ble_eq_true rfl)) 68 (mz_at hS (Nat.le_of_ble_eq_true rfl) mzcS_68) (cf_236_0 N) h2 hq) ?_
  exact g_vret rfl (hr _ hC)
theorem cs_242 (hd : 4 ≤ d) (hS : mz_ext S 232) (hR : mz_rok R 232)  (N : mz_N) (hp : cp_242_0 N) (hq : Q (.inl none) (mz_k S R (cf_242_0 N) b t)) : mz_Ed (mz_X0 L xs) d 242 [.ref 65, .ref 2] (mz_k S R N b t) Q :=
  by
  refine g_in mzq_242 (Nat.le_of_ble_eq_true rfl) (Nat.le_of_ble_eq_true rfl) (Nat.le_trans (Nat.le_of_ble_eq_true rfl) hd) ?_
  refine g_weak ?_ (cg_242_0 (d := d - 1) (by omega) hS hR N (C0 := fun z => Q (.inl none) (mz_k S R z b t)) (fun _ h => h) hp hq)
  exact ⟨rfl, rfl, trivial⟩
/-! 233 KeptHouse.warm (I)V -/
theorem ms_233_0 : mz_sf mk_233 0 = mk_233 := mz_sf_zero _
theorem ms_233_28 : mz_sf mk_233 28 = mt_233_28 := mz_sf_add ms_233_0 (t := 28) rfl rfl
theorem ms_233_57 : mz_sf mk_233 57 = mt_233_57 := mz_sf_add ms_233_28 (t := 29) rfl rfl
theorem ms_233_91 : mz_sf mk_233 91 = mt_233_91 := mz_sf_add ms_233_57 (t := 34) rfl rfl
set_option maxRecDepth 100000 in
theorem mzq_233 : mz_PG0 233 = some (11, ⟨"KeptHouse", "warm", "(I)V"⟩, prog_1_method_79_code, 2, none, [], mk_233, []) := rfl
theorem cg_233_91 (hd : 4 ≤ d) (hS : mz_ext S 232) (hR : mz_rok R 232)  (N : mz_N) {C0 : (mz_N) → Prop} (hr : ∀ (N2 : mz_N), C0 N2 → Q (.inl none) (mz_k S R N2 b t)) (hp : cp_233_91 N) (hC : C0 (cf_233_91 N)) : mz_G (d, mz_X0 L xs, none, [], mk_233, 2, Q) 91 mt_233_91 [(0, .ref 0)] [] false (mz_k S R N b t) := by
  unfold cf_233_91 at hC
  unfold cp_233_91 at hp
  refine g_aload_n rfl (g_getR (mz_at hS (Nat.le_of_ble_eq_true rfl) mzcS_0) mzcf_11_4 (mz_rb hR (Nat.le_of_ble_eq_true rfl) rfl mzcR_0_4) (g_aload_n rfl (g_getR (mz_at hS (Nat.le_of_ble_eq_true rfl) mzcS_0) mzcf_11_1 (mz_rb hR (Nat.le_of_ble_eq_true rfl) rfl mzcR_0_1) ?_)))
  have h1 := hp
  refine g_v2n (Nat.le_of_ble_eq_true rfl) (mz_at hS (Nat.le_of_ble_eq_true rfl) mzcS_65) (fun _ hq => cs_242 (Nat.le_trans (Nat.le_of_ble_eq_true rfl) hd) (hS.le (Nat.le_of_ble_eq_true rfl)) (hR.le (Nat.le_of_ble_eq_true rfl))  N h1 hq) ?_
  exact g_vret rfl (hr _ hC)
theorem cg_233_0 (hd : 4 ≤ d) (hS : mz_ext S 232) (hR : mz_rok R 232)  (v1 : Int32) (N : mz_N) {C0 : (mz_N) → Prop} (hr : ∀ (N2 : mz_N), C0 N2 → Q (.inl none) (mz_k S R N2 b t)) (hp : cp_233_0 v1 N) (hC : C0 (cf_233_0 v1 N)) : mz_G (d, mz_X0 L xs, none, [], mk_233, 2, Q) 0 mk_233 [(0, .ref 0), (1, .int v1)] [] true (mz_k S R N b t) := by
  unfold cf_233_0 at hC
  unfold cp_233_0 at hp
  refine g_aload_n rfl (g_getR (mz_at hS (Nat.le_of_ble_eq_true rfl) mzcS_0) mzcf_11_4 (mz_rb hR (Nat.le_of_ble_eq_true rfl) rfl mzcR_0_4) (g_aload_n rfl (g_getR (mz_at hS (Nat.le_of_ble_eq_true rfl) mzcS_0) mzcf_11_1 (mz_rb hR (Nat.le_of_ble_eq_true rfl) rfl mzcR_0_1) (g_iload_n rfl ?_))))
  obtain ⟨h1, hp⟩ := hp
  refine g_v3n (Nat.le_of_ble_eq_true rfl) (mz_at hS (Nat.le_of_ble_eq_true rfl) mzcS_65) (fun _ hq => cs_234 (Nat.le_trans (Nat.le_of_ble_eq_true rfl) hd) (hS.le (Nat.le_of_ble_eq_true rfl)) (hR.le (Nat.le_of_ble_eq_true rfl))  v1 N h1 hq) (g_aload_n rfl (g_getR (mz_at hS (Nat.le_of_ble_eq_true rfl) mzcS_0) mzcf_11_4 (mz_rb hR (Nat.le_of_ble_eq_true rfl) rfl mzcR_0_4) (g_aload_n rfl (g_getR (mz_at hS (Nat.le_of_ble_eq_true rfl) mzcS_0) mzcf_11_1 (mz_rb hR (Nat.le_of_ble_eq_true rfl) rfl mzcR_0_1) (g_aload_n rfl (g_getR (mz_at hS (Nat.le_of_ble_eq_true rfl) mzcS_0) mzcf_11_3 (mz_rb hR (Nat.le_of_ble_eq_true rfl) rfl mzcR_0_3) (g_iload_n rfl ?_)))))))
  obtain ⟨h2, hp⟩ := hp
  refine g_v4n (Nat.le_of_ble_eq_true rfl) (mz_at hS (Nat.le_of_ble_eq_true rfl) mzcS_65) (fun _ hq => cs_237 (Nat.le_trans (Nat.le_of_ble_eq_true rfl) hd) (hS.le (Nat.le_of_ble_eq_true rfl)) (hR.le (Nat.le_of_ble_eq_true rfl))  v1 (cf_234_0 v1 N) h2 hq) (g_aload_n rfl (g_getR (mz_at hS (Nat.le_of_ble_eq_true rfl) mzcS_0) mzcf_11_3 (mz_rb hR (Nat.le_of_ble_eq_true rfl) rfl mzcR_0_3) (g_iconst mzi_0 (g_putI (mz_at hS (Nat.le_of_ble_eq_true rfl) mzcS_56) mzcf_9_13 (g_aload_n rfl (g_getR (mz_at hS (Nat.le_of_ble_eq_true rfl) mzcS_0) mzcf_11_10 (mz_rb hR (Nat.le_of_ble_eq_true rfl) rfl mzcR_0_10) (g_bipush mzb_11 ?_)))))))
  refine g_iald hS.1 (mz_at hS (Nat.le_of_ble_eq_true rfl) mzcS_53) (mz_ibd (by decide)) (g_iconst mzi_1 ?_)
  refine g_icne (tg := 91) rfl ms_233_91 hC (fun h3 hC => ?_) (fun h3 hC => ?_)
  · have hp := hp.1 h3
    refine g_aload_n rfl (g_getR (mz_at hS (Nat.le_of_ble_eq_true rfl) mzcS_0) mzcf_11_3 (mz_rb hR (Nat.le_of_ble_eq_true rfl) rfl mzcR_0_3) ?_)
    obtain ⟨h4, hp⟩ := hp
    refine g_getZ (mz_at hS (Nat.le_of_ble_eq_true rfl) mzcS_56) mzcf_9_6 h4 ?_
    refine g_zeq (tg := 91) rfl ms_233_91 hC (fun h5 hC => ?_) (fun h5 hC => ?_)
    · have hp := hp.1 h5
      refine g_aload_n rfl (g_getR (mz_at hS (Nat.le_of_ble_eq_true rfl) mzcS_0) mzcf_11_7 (mz_rb hR (Nat.le_of_ble_eq_true rfl) rfl mzcR_0_7) (g_iconst mzi_0 ?_))
      obtain ⟨h6, hp⟩ := hp
      refine g_v2v (Nat.le_of_ble_eq_true rfl) (mz_at hS (Nat.le_of_ble_eq_true rfl) mzcS_115) (fun _ hq => cs_224 (Nat.le_trans (Nat.le_of_ble_eq_true rfl) hd) (hS.le (Nat.le_of_ble_eq_true rfl)) (hR.le (Nat.le_of_ble_eq_true rfl))  0 (mz_pI (cf_237_0 v1 (cf_234_0 v1 N)) 56 13 0) h6 hq) ?_
      refine g_zeq (tg := 91) rfl ms_233_91 hC (fun h7 hC => ?_) (fun h7 hC => ?_)
      · have hp := hp.1 h7
        refine g_aload_n rfl (g_getR (mz_at hS (Nat.le_of_ble_eq_true rfl) mzcS_0) mzcf_11_4 (mz_rb hR (Nat.le_of_ble_eq_true rfl) rfl mzcR_0_4) (g_aload_n rfl (g_getR (mz_at hS (Nat.le_of_ble_eq_true rfl) mzcS_0) mzcf_11_1 (mz_rb hR (Nat.le_of_ble_eq_true rfl) rfl mzcR_0_1) (g_aload_n rfl (g_getR (mz_at hS (Nat.le_of_ble_eq_true rfl) mzcS_0) mzcf_11_3 (mz_rb hR (Nat.le_of_ble_eq_true rfl) rfl mzcR_0_3) (g_aload_n rfl (g_getR (mz_at hS (Nat.le_of_ble_eq_true rfl) mzcS_0) mzcf_11_8 (mz_rb hR (Nat.le_of_ble_eq_true rfl) rfl mzcR_0_8) ?_)))))))
        refine g_aload_n rfl (g_getR (mz_at hS (Nat.le_of_ble_eq_true rfl) mzcS_0) mzcf_11_10 (mz_rb hR (Nat.le_of_ble_eq_true rfl) rfl mzcR_0_10) ?_)
        obtain ⟨h8, hp⟩ := hp
        refine g_v5n (Nat.le_of_ble_eq_true rfl) (mz_at hS (Nat.le_of_ble_eq_true rfl) mzcS_65) (fun _ hq => cs_239 (Nat.le_trans (Nat.le_of_ble_eq_true rfl) hd) (hS.le (Nat.le_of_ble_eq_true rfl)) (hR.le (Nat.le_of_ble_eq_true rfl))  (mz_pI (cf_237_0 v1 (cf_234_0 v1 N)) 56 13 0) h8 hq) ?_
        refine g_weak ?_ (g_cl (cg_233_91 hd hS hR (cf_239_0 (mz_pI (cf_237_0 v1 (cf_234_0 v1 N)) 56 13 0)) hr hp hC))
        exact ⟨rfl, trivial⟩
      · have hp := hp.2 h7
        refine g_weak ?_ (g_cl (cg_233_91 hd hS hR (mz_pI (cf_237_0 v1 (cf_234_0 v1 N)) 56 13 0) hr hp hC))
        exact ⟨rfl, trivial⟩
    · have hp := hp.2 h5
      refine g_weak ?_ (g_cl (cg_233_91 hd hS hR (mz_pI (cf_237_0 v1 (cf_234_0 v1 N)) 56 13 0) hr hp hC))
      exact ⟨rfl, trivial⟩
  · have hp := hp.2 h3
    refine g_weak ?_ (g_cl (cg_233_91 hd hS hR (mz_pI (cf_237_0 v1 (cf_234_0 v1 N)) 56 13 0) hr hp hC))
    exact ⟨rfl, trivial⟩
theorem cs_233 (hd : 5 ≤ d) (hS : mz_ext S 232) (hR : mz_rok R 232)  (v1 : Int32) (N : mz_N) (hp : cp_233_0 v1 N) (hq : Q (.inl none) (mz_k S R (cf_233_0 v1 N) b t)) : mz_Ed (mz_X0 L xs) d 233 [.ref 0, .int v1] (mz_k S R N b t) Q :=
  by
  refine g_in mzq_233 (Nat.le_of_ble_eq_true rfl) (Nat.le_of_ble_eq_true rfl) (Nat.le_trans (Nat.le_of_ble_eq_true rfl) hd) ?_
  refine g_weak ?_ (cg_233_0 (d := d - 1) (by omega) hS hR v1 N (C0 := fun z => Q (.inl none) (mz_k S R z b t)) (fun _ h => h) hp hq)
  exact ⟨rfl, rfl, trivial⟩
/-! 245 KeptHouse$Climate.ventilate (LKeptHouse$Plan;I)V -/
theorem ms_245_0 : mz_sf mk_245 0 = mk_245 := mz_sf_zero _
theorem ms_245_2 : mz_sf mk_245 2 = mt_245_2 := mz_sf_add ms_245_0 (t := 2) rfl rfl
theorem ms_245_43 : mz_sf mk_245 43 = mt_245_43 := mz_sf_add ms_245_2 (t := 41) rfl rfl
theorem ms_245_49 : mz_sf mk_245 49 = mt_245_49 := mz_sf_add ms_245_43 (t := 6) rfl rfl
set_option maxRecDepth 100000 in
theorem mzq_245 : mz_PG0 245 = some (3, ⟨"KeptHouse$Climate", "ventilate", "(LKeptHouse$Plan;I)V"⟩, prog_5_method_19_code, 4, none, [], mk_245, []) := rfl
theorem cg_245_43 (hd : 0 ≤ d) (hS : mz_ext S 232) (hR : mz_rok R 232)  (v2 : Int32) (v3 : Int32) (N : mz_N) {C0 : (mz_N) → Prop} (hr : ∀ (N2 : mz_N), C0 N2 → Q (.inl none) (mz_k S R N2 b t)) {C1 : ((Int32 × mz_N) ⊕ (mz_N)) → Prop} (hc1 : ∀ s2, C1 (.inl s2) → mz_G (d, mz_X0 L xs, none, [], mk_245, 4, Q) 2 mt_245_2 [(0, .ref 65), (1, .ref 2), (2, .int v2), (3, .int s2.1)] [] false (mz_k S R s2.2 b t)) (hx1 : ∀ z, C1 (.inr z) → C0 z) (hp : cp_245_43 v2 v3 N) (hC : C1 (cf_245_43 v2 v3 N)) : mz_G (d, mz_X0 L xs, none, [], mk_245, 4, Q) 43 mt_245_43 [(0, .ref 65), (1, .ref 2), (2, .int v2), (3, .int v3)] [] false (mz_k S R N b t) := by
  unfold cf_245_43 at hC
  unfold cp_245_43 at hp
  refine g_iinc rfl mzi_1 (Nat.le_of_ble_eq_true rfl) rfl (g_goto (tg := 2) rfl ms_245_2 ?_)
  refine g_weak ?_ (g_cl (hc1 ((v3 + 1), N) hC))
  exact ⟨rfl, rfl, rfl, rfl, trivial⟩
theorem cb_245_2 (hd : 0 ≤ d) (hS : mz_ext S 232) (hR : mz_rok R 232)  (v2 : Int32) (s : Int32 × mz_N) {C0 : (mz_N) → Prop} (hr : ∀ (N2 : mz_N), C0 N2 → Q (.inl none) (mz_k S R N2 b t)) {C1 : ((Int32 × mz_N) ⊕ (mz_N)) → Prop} (hc1 : ∀ s2, C1 (.inl s2) → mz_G (d, mz_X0 L xs, none, [], mk_245, 4, Q) 2 mt_245_2 [(0, .ref 65), (1, .ref 2), (2, .int v2), (3, .int s2.1)] [] false (mz_k S R s2.2 b t)) (hx1 : ∀ z, C1 (.inr z) → C0 z) (hp : cd_245_2 v2 s) (hC : C1 (cq_245_2 v2 s)) : mz_G (d, mz_X0 L xs, none, [], mk_245, 4, Q) 2 mt_245_2 [(0, .ref 65), (1, .ref 2), (2, .int v2), (3, .int s.1)] [] false (mz_k S R s.2 b t) := by
  unfold cq_245_2 at hC
  unfold cd_245_2 at hp
  refine g_iload_n rfl (g_aload_n rfl (g_getI (mz_at hS (Nat.le_of_ble_eq_true rfl) mzcS_2) mzcf_5_7 ?_))
  refine g_icge (tg := 49) rfl ms_245_49 hC (fun h1 hC => ?_) (fun h1 hC => ?_)
  · have hp := hp.1 h1
    refine g_aload_n rfl (g_getR (mz_at hS (Nat.le_of_ble_eq_true rfl) mzcS_65) mzcf_3_9 (mz_rb hR (Nat.le_of_ble_eq_true rfl) rfl mzcR_65_9) (g_iload_n rfl (g_dup2 rfl rfl ?_)))
    obtain ⟨h2, hp⟩ := hp
    refine g_lald (mz_at hS (Nat.le_of_ble_eq_true rfl) mzcS_74) h2 (g_aload_n rfl (g_getR (mz_at hS (Nat.le_of_ble_eq_true rfl) mzcS_65) mzcf_3_9 (mz_rb hR (Nat.le_of_ble_eq_true rfl) rfl mzcR_65_9) (g_iload_n rfl ?_)))
    obtain ⟨h3, hp⟩ := hp
    refine g_lald (mz_at hS (Nat.le_of_ble_eq_true rfl) mzcS_74) h3 (g_iconst mzi_2 (g_aload_n rfl (g_getR (mz_at hS (Nat.le_of_ble_eq_true rfl) mzcS_2) mzcf_5_9 (mz_rb hR (Nat.le_of_ble_eq_true rfl) rfl mzcR_2_9) (g_iconst mzi_5 (g_aald4 (m := 22) (mz_at hS (Nat.le_of_ble_eq_true rfl) mzcS_16) (mz_ibd (by decide)) (mz_rb hR (Nat.le_of_ble_eq_true rfl) rfl mzcRr_16_5) (g_iload_n rfl ?_))))))
    obtain ⟨h4, hp⟩ := hp
    refine g_iald hS.1 (mz_at hS (Nat.le_of_ble_eq_true rfl) mzcS_22) h4 (g_imul (g_iload_n rfl (g_iadd (g_i2l (g_lmul (g_con3 (g_ldiv (by decide) ?_)))))))
    refine g_lsub ?_
    obtain ⟨h5, hp⟩ := hp
    refine g_last (mz_at hS (Nat.le_of_ble_eq_true rfl) mzcS_74) h5 ?_
    refine g_weak ?_ (g_cl (cg_245_43 hd hS hR v2 s.1 (mz_wL s.2 74 s.1 ((mz_gL s.2 74 s.1) - (((mz_gL s.2 74 s.1) * (((2 * (mz_gI s.2 22 s.1)) + v2).toInt64)) / 1000))) hr hc1 hx1 hp hC))
    exact ⟨rfl, rfl, rfl, rfl, trivial⟩
  · have hp := hp.2 h1
    exact g_vret rfl (hr _ (hx1 _ hC))
theorem cg_245_2 (hd : 0 ≤ d) (hS : mz_ext S 232) (hR : mz_rok R 232)  (v2 : Int32) (v3 : Int32) (N : mz_N) {C0 : (mz_N) → Prop} (hr : ∀ (N2 : mz_N), C0 N2 → Q (.inl none) (mz_k S R N2 b t)) (hp : cp_245_2 v2 v3 N) (hC : C0 (cf_245_2 v2 v3 N)) : mz_G (d, mz_X0 L xs, none, [], mk_245, 4, Q) 2 mt_245_2 [(0, .ref 65), (1, .ref 2), (2, .int v2), (3, .int v3)] [] false (mz_k S R N b t) := by
  obtain ⟨n, hn⟩ := hp
  exact g_loop (G := fun s => mz_G (d, mz_X0 L xs, none, [], mk_245, 4, Q) 2 mt_245_2 [(0, .ref 65), (1, .ref 2), (2, .int v2), (3, .int s.1)] [] false (mz_k S R s.2 b t)) (C := C0) (fun C2 hc hx s hP hC => cb_245_2 hd hS hR v2 s hr hc hx hP hC) n (v3, N) hn hC
theorem cg_245_0 (hd : 0 ≤ d) (hS : mz_ext S 232) (hR : mz_rok R 232)  (v2 : Int32) (N : mz_N) {C0 : (mz_N) → Prop} (hr : ∀ (N2 : mz_N), C0 N2 → Q (.inl none) (mz_k S R N2 b t)) (hp : cp_245_0 v2 N) (hC : C0 (cf_245_0 v2 N)) : mz_G (d, mz_X0 L xs, none, [], mk_245, 4, Q) 0 mk_245 [(0, .ref 65), (1, .ref 2), (2, .int v2)] [] true (mz_k S R N b t) := by
  unfold cf_245_0 at hC
  unfold cp_245_0 at hp
  refine g_iconst mzi_0 (g_istore_n (Nat.le_of_ble_eq_true rfl) rfl ?_)
  refine g_weak ?_ (g_cl (cg_245_2 hd hS hR v2 0 N hr hp hC))
  exact ⟨rfl, rfl, rfl, rfl, trivial⟩
theorem cs_245 (hd : 1 ≤ d) (hS : mz_ext S 232) (hR : mz_rok R 232)  (v2 : Int32) (N : mz_N) (hp : cp_245_0 v2 N) (hq : Q (.inl none) (mz_k S R (cf_245_0 v2 N) b t)) : mz_Ed (mz_X0 L xs) d 245 [.ref 65, .ref 2, .int v2] (mz_k S R N b t) Q :=
  by
  refine g_in mzq_245 (Nat.le_of_ble_eq_true rfl) (Nat.le_of_ble_eq_true rfl) (Nat.le_trans (Nat.le_of_ble_eq_true rfl) hd) ?_
  refine g_weak ?_ (cg_245_0 (d := d - 1) (by omega) hS hR v2 N (C0 := fun z => Q (.inl none) (mz_k S R z b t)) (fun _ h => h) hp hq)
  exact ⟨rfl, rfl, rfl, trivial⟩
/-! 246 KeptHouse$Climate.growMould (LKeptHouse$Plan;)V -/
theorem ms_246_0 : mz_sf mk_246 0 = mk_246 := mz_sf_zero _
theorem ms_246_2 : mz_sf mk_246 2 = mt_246_2 := mz_sf_add ms_246_0 (t := 2) rfl rfl
theorem ms_246_37 : mz_sf mk_246 37 = mt_246_37 := mz_sf_add ms_246_2 (t := 35) rfl rfl
theorem ms_246_54 : mz_sf mk_246 54 = mt_246_54 := mz_sf_add ms_246_37 (t := 17) rfl rfl
theorem ms_246_55 : mz_sf mk_246 55 = mt_246_55 := mz_sf_add ms_246_54 (t := 1) rfl rfl
theorem ms_246_82 : mz_sf mk_246 82 = mt_246_82 := mz_sf_add ms_246_55 (t := 27) rfl rfl
theorem ms_246_94 : mz_sf mk_246 94 = mt_246_94 := mz_sf_add ms_246_82 (t := 12) rfl rfl
theorem ms_246_95 : mz_sf mk_246 95 = mt_246_95 := mz_sf_add ms_246_94 (t := 1) rfl rfl
theorem ms_246_101 : mz_sf mk_246 101 = mt_246_101 := mz_sf_add ms_246_95 (t := 6) rfl rfl
set_option maxRecDepth 100000 in
theorem mzq_246 : mz_PG0 246 = some (3, ⟨"KeptHouse$Climate", "growMould", "(LKeptHouse$Plan;)V"⟩, prog_5_method_20_code, 4, none, [], mk_246, []) := rfl
theorem cg_246_95 (hd : 0 ≤ d) (hS : mz_ext S 232) (hR : mz_rok R 232)  (v2 : Int32) (N : mz_N) {C0 : (mz_N) → Prop} (hr : ∀ (N2 : mz_N), C0 N2 → Q (.inl none) (mz_k S R N2 b t)) {C1 : ((Int32 × mz_N) ⊕ (mz_N)) → Prop} (hc1 : ∀ s2, C1 (.inl s2) → mz_G (d, mz_X0 L xs, none, [], mk_246, 4, Q) 2 mt_246_2 [(0, .ref 65), (1, .ref 2), (2, .int s2.1)] [] false (mz_k S R s2.2 b t)) (hx1 : ∀ z, C1 (.inr z) → C0 z) (hp : cp_246_95 v2 N) (hC : C1 (cf_246_95 v2 N)) : mz_G (d, mz_X0 L xs, none, [], mk_246, 4, Q) 95 mt_246_95 [(0, .ref 65), (1, .ref 2), (2, .int v2)] [] false (mz_k S R N b t) := by
  unfold cf_246_95 at hC
  unfold cp_246_95 at hp
  refine g_iinc rfl mzi_1 (Nat.le_of_ble_eq_true rfl) rfl (g_goto (tg := 2) rfl ms_246_2 ?_)
  refine g_weak ?_ (g_cl (hc1 ((v2 + 1), N) hC))
  exact ⟨rfl, rfl, rfl, trivial⟩
theorem cg_246_94 (hd : 0 ≤ d) (hS : mz_ext S 232) (hR : mz_rok R 232)  (s1 : Int32) (s2 : Int32) (v2 : Int32) (N : mz_N) {C0 : (mz_N) → Prop} (hr : ∀ (N2 : mz_N), C0 N2 → Q (.inl none) (mz_k S R N2 b t)) {C1 : ((Int32 × mz_N) ⊕ (mz_N)) → Prop} (hc1 : ∀ s2, C1 (.inl s2) → mz_G (d, mz_X0 L xs, none, [], mk_246, 4, Q) 2 mt_246_2 [(0, .ref 65), (1, .ref 2), (2, .int s2.1)] [] false (mz_k S R s2.2 b t)) (hx1 : ∀ z, C1 (.inr z) → C0 z) (hp : cp_246_94 s1 s2 v2 N) (hC : C1 (cf_246_94 s1 s2 v2 N)) : mz_G (d, mz_X0 L xs, none, [], mk_246, 4, Q) 94 mt_246_94 [(0, .ref 65), (1, .ref 2), (2, .int v2)] [.int s2, .int s1, .ref 72] false (mz_k S R N b t) := by
  unfold cf_246_94 at hC
  unfold cp_246_94 at hp
  obtain ⟨h1, hp⟩ := hp
  refine g_iast (mz_at hS (Nat.le_of_ble_eq_true rfl) mzcS_72) h1 ?_
  refine g_weak ?_ (g_cl (cg_246_95 hd hS hR v2 (mz_wI N 72 s1 s2) hr hc1 hx1 hp hC))
  exact ⟨rfl, rfl, rfl, trivial⟩
theorem cg_246_55 (hd : 0 ≤ d) (hS : mz_ext S 232) (hR : mz_rok R 232)  (s0 : Bool) (v2 : Int32) (N : mz_N) {C0 : (mz_N) → Prop} (hr : ∀ (N2 : mz_N), C0 N2 → Q (.inl none) (mz_k S R N2 b t)) {C1 : ((Int32 × mz_N) ⊕ (mz_N)) → Prop} (hc1 : ∀ s2, C1 (.inl s2) → mz_G (d, mz_X0 L xs, none, [], mk_246, 4, Q) 2 mt_246_2 [(0, .ref 65), (1, .ref 2), (2, .int s2.1)] [] false (mz_k S R s2.2 b t)) (hx1 : ∀ z, C1 (.inr z) → C0 z) (hp : cp_246_55 s0 v2 N) (hC : C1 (cf_246_55 s0 v2 N)) : mz_G (d, mz_X0 L xs, none, [], mk_246, 4, Q) 55 mt_246_55 [(0, .ref 65), (1, .ref 2), (2, .int v2)] [.int (mz_b01 s0)] false (mz_k S R N b t) := by
  unfold cf_246_55 at hC
  unfold cp_246_55 at hp
  refine g_istore_n (Nat.le_of_ble_eq_true rfl) rfl (g_aload_n rfl (g_getR (mz_at hS (Nat.le_of_ble_eq_true rfl) mzcS_65) mzcf_3_6 (mz_rb hR (Nat.le_of_ble_eq_true rfl) rfl mzcR_65_6) (g_iload_n rfl (g_iload_n rfl ?_))))
  refine g_zeq (tg := 82) rfl ms_246_82 hC (fun h1 hC => ?_) (fun h1 hC => ?_)
  · have hp := hp.1 h1
    refine g_sipush mzs_1000 (g_aload_n rfl (g_getR (mz_at hS (Nat.le_of_ble_eq_true rfl) mzcS_65) mzcf_3_6 (mz_rb hR (Nat.le_of_ble_eq_true rfl) rfl mzcR_65_6) (g_iload_n rfl ?_)))
    obtain ⟨h2, hp⟩ := hp
    refine g_iald hS.1 (mz_at hS (Nat.le_of_ble_eq_true rfl) mzcS_72) h2 (g_iconst mzi_1 (g_iadd (g_imin (Nat.le_of_ble_eq_true rfl) (g_goto (tg := 94) rfl ms_246_94 ?_))))
    refine g_weak ?_ (g_cl (cg_246_94 hd hS hR v2 (mz_imin 1000 ((mz_gI N 72 v2) + 1)) v2 N hr hc1 hx1 hp hC))
    exact ⟨rfl, rfl, rfl, trivial⟩
  · have hp := hp.2 h1
    refine g_iconst mzi_0 (g_aload_n rfl (g_getR (mz_at hS (Nat.le_of_ble_eq_true rfl) mzcS_65) mzcf_3_6 (mz_rb hR (Nat.le_of_ble_eq_true rfl) rfl mzcR_65_6) (g_iload_n rfl ?_)))
    obtain ⟨h3, hp⟩ := hp
    refine g_iald hS.1 (mz_at hS (Nat.le_of_ble_eq_true rfl) mzcS_72) h3 (g_iconst mzi_1 (g_isub (g_imax (Nat.le_of_ble_eq_true rfl) ?_)))
    refine g_weak ?_ (g_cl (cg_246_94 hd hS hR v2 (mz_imax 0 ((mz_gI N 72 v2) - 1)) v2 N hr hc1 hx1 hp hC))
    exact ⟨rfl, rfl, rfl, trivial⟩
theorem cg_246_54 (hd : 0 ≤ d) (hS : mz_ext S 232) (hR : mz_rok R 232)  (v2 : Int32) (N : mz_N) {C0 : (mz_N) → Prop} (hr : ∀ (N2 : mz_N), C0 N2 → Q (.inl none) (mz_k S R N2 b t)) {C1 : ((Int32 × mz_N) ⊕ (mz_N)) → Prop} (hc1 : ∀ s2, C1 (.inl s2) → mz_G (d, mz_X0 L xs, none, [], mk_246, 4, Q) 2 mt_246_2 [(0, .ref 65), (1, .ref 2), (2, .int s2.1)] [] false (mz_k S R s2.2 b t)) (hx1 : ∀ z, C1 (.inr z) → C0 z) (hp : cp_246_54 v2 N) (hC : C1 (cf_246_54 v2 N)) : mz_G (d, mz_X0 L xs, none, [], mk_246, 4, Q) 54 mt_246_54 [(0, .ref 65), (1, .ref 2), (2, .int v2)] [] false (mz_k S R N b t) := by
  unfold cf_246_54 at hC
  unfold cp_246_54 at hp
  refine g_iconst mzi_0 ?_
  refine g_weak ?_ (g_cl (cg_246_55 hd hS hR false v2 N hr hc1 hx1 hp hC))
  exact ⟨rfl, rfl, rfl, trivial⟩
theorem cb_246_2 (hd : 0 ≤ d) (hS : mz_ext S 232) (hR : mz_rok R 232)   (s : Int32 × mz_N) {C0 : (mz_N) → Prop} (hr : ∀ (N2 : mz_N), C0 N2 → Q (.inl none) (mz_k S R N2 b t)) {C1 : ((Int32 × mz_N) ⊕ (mz_N)) → Prop} (hc1 : ∀ s2, C1 (.inl s2) → mz_G (d, mz_X0 L xs, none, [], mk_246, 4, Q) 2 mt_246_2 [(0, .ref 65), (1, .ref 2), (2, .int s2.1)] [] false (mz_k S R s2.2 b t)) (hx1 : ∀ z, C1 (.inr z) → C0 z) (hp : cd_246_2  s) (hC : C1 (cq_246_2  s)) : mz_G (d, mz_X0 L xs, none, [], mk_246, 4, Q) 2 mt_246_2 [(0, .ref 65), (1, .ref 2), (2, .int s.1)] [] false (mz_k S R s.2 b t) := by
  unfold cq_246_2 at hC
  unfold cd_246_2 at hp
  refine g_iload_n rfl (g_sipush mzs_240 ?_)
  refine g_icge (tg := 101) rfl ms_246_101 hC (fun h1 hC => ?_) (fun h1 hC => ?_)
  · have hp := hp.1 h1
    refine g_aload_n rfl (g_getR (mz_at hS (Nat.le_of_ble_eq_true rfl) mzcS_2) mzcf_5_14 (mz_rb hR (Nat.le_of_ble_eq_true rfl) rfl mzcR_2_14) (g_iload_n rfl ?_))
    obtain ⟨h2, hp⟩ := hp
    refine g_iald hS.1 (mz_at hS (Nat.le_of_ble_eq_true rfl) mzcS_36) h2 (g_iconst mzi_1 ?_)
    refine g_icne (tg := 95) rfl ms_246_95 hC (fun h3 hC => ?_) (fun h3 hC => ?_)
    · have hp := hp.1 h3
      refine g_aload_n rfl (g_getR (mz_at hS (Nat.le_of_ble_eq_true rfl) mzcS_65) mzcf_3_10 (mz_rb hR (Nat.le_of_ble_eq_true rfl) rfl mzcR_65_10) (g_aload_n rfl (g_getR (mz_at hS (Nat.le_of_ble_eq_true rfl) mzcS_2) mzcf_5_8 (mz_rb hR (Nat.le_of_ble_eq_true rfl) rfl mzcR_2_8) (g_iload_n rfl ?_))))
      obtain ⟨h4, hp⟩ := hp
      refine g_iald hS.1 (mz_at hS (Nat.le_of_ble_eq_true rfl) mzcS_15) h4 ?_
      obtain ⟨h5, hp⟩ := hp
      refine g_lald (mz_at hS (Nat.le_of_ble_eq_true rfl) mzcS_75) h5 (g_con3 (g_lcmp ?_))
      refine g_lge (tg := 54) rfl ms_246_54 hC (fun h6 hC => ?_) (fun h6 hC => ?_)
      · have hp := hp.1 h6
        refine g_aload_n rfl (g_getR (mz_at hS (Nat.le_of_ble_eq_true rfl) mzcS_65) mzcf_3_4 (mz_rb hR (Nat.le_of_ble_eq_true rfl) rfl mzcR_65_4) (g_iload_n rfl ?_))
        obtain ⟨h7, hp⟩ := hp
        refine g_lald (mz_at hS (Nat.le_of_ble_eq_true rfl) mzcS_70) h7 (g_con3 (g_lcmp ?_))
        refine g_lle (tg := 54) rfl ms_246_54 hC (fun h8 hC => ?_) (fun h8 hC => ?_)
        · have hp := hp.1 h8
          refine g_iconst mzi_1 (g_goto (tg := 55) rfl ms_246_55 ?_)
          refine g_weak ?_ (g_cl (cg_246_55 hd hS hR true s.1 s.2 hr hc1 hx1 hp hC))
          exact ⟨rfl, rfl, rfl, trivial⟩
        · have hp := hp.2 h8
          refine g_weak ?_ (g_cl (cg_246_54 hd hS hR s.1 s.2 hr hc1 hx1 hp hC))
          exact ⟨rfl, rfl, rfl, trivial⟩
      · have hp := hp.2 h6
        refine g_weak ?_ (g_cl (cg_246_54 hd hS hR s.1 s.2 hr hc1 hx1 hp hC))
        exact ⟨rfl, rfl, rfl, trivial⟩
    · have hp := hp.2 h3
      refine g_weak ?_ (g_cl (cg_246_95 hd hS hR s.1 s.2 hr hc1 hx1 hp hC))
      exact ⟨rfl, rfl, rfl, trivial⟩
  · have hp := hp.2 h1
    exact g_vret rfl (hr _ (hx1 _ hC))
theorem cg_246_2 (hd : 0 ≤ d) (hS : mz_ext S 232) (hR : mz_rok R 232)  (v2 : Int32) (N : mz_N) {C0 : (mz_N) → Prop} (hr : ∀ (N2 : mz_N), C0 N2 → Q (.inl none) (mz_k S R N2 b t)) (hp : cp_246_2 v2 N) (hC : C0 (cf_246_2 v2 N)) : mz_G (d, mz_X0 L xs, none, [], mk_246, 4, Q) 2 mt_246_2 [(0, .ref 65), (1, .ref 2), (2, .int v2)] [] false (mz_k S R N b t) := by
  obtain ⟨n, hn⟩ := hp
  exact g_loop (G := fun s => mz_G (d, mz_X0 L xs, none, [], mk_246, 4, Q) 2 mt_246_2 [(0, .ref 65), (1, .ref 2), (2, .int s.1)] [] false (mz_k S R s.2 b t)) (C := C0) (fun C2 hc hx s hP hC => cb_246_2 hd hS hR  s hr hc hx hP hC) n (v2, N) hn hC
theorem cg_246_0 (hd : 0 ≤ d) (hS : mz_ext S 232) (hR : mz_rok R 232)  (N : mz_N) {C0 : (mz_N) → Prop} (hr : ∀ (N2 : mz_N), C0 N2 → Q (.inl none) (mz_k S R N2 b t)) (hp : cp_246_0 N) (hC : C0 (cf_246_0 N)) : mz_G (d, mz_X0 L xs, none, [], mk_246, 4, Q) 0 mk_246 [(0, .ref 65), (1, .ref 2)] [] true (mz_k S R N b t) := by
  unfold cf_246_0 at hC
  unfold cp_246_0 at hp
  refine g_iconst mzi_0 (g_istore_n (Nat.le_of_ble_eq_true rfl) rfl ?_)
  refine g_weak ?_ (g_cl (cg_246_2 hd hS hR 0 N hr hp hC))
  exact ⟨rfl, rfl, rfl, trivial⟩
theorem cs_246 (hd : 1 ≤ d) (hS : mz_ext S 232) (hR : mz_rok R 232)  (N : mz_N) (hp : cp_246_0 N) (hq : Q (.inl none) (mz_k S R (cf_246_0 N) b t)) : mz_Ed (mz_X0 L xs) d 246 [.ref 65, .ref 2] (mz_k S R N b t) Q :=
  by
  refine g_in mzq_246 (Nat.le_of_ble_eq_true rfl) (Nat.le_of_ble_eq_true rfl) (Nat.le_trans (Nat.le_of_ble_eq_true rfl) hd) ?_
  refine g_weak ?_ (cg_246_0 (d := d - 1) (by omega) hS hR N (C0 := fun z => Q (.inl none) (mz_k S R z b t)) (fun _ h => h) hp hq)
  exact ⟨rfl, rfl, trivial⟩
/-! 244 KeptHouse$Climate.air (LKeptHouse$Plan;LKeptHouse$Supply;[II)V -/
theorem ms_244_0 : mz_sf mk_244 0 = mk_244 := mz_sf_zero _
theorem ms_244_12 : mz_sf mk_244 12 = mt_244_12 := mz_sf_add ms_244_0 (t := 12) rfl rfl
theorem ms_244_57 : mz_sf mk_244 57 = mt_244_57 := mz_sf_add ms_244_12 (t := 45) rfl rfl
theorem ms_244_63 : mz_sf mk_244 63 = mt_244_63 := mz_sf_add ms_244_57 (t := 6) rfl rfl
theorem ms_244_80 : mz_sf mk_244 80 = mt_244_80 := mz_sf_add ms_244_63 (t := 17) rfl rfl
theorem ms_244_81 : mz_sf mk_244 81 = mt_244_81 := mz_sf_add ms_244_80 (t := 1) rfl rfl
theorem ms_244_108 : mz_sf mk_244 108 = mt_244_108 := mz_sf_add ms_244_81 (t := 27) rfl rfl
theorem ms_244_111 : mz_sf mk_244 111 = mt_244_111 := mz_sf_add ms_244_108 (t := 3) rfl rfl
theorem ms_244_165 : mz_sf mk_244 165 = mt_244_165 := mz_sf_add ms_244_111 (t := 54) rfl rfl
theorem ms_244_171 : mz_sf mk_244 171 = mt_244_171 := mz_sf_add ms_244_165 (t := 6) rfl rfl
theorem ms_244_192 : mz_sf mk_244 192 = mt_244_192 := mz_sf_add ms_244_171 (t := 21) rfl rfl
set_option maxRecDepth 100000 in
theorem mzq_244 : mz_PG0 244 = some (3, ⟨"KeptHouse$Climate", "air", "(LKeptHouse$Plan;LKeptHouse$Supply;[II)V"⟩, prog_5_method_18_code, 7, none, [], mk_244, []) := rfl
theorem cg_244_165 (hd : 3 ≤ d) (hS : mz_ext S 232) (hR : mz_rok R 232)  (v4 : Int32) (v5 : Int32) (v6 : Int32) (N : mz_N) {C0 : (mz_N) → Prop} (hr : ∀ (N2 : mz_N), C0 N2 → Q (.inl none) (mz_k S R N2 b t)) {C1 : ((Int32 × mz_N) ⊕ (mz_N)) → Prop} (hc1 : ∀ s2, C1 (.inl s2) → mz_G (d, mz_X0 L xs, none, [], mk_244, 7, Q) 111 mt_244_111 [(0, .ref 65), (1, .ref 2), (2, .ref 56), (4, .int v4), (5, .int v5), (6, .int s2.1)] [] false (mz_k S R s2.2 b t)) (hx1 : ∀ z, C1 (.inr z) → C0 z) (hp : cp_244_165 v4 v5 v6 N) (hC : C1 (cf_244_165 v4 v5 v6 N)) : mz_G (d, mz_X0 L xs, none, [], mk_244, 7, Q) 165 mt_244_165 [(0, .ref 65), (1, .ref 2), (2, .ref 56), (4, .int v4), (5, .int v5), (6, .int v6)] [] false (mz_k S R N b t) := by
  unfold cf_244_165 at hC
  unfold cp_244_165 at hp
  refine g_iinc rfl mzi_1 (Nat.le_of_ble_eq_true rfl) rfl (g_goto (tg := 111) rfl ms_244_111 ?_)
  refine g_weak ?_ (g_cl (hc1 ((v6 + 1), N) hC))
  exact ⟨rfl, rfl, rfl, rfl, rfl, rfl, trivial⟩
theorem cb_244_111 (hd : 3 ≤ d) (hS : mz_ext S 232) (hR : mz_rok R 232)  (v4 : Int32) (v5 : Int32) (s : Int32 × mz_N) {C0 : (mz_N) → Prop} (hr : ∀ (N2 : mz_N), C0 N2 → Q (.inl none) (mz_k S R N2 b t)) {C1 : ((Int32 × mz_N) ⊕ (mz_N)) → Prop} (hc1 : ∀ s2, C1 (.inl s2) → mz_G (d, mz_X0 L xs, none, [], mk_244, 7, Q) 111 mt_244_111 [(0, .ref 65), (1, .ref 2), (2, .ref 56), (4, .int v4), (5, .int v5), (6, .int s2.1)] [] false (mz_k S R s2.2 b t)) (hx1 : ∀ z, C1 (.inr z) → C0 z) (hp : cd_244_111 v4 v5 s) (hC : C1 (cq_244_111 v4 v5 s)) : mz_G (d, mz_X0 L xs, none, [], mk_244, 7, Q) 111 mt_244_111 [(0, .ref 65), (1, .ref 2), (2, .ref 56), (4, .int v4), (5, .int v5), (6, .int s.1)] [] false (mz_k S R s.2 b t) := by
  unfold cq_244_111 at hC
  unfold cd_244_111 at hp
  refine g_iload rfl (g_bipush mzb_10 ?_)
  refine g_icge (tg := 171) rfl ms_244_171 hC (fun h1 hC => ?_) (fun h1 hC => ?_)
  · have hp := hp.1 h1
    refine g_aload_n rfl (g_getR (mz_at hS (Nat.le_of_ble_eq_true rfl) mzcS_2) mzcf_5_16 (mz_rb hR (Nat.le_of_ble_eq_true rfl) rfl mzcR_2_16) (g_iload rfl ?_))
    obtain ⟨h2, hp⟩ := hp
    refine g_iald hS.1 (mz_at hS (Nat.le_of_ble_eq_true rfl) mzcS_38) h2 (g_iconst mzi_m1 ?_)
    refine g_iceq (tg := 165) rfl ms_244_165 hC (fun h3 hC => ?_) (fun h3 hC => ?_)
    · have hp := hp.1 h3
      refine g_weak ?_ (g_cl (cg_244_165 hd hS hR v4 v5 s.1 s.2 hr hc1 hx1 hp hC))
      exact ⟨rfl, rfl, rfl, rfl, rfl, rfl, trivial⟩
    · have hp := hp.2 h3
      refine g_aload_n rfl (g_getR (mz_at hS (Nat.le_of_ble_eq_true rfl) mzcS_65) mzcf_3_9 (mz_rb hR (Nat.le_of_ble_eq_true rfl) rfl mzcR_65_9) (g_aload_n rfl (g_getR (mz_at hS (Nat.le_of_ble_eq_true rfl) mzcS_2) mzcf_5_16 (mz_rb hR (Nat.le_of_ble_eq_true rfl) rfl mzcR_2_16) (g_iload rfl ?_))))
      obtain ⟨h4, hp⟩ := hp
      refine g_iald hS.1 (mz_at hS (Nat.le_of_ble_eq_true rfl) mzcS_38) h4 (g_dup2 rfl rfl ?_)
      obtain ⟨h5, hp⟩ := hp
      refine g_lald (mz_at hS (Nat.le_of_ble_eq_true rfl) mzcS_74) h5 (g_iconst mzi_5 (g_aload_n rfl (g_iload rfl (g_iload rfl ?_))))
      obtain ⟨h6, hp⟩ := hp
      refine g_v3v (Nat.le_of_ble_eq_true rfl) (mz_at hS (Nat.le_of_ble_eq_true rfl) mzcS_2) (fun _ hq => cs_221 (Nat.le_trans (Nat.le_of_ble_eq_true rfl) hd) (hS.le (Nat.le_of_ble_eq_true rfl)) (hR.le (Nat.le_of_ble_eq_true rfl))  s.1 v4 s.2 h6 hq) (g_imul (g_iconst mzi_2 (g_aload_n rfl (g_getR (mz_at hS (Nat.le_of_ble_eq_true rfl) mzcS_56) mzcf_9_14 (mz_rb hR (Nat.le_of_ble_eq_true rfl) rfl mzcR_56_14) (g_iload rfl ?_)))))
      obtain ⟨h7, hp⟩ := hp
      refine g_iald hS.1 (mz_at hS (Nat.le_of_ble_eq_true rfl) mzcS_64) h7 (g_imul (g_iadd (g_i2l (g_ladd ?_))))
      obtain ⟨h8, hp⟩ := hp
      refine g_last (mz_at hS (Nat.le_of_ble_eq_true rfl) mzcS_74) h8 ?_
      refine g_weak ?_ (g_cl (cg_244_165 hd hS hR v4 v5 s.1 (mz_wL s.2 74 (mz_gI s.2 38 s.1) ((mz_gL s.2 74 (mz_gI s.2 38 s.1)) + (((5 * (cf_221_0 s.1 v4 s.2)) + (2 * (mz_gI s.2 64 s.1))).toInt64))) hr hc1 hx1 hp hC))
      exact ⟨rfl, rfl, rfl, rfl, rfl, rfl, trivial⟩
  · have hp := hp.2 h1
    refine g_aload_n rfl (g_aload_n rfl (g_iload rfl ?_))
    obtain ⟨h9, hp⟩ := hp
    refine g_v3n (Nat.le_of_ble_eq_true rfl) (mz_at hS (Nat.le_of_ble_eq_true rfl) mzcS_65) (fun _ hq => cs_245 (Nat.le_trans (Nat.le_of_ble_eq_true rfl) hd) (hS.le (Nat.le_of_ble_eq_true rfl)) (hR.le (Nat.le_of_ble_eq_true rfl))  v5 s.2 h9 hq) (g_aload_n rfl (g_aload_n rfl (g_aload_n rfl (g_getR (mz_at hS (Nat.le_of_ble_eq_true rfl) mzcS_65) mzcf_3_4 (mz_rb hR (Nat.le_of_ble_eq_true rfl) rfl mzcR_65_4) ?_))))
    obtain ⟨h10, hp⟩ := hp
    refine g_v3n (Nat.le_of_ble_eq_true rfl) (mz_at hS (Nat.le_of_ble_eq_true rfl) mzcS_65) (fun _ hq => cs_243 (Nat.le_trans (Nat.le_of_ble_eq_true rfl) hd) (hS.le (Nat.le_of_ble_eq_true rfl)) (hR.le (Nat.le_of_ble_eq_true rfl)) 70 (mz_at hS (Nat.le_of_ble_eq_true rfl) mzcS_70) (cf_245_0 v5 s.2) h10 hq) (g_aload_n rfl (g_aload_n rfl ?_))
    have h11 := hp
    refine g_v2n (Nat.le_of_ble_eq_true rfl) (mz_at hS (Nat.le_of_ble_eq_true rfl) mzcS_65) (fun _ hq => cs_246 (Nat.le_trans (Nat.le_of_ble_eq_true rfl) hd) (hS.le (Nat.le_of_ble_eq_true rfl)) (hR.le (Nat.le_of_ble_eq_true rfl))  (cf_243_0 70 (cf_245_0 v5 s.2)) h11 hq) ?_
    exact g_vret rfl (hr _ (hx1 _ hC))
theorem cg_244_111 (hd : 3 ≤ d) (hS : mz_ext S 232) (hR : mz_rok R 232)  (v4 : Int32) (v5 : Int32) (v6 : Int32) (N : mz_N) {C0 : (mz_N) → Prop} (hr : ∀ (N2 : mz_N), C0 N2 → Q (.inl none) (mz_k S R N2 b t)) (hp : cp_244_111 v4 v5 v6 N) (hC : C0 (cf_244_111 v4 v5 v6 N)) : mz_G (d, mz_X0 L xs, none, [], mk_244, 7, Q) 111 mt_244_111 [(0, .ref 65), (1, .ref 2), (2, .ref 56), (4, .int v4), (5, .int v5), (6, .int v6)] [] false (mz_k S R N b t) := by
  obtain ⟨n, hn⟩ := hp
  exact g_loop (G := fun s => mz_G (d, mz_X0 L xs, none, [], mk_244, 7, Q) 111 mt_244_111 [(0, .ref 65), (1, .ref 2), (2, .ref 56), (4, .int v4), (5, .int v5), (6, .int s.1)] [] false (mz_k S R s.2 b t)) (C := C0) (fun C2 hc hx s hP hC => cb_244_111 hd hS hR v4 v5 s hr hc hx hP hC) n (v6, N) hn hC
theorem cg_244_81 (hd : 3 ≤ d) (hS : mz_ext S 232) (hR : mz_rok R 232)  (s0 : Int32) (v4 : Int32) (N : mz_N) {C0 : (mz_N) → Prop} (hr : ∀ (N2 : mz_N), C0 N2 → Q (.inl none) (mz_k S R N2 b t)) (hp : cp_244_81 s0 v4 N) (hC : C0 (cf_244_81 s0 v4 N)) : mz_G (d, mz_X0 L xs, none, [], mk_244, 7, Q) 81 mt_244_81 [(0, .ref 65), (1, .ref 2), (2, .ref 56), (4, .int v4)] [.int s0] false (mz_k S R N b t) := by
  unfold cf_244_81 at hC
  unfold cp_244_81 at hp
  refine g_istore (Nat.le_of_ble_eq_true rfl) rfl (g_aload_n rfl (g_aload_n rfl (g_iload rfl ?_)))
  obtain ⟨h1, hp⟩ := hp
  refine g_v3n (Nat.le_of_ble_eq_true rfl) (mz_at hS (Nat.le_of_ble_eq_true rfl) mzcS_65) (fun _ hq => cs_245 (Nat.le_trans (Nat.le_of_ble_eq_true rfl) hd) (hS.le (Nat.le_of_ble_eq_true rfl)) (hR.le (Nat.le_of_ble_eq_true rfl))  s0 N h1 hq) (g_aload_n rfl (g_aload_n rfl (g_aload_n rfl (g_getR (mz_at hS (Nat.le_of_ble_eq_true rfl) mzcS_65) mzcf_3_3 (mz_rb hR (Nat.le_of_ble_eq_true rfl) rfl mzcR_65_3) ?_))))
  obtain ⟨h2, hp⟩ := hp
  refine g_v3n (Nat.le_of_ble_eq_true rfl) (mz_at hS (Nat.le_of_ble_eq_true rfl) mzcS_65) (fun _ hq => cs_243 (Nat.le_trans (Nat.le_of_ble_eq_true rfl) hd) (hS.le (Nat.le_of_ble_eq_true rfl)) (hR.le (Nat.le_of_ble_eq_true rfl)) 69 (mz_at hS (Nat.le_of_ble_eq_true rfl) mzcS_69) (cf_245_0 s0 N) h2 hq) (g_aload_n rfl (g_aload_n rfl (g_aload_n rfl (g_getR (mz_at hS (Nat.le_of_ble_eq_true rfl) mzcS_65) mzcf_3_4 (mz_rb hR (Nat.le_of_ble_eq_true rfl) rfl mzcR_65_4) ?_))))
  obtain ⟨h3, hp⟩ := hp
  refine g_v3n (Nat.le_of_ble_eq_true rfl) (mz_at hS (Nat.le_of_ble_eq_true rfl) mzcS_65) (fun _ hq => cs_235 (Nat.le_trans (Nat.le_of_ble_eq_true rfl) hd) (hS.le (Nat.le_of_ble_eq_true rfl)) (hR.le (Nat.le_of_ble_eq_true rfl)) 70 (mz_at hS (Nat.le_of_ble_eq_true rfl) mzcS_70) (cf_243_0 69 (cf_245_0 s0 N)) h3 hq) (g_iconst mzi_0 (g_istore (Nat.le_of_ble_eq_true rfl) rfl ?_))
  refine g_weak ?_ (g_cl (cg_244_111 hd hS hR v4 s0 0 (cf_235_0 70 (cf_243_0 69 (cf_245_0 s0 N))) hr hp hC))
  exact ⟨rfl, rfl, rfl, rfl, rfl, rfl, trivial⟩
theorem cg_244_57 (hd : 3 ≤ d) (hS : mz_ext S 232) (hR : mz_rok R 232)  (v4 : Int32) (v5 : Int32) (N : mz_N) {C0 : (mz_N) → Prop} (hr : ∀ (N2 : mz_N), C0 N2 → Q (.inl none) (mz_k S R N2 b t)) {C1 : ((Int32 × mz_N) ⊕ (mz_N)) → Prop} (hc1 : ∀ s2, C1 (.inl s2) → mz_G (d, mz_X0 L xs, none, [], mk_244, 7, Q) 12 mt_244_12 [(0, .ref 65), (1, .ref 2), (2, .ref 56), (3, .ref 53), (4, .int v4), (5, .int s2.1)] [] false (mz_k S R s2.2 b t)) (hx1 : ∀ z, C1 (.inr z) → C0 z) (hp : cp_244_57 v4 v5 N) (hC : C1 (cf_244_57 v4 v5 N)) : mz_G (d, mz_X0 L xs, none, [], mk_244, 7, Q) 57 mt_244_57 [(0, .ref 65), (1, .ref 2), (2, .ref 56), (3, .ref 53), (4, .int v4), (5, .int v5)] [] false (mz_k S R N b t) := by
  unfold cf_244_57 at hC
  unfold cp_244_57 at hp
  refine g_iinc rfl mzi_1 (Nat.le_of_ble_eq_true rfl) rfl (g_goto (tg := 12) rfl ms_244_12 ?_)
  refine g_weak ?_ (g_cl (hc1 ((v5 + 1), N) hC))
  exact ⟨rfl, rfl, rfl, rfl, rfl, rfl, trivial⟩
theorem cb_244_12 (hd : 3 ≤ d) (hS : mz_ext S 232) (hR : mz_rok R 232)  (v4 : Int32) (s : Int32 × mz_N) {C0 : (mz_N) → Prop} (hr : ∀ (N2 : mz_N), C0 N2 → Q (.inl none) (mz_k S R N2 b t)) {C1 : ((Int32 × mz_N) ⊕ (mz_N)) → Prop} (hc1 : ∀ s2, C1 (.inl s2) → mz_G (d, mz_X0 L xs, none, [], mk_244, 7, Q) 12 mt_244_12 [(0, .ref 65), (1, .ref 2), (2, .ref 56), (3, .ref 53), (4, .int v4), (5, .int s2.1)] [] false (mz_k S R s2.2 b t)) (hx1 : ∀ z, C1 (.inr z) → C0 z) (hp : cd_244_12 v4 s) (hC : C1 (cq_244_12 v4 s)) : mz_G (d, mz_X0 L xs, none, [], mk_244, 7, Q) 12 mt_244_12 [(0, .ref 65), (1, .ref 2), (2, .ref 56), (3, .ref 53), (4, .int v4), (5, .int s.1)] [] false (mz_k S R s.2 b t) := by
  unfold cq_244_12 at hC
  unfold cd_244_12 at hp
  refine g_iload rfl (g_bipush mzb_10 ?_)
  refine g_icge (tg := 63) rfl ms_244_63 hC (fun h1 hC => ?_) (fun h1 hC => ?_)
  · have hp := hp.1 h1
    refine g_aload_n rfl (g_getR (mz_at hS (Nat.le_of_ble_eq_true rfl) mzcS_2) mzcf_5_16 (mz_rb hR (Nat.le_of_ble_eq_true rfl) rfl mzcR_2_16) (g_iload rfl ?_))
    obtain ⟨h2, hp⟩ := hp
    refine g_iald hS.1 (mz_at hS (Nat.le_of_ble_eq_true rfl) mzcS_38) h2 (g_iconst mzi_m1 ?_)
    refine g_iceq (tg := 57) rfl ms_244_57 hC (fun h3 hC => ?_) (fun h3 hC => ?_)
    · have hp := hp.1 h3
      refine g_weak ?_ (g_cl (cg_244_57 hd hS hR v4 s.1 s.2 hr hc1 hx1 hp hC))
      exact ⟨rfl, rfl, rfl, rfl, rfl, rfl, trivial⟩
    · have hp := hp.2 h3
      refine g_aload_n rfl (g_getR (mz_at hS (Nat.le_of_ble_eq_true rfl) mzcS_65) mzcf_3_9 (mz_rb hR (Nat.le_of_ble_eq_true rfl) rfl mzcR_65_9) (g_aload_n rfl (g_getR (mz_at hS (Nat.le_of_ble_eq_true rfl) mzcS_2) mzcf_5_16 (mz_rb hR (Nat.le_of_ble_eq_true rfl) rfl mzcR_2_16) (g_iload rfl ?_))))
      obtain ⟨h4, hp⟩ := hp
      refine g_iald hS.1 (mz_at hS (Nat.le_of_ble_eq_true rfl) mzcS_38) h4 (g_dup2 rfl rfl ?_)
      obtain ⟨h5, hp⟩ := hp
      refine g_lald (mz_at hS (Nat.le_of_ble_eq_true rfl) mzcS_74) h5 (g_bipush mzb_20 (g_aload_n rfl (g_iload rfl (g_iload rfl ?_))))
      obtain ⟨h6, hp⟩ := hp
      refine g_v3v (Nat.le_of_ble_eq_true rfl) (mz_at hS (Nat.le_of_ble_eq_true rfl) mzcS_2) (fun _ hq => cs_221 (Nat.le_trans (Nat.le_of_ble_eq_true rfl) hd) (hS.le (Nat.le_of_ble_eq_true rfl)) (hR.le (Nat.le_of_ble_eq_true rfl))  s.1 v4 s.2 h6 hq) (g_imul (g_i2l (g_ladd ?_)))
      obtain ⟨h7, hp⟩ := hp
      refine g_last (mz_at hS (Nat.le_of_ble_eq_true rfl) mzcS_74) h7 ?_
      refine g_weak ?_ (g_cl (cg_244_57 hd hS hR v4 s.1 (mz_wL s.2 74 (mz_gI s.2 38 s.1) ((mz_gL s.2 74 (mz_gI s.2 38 s.1)) + ((20 * (cf_221_0 s.1 v4 s.2)).toInt64))) hr hc1 hx1 hp hC))
      exact ⟨rfl, rfl, rfl, rfl, rfl, rfl, trivial⟩
  · have hp := hp.2 h1
    refine g_aload_n rfl ?_
    obtain ⟨h8, hp⟩ := hp
    refine g_getZ (mz_at hS (Nat.le_of_ble_eq_true rfl) mzcS_56) mzcf_9_6 h8 ?_
    refine g_zeq (tg := 80) rfl ms_244_80 hC (fun h9 hC => ?_) (fun h9 hC => ?_)
    · have hp := hp.1 h9
      refine g_bipush mzb_10 (g_aload_n rfl (g_bipush mzb_13 (g_iald hS.1 (mz_at hS (Nat.le_of_ble_eq_true rfl) mzcS_53) (mz_ibd (by decide)) (g_imul (g_goto (tg := 81) rfl ms_244_81 ?_)))))
      refine g_weak ?_ (g_cl (cg_244_81 hd hS hR (10 * (mz_gI s.2 53 13)) v4 s.2 hr hp (hx1 _ hC)))
      exact ⟨rfl, rfl, rfl, rfl, trivial⟩
    · have hp := hp.2 h9
      refine g_iconst mzi_0 ?_
      refine g_weak ?_ (g_cl (cg_244_81 hd hS hR 0 v4 s.2 hr hp (hx1 _ hC)))
      exact ⟨rfl, rfl, rfl, rfl, trivial⟩
theorem cg_244_12 (hd : 3 ≤ d) (hS : mz_ext S 232) (hR : mz_rok R 232)  (v4 : Int32) (v5 : Int32) (N : mz_N) {C0 : (mz_N) → Prop} (hr : ∀ (N2 : mz_N), C0 N2 → Q (.inl none) (mz_k S R N2 b t)) (hp : cp_244_12 v4 v5 N) (hC : C0 (cf_244_12 v4 v5 N)) : mz_G (d, mz_X0 L xs, none, [], mk_244, 7, Q) 12 mt_244_12 [(0, .ref 65), (1, .ref 2), (2, .ref 56), (3, .ref 53), (4, .int v4), (5, .int v5)] [] false (mz_k S R N b t) := by
  obtain ⟨n, hn⟩ := hp
  exact g_loop (G := fun s => mz_G (d, mz_X0 L xs, none, [], mk_244, 7, Q) 12 mt_244_12 [(0, .ref 65), (1, .ref 2), (2, .ref 56), (3, .ref 53), (4, .int v4), (5, .int s.1)] [] false (mz_k S R s.2 b t)) (C := C0) (fun C2 hc hx s hP hC => cb_244_12 hd hS hR v4 s hr hc hx hP hC) n (v5, N) hn hC
theorem cg_244_0 (hd : 3 ≤ d) (hS : mz_ext S 232) (hR : mz_rok R 232)  (v4 : Int32) (N : mz_N) {C0 : (mz_N) → Prop} (hr : ∀ (N2 : mz_N), C0 N2 → Q (.inl none) (mz_k S R N2 b t)) (hp : cp_244_0 v4 N) (hC : C0 (cf_244_0 v4 N)) : mz_G (d, mz_X0 L xs, none, [], mk_244, 7, Q) 0 mk_244 [(0, .ref 65), (1, .ref 2), (2, .ref 56), (3, .ref 53), (4, .int v4)] [] true (mz_k S R N b t) := by
  unfold cf_244_0 at hC
  unfold cp_244_0 at hp
  refine g_aload_n rfl (g_aload_n rfl (g_aload_n rfl (g_getR (mz_at hS (Nat.le_of_ble_eq_true rfl) mzcS_65) mzcf_3_3 (mz_rb hR (Nat.le_of_ble_eq_true rfl) rfl mzcR_65_3) ?_)))
  obtain ⟨h1, hp⟩ := hp
  refine g_v3n (Nat.le_of_ble_eq_true rfl) (mz_at hS (Nat.le_of_ble_eq_true rfl) mzcS_65) (fun _ hq => cs_235 (Nat.le_trans (Nat.le_of_ble_eq_true rfl) hd) (hS.le (Nat.le_of_ble_eq_true rfl)) (hR.le (Nat.le_of_ble_eq_true rfl)) 69 (mz_at hS (Nat.le_of_ble_eq_true rfl) mzcS_69) N h1 hq) (g_iconst mzi_0 (g_istore (Nat.le_of_ble_eq_true rfl) rfl ?_))
  refine g_weak ?_ (g_cl (cg_244_12 hd hS hR v4 0 (cf_235_0 69 N) hr hp hC))
  exact ⟨rfl, rfl, rfl, rfl, rfl, rfl, trivial⟩
theorem cs_244 (hd : 4 ≤ d) (hS : mz_ext S 232) (hR : mz_rok R 232)  (v4 : Int32) (N : mz_N) (hp : cp_244_0 v4 N) (hq : Q (.inl none) (mz_k S R (cf_244_0 v4 N) b t)) : mz_Ed (mz_X0 L xs) d 244 [.ref 65, .ref 2, .ref 56, .ref 53, .int v4] (mz_k S R N b t) Q :=
  by
  refine g_in mzq_244 (Nat.le_of_ble_eq_true rfl) (Nat.le_of_ble_eq_true rfl) (Nat.le_trans (Nat.le_of_ble_eq_true rfl) hd) ?_
  refine g_weak ?_ (cg_244_0 (d := d - 1) (by omega) hS hR v4 N (C0 := fun z => Q (.inl none) (mz_k S R z b t)) (fun _ h => h) hp hq)
  exact ⟨rfl, rfl, rfl, rfl, rfl, trivial⟩
/-! 248 KeptHouse$Climate.growFlames ()V -/
theorem ms_248_0 : mz_sf mk_248 0 = mk_248 := mz_sf_zero _
theorem ms_248_2 : mz_sf mk_248 2 = mt_248_2 := mz_sf_add ms_248_0 (t := 2) rfl rfl
theorem ms_248_30 : mz_sf mk_248 30 = mt_248_30 := mz_sf_add ms_248_2 (t := 28) rfl rfl
theorem ms_248_48 : mz_sf mk_248 48 = mt_248_48 := mz_sf_add ms_248_30 (t := 18) rfl rfl
theorem ms_248_67 : mz_sf mk_248 67 = mt_248_67 := mz_sf_add ms_248_48 (t := 19) rfl rfl
theorem ms_248_87 : mz_sf mk_248 87 = mt_248_87 := mz_sf_add ms_248_67 (t := 20) rfl rfl
theorem ms_248_93 : mz_sf mk_248 93 = mt_248_93 := mz_sf_add ms_248_87 (t := 6) rfl rfl
set_option maxRecDepth 100000 in
theorem mzq_248 : mz_PG0 248 = some (3, ⟨"KeptHouse$Climate", "growFlames", "()V"⟩, prog_5_method_23_code, 2, none, [], mk_248, []) := rfl
theorem cg_248_87 (hd : 0 ≤ d) (hS : mz_ext S 232) (hR : mz_rok R 232)  (v1 : Int32) (N : mz_N) {C0 : (mz_N) → Prop} (hr : ∀ (N2 : mz_N), C0 N2 → Q (.inl none) (mz_k S R N2 b t)) {C1 : ((Int32 × mz_N) ⊕ (mz_N)) → Prop} (hc1 : ∀ s2, C1 (.inl s2) → mz_G (d, mz_X0 L xs, none, [], mk_248, 2, Q) 2 mt_248_2 [(0, .ref 65), (1, .int s2.1)] [] false (mz_k S R s2.2 b t)) (hx1 : ∀ z, C1 (.inr z) → C0 z) (hp : cp_248_87 v1 N) (hC : C1 (cf_248_87 v1 N)) : mz_G (d, mz_X0 L xs, none, [], mk_248, 2, Q) 87 mt_248_87 [(0, .ref 65), (1, .int v1)] [] false (mz_k S R N b t) := by
  unfold cf_248_87 at hC
  unfold cp_248_87 at hp
  refine g_iinc rfl mzi_1 (Nat.le_of_ble_eq_true rfl) rfl (g_goto (tg := 2) rfl ms_248_2 ?_)
  refine g_weak ?_ (g_cl (hc1 ((v1 + 1), N) hC))
  exact ⟨rfl, rfl, trivial⟩
theorem cg_248_48 (hd : 0 ≤ d) (hS : mz_ext S 232) (hR : mz_rok R 232)  (v1 : Int32) (N : mz_N) {C0 : (mz_N) → Prop} (hr : ∀ (N2 : mz_N), C0 N2 → Q (.inl none) (mz_k S R N2 b t)) {C1 : ((Int32 × mz_N) ⊕ (mz_N)) → Prop} (hc1 : ∀ s2, C1 (.inl s2) → mz_G (d, mz_X0 L xs, none, [], mk_248, 2, Q) 2 mt_248_2 [(0, .ref 65), (1, .int s2.1)] [] false (mz_k S R s2.2 b t)) (hx1 : ∀ z, C1 (.inr z) → C0 z) (hp : cp_248_48 v1 N) (hC : C1 (cf_248_48 v1 N)) : mz_G (d, mz_X0 L xs, none, [], mk_248, 2, Q) 48 mt_248_48 [(0, .ref 65), (1, .int v1)] [] false (mz_k S R N b t) := by
  unfold cf_248_48 at hC
  unfold cp_248_48 at hp
  refine g_aload_n rfl (g_getR (mz_at hS (Nat.le_of_ble_eq_true rfl) mzcS_65) mzcf_3_2 (mz_rb hR (Nat.le_of_ble_eq_true rfl) rfl mzcR_65_2) (g_iload_n rfl (g_dup2 rfl rfl ?_)))
  obtain ⟨h1, hp⟩ := hp
  refine g_lald (mz_at hS (Nat.le_of_ble_eq_true rfl) mzcS_68) h1 (g_bipush mzb_50 (g_aload_n rfl (g_getR (mz_at hS (Nat.le_of_ble_eq_true rfl) mzcS_65) mzcf_3_7 (mz_rb hR (Nat.le_of_ble_eq_true rfl) rfl mzcR_65_7) (g_iload_n rfl ?_))))
  obtain ⟨h2, hp⟩ := hp
  refine g_iald hS.1 (mz_at hS (Nat.le_of_ble_eq_true rfl) mzcS_73) h2 (g_imul (g_i2l (g_ladd ?_)))
  obtain ⟨h3, hp⟩ := hp
  refine g_last (mz_at hS (Nat.le_of_ble_eq_true rfl) mzcS_68) h3 (g_aload_n rfl (g_getR (mz_at hS (Nat.le_of_ble_eq_true rfl) mzcS_65) mzcf_3_7 (mz_rb hR (Nat.le_of_ble_eq_true rfl) rfl mzcR_65_7) (g_iload_n rfl (g_bipush mzb_100 (g_aload_n rfl (g_getR (mz_at hS (Nat.le_of_ble_eq_true rfl) mzcS_65) mzcf_3_7 (mz_rb hR (Nat.le_of_ble_eq_true rfl) rfl mzcR_65_7) (g_iload_n rfl ?_)))))))
  obtain ⟨h4, hp⟩ := hp
  refine g_iald hS.1 (mz_at hS (Nat.le_of_ble_eq_true rfl) mzcS_73) h4 (g_bipush mzb_10 (g_iadd (g_imin (Nat.le_of_ble_eq_true rfl) ?_)))
  obtain ⟨h5, hp⟩ := hp
  refine g_iast (mz_at hS (Nat.le_of_ble_eq_true rfl) mzcS_73) h5 ?_
  refine g_weak ?_ (g_cl (cg_248_87 hd hS hR v1 (mz_wI (mz_wL N 68 v1 ((mz_gL N 68 v1) + ((50 * (mz_gI N 73 v1)).toInt64))) 73 v1 (mz_imin 100 ((mz_gI (mz_wL N 68 v1 ((mz_gL N 68 v1) + ((50 * (mz_gI N 73 v1)).toInt64))) 73 v1) + 10))) hr hc1 hx1 hp hC))
  exact ⟨rfl, rfl, trivial⟩
theorem cb_248_2 (hd : 0 ≤ d) (hS : mz_ext S 232) (hR : mz_rok R 232)   (s : Int32 × mz_N) {C0 : (mz_N) → Prop} (hr : ∀ (N2 : mz_N), C0 N2 → Q (.inl none) (mz_k S R N2 b t)) {C1 : ((Int32 × mz_N) ⊕ (mz_N)) → Prop} (hc1 : ∀ s2, C1 (.inl s2) → mz_G (d, mz_X0 L xs, none, [], mk_248, 2, Q) 2 mt_248_2 [(0, .ref 65), (1, .int s2.1)] [] false (mz_k S R s2.2 b t)) (hx1 : ∀ z, C1 (.inr z) → C0 z) (hp : cd_248_2  s) (hC : C1 (cq_248_2  s)) : mz_G (d, mz_X0 L xs, none, [], mk_248, 2, Q) 2 mt_248_2 [(0, .ref 65), (1, .int s.1)] [] false (mz_k S R s.2 b t) := by
  unfold cq_248_2 at hC
  unfold cd_248_2 at hp
  refine g_iload_n rfl (g_sipush mzs_240 ?_)
  refine g_icge (tg := 93) rfl ms_248_93 hC (fun h1 hC => ?_) (fun h1 hC => ?_)
  · have hp := hp.1 h1
    refine g_aload_n rfl (g_getR (mz_at hS (Nat.le_of_ble_eq_true rfl) mzcS_65) mzcf_3_15 (mz_rb hR (Nat.le_of_ble_eq_true rfl) rfl mzcR_65_15) (g_iload_n rfl (g_aload_n rfl (g_getR (mz_at hS (Nat.le_of_ble_eq_true rfl) mzcS_65) mzcf_3_7 (mz_rb hR (Nat.le_of_ble_eq_true rfl) rfl mzcR_65_7) (g_iload_n rfl ?_)))))
    obtain ⟨h2, hp⟩ := hp
    refine g_iald hS.1 (mz_at hS (Nat.le_of_ble_eq_true rfl) mzcS_73) h2 ?_
    obtain ⟨h3, hp⟩ := hp
    refine g_iast (mz_at hS (Nat.le_of_ble_eq_true rfl) mzcS_80) h3 (g_aload_n rfl (g_getR (mz_at hS (Nat.le_of_ble_eq_true rfl) mzcS_65) mzcf_3_7 (mz_rb hR (Nat.le_of_ble_eq_true rfl) rfl mzcR_65_7) (g_iload_n rfl ?_)))
    obtain ⟨h4, hp⟩ := hp
    refine g_iald hS.1 (mz_at hS (Nat.le_of_ble_eq_true rfl) mzcS_73) h4 ?_
    refine g_ifle (tg := 87) rfl ms_248_87 hC (fun h5 hC => ?_) (fun h5 hC => ?_)
    · have hp := hp.1 h5
      refine g_aload_n rfl (g_getR (mz_at hS (Nat.le_of_ble_eq_true rfl) mzcS_65) mzcf_3_5 (mz_rb hR (Nat.le_of_ble_eq_true rfl) rfl mzcR_65_5) (g_iload_n rfl (g_dup2 rfl rfl ?_)))
      obtain ⟨h6, hp⟩ := hp
      refine g_lald (mz_at hS (Nat.le_of_ble_eq_true rfl) mzcS_71) h6 (g_iconst mzi_2 (g_aload_n rfl (g_getR (mz_at hS (Nat.le_of_ble_eq_true rfl) mzcS_65) mzcf_3_7 (mz_rb hR (Nat.le_of_ble_eq_true rfl) rfl mzcR_65_7) (g_iload_n rfl ?_))))
      obtain ⟨h7, hp⟩ := hp
      refine g_iald hS.1 (mz_at hS (Nat.le_of_ble_eq_true rfl) mzcS_73) h7 (g_imul (g_i2l (g_ladd ?_)))
      obtain ⟨h8, hp⟩ := hp
      refine g_last (mz_at hS (Nat.le_of_ble_eq_true rfl) mzcS_71) h8 ?_
      refine g_weak ?_ (g_cl (cg_248_48 hd hS hR s.1 (mz_wL (mz_wI s.2 80 s.1 (mz_gI s.2 73 s.1)) 71 s.1 ((mz_gL (mz_wI s.2 80 s.1 (mz_gI s.2 73 s.1)) 71 s.1) + ((2 * (mz_gI (mz_wI s.2 80 s.1 (mz_gI s.2 73 s.1)) 73 s.1)).toInt64))) hr hc1 hx1 hp hC))
      exact ⟨rfl, rfl, trivial⟩
    · have hp := hp.2 h5
      refine g_weak ?_ (g_cl (cg_248_87 hd hS hR s.1 (mz_wI s.2 80 s.1 (mz_gI s.2 73 s.1)) hr hc1 hx1 hp hC))
      exact ⟨rfl, rfl, trivial⟩
  · have hp := hp.2 h1
    exact g_vret rfl (hr _ (hx1 _ hC))
theorem cg_248_2 (hd : 0 ≤ d) (hS : mz_ext S 232) (hR : mz_rok R 232)  (v1 : Int32) (N : mz_N) {C0 : (mz_N) → Prop} (hr : ∀ (N2 : mz_N), C0 N2 → Q (.inl none) (mz_k S R N2 b t)) (hp : cp_248_2 v1 N) (hC : C0 (cf_248_2 v1 N)) : mz_G (d, mz_X0 L xs, none, [], mk_248, 2, Q) 2 mt_248_2 [(0, .ref 65), (1, .int v1)] [] false (mz_k S R N b t) := by
  obtain ⟨n, hn⟩ := hp
  exact g_loop (G := fun s => mz_G (d, mz_X0 L xs, none, [], mk_248, 2, Q) 2 mt_248_2 [(0, .ref 65), (1, .int s.1)] [] false (mz_k S R s.2 b t)) (C := C0) (fun C2 hc hx s hP hC => cb_248_2 hd hS hR  s hr hc hx hP hC) n (v1, N) hn hC
theorem cg_248_0 (hd : 0 ≤ d) (hS : mz_ext S 232) (hR : mz_rok R 232)  (N : mz_N) {C0 : (mz_N) → Prop} (hr : ∀ (N2 : mz_N), C0 N2 → Q (.inl none) (mz_k S R N2 b t)) (hp : cp_248_0 N) (hC : C0 (cf_248_0 N)) : mz_G (d, mz_X0 L xs, none, [], mk_248, 2, Q) 0 mk_248 [(0, .ref 65)] [] true (mz_k S R N b t) := by
  unfold cf_248_0 at hC
  unfold cp_248_0 at hp
  refine g_iconst mzi_0 (g_istore_n (Nat.le_of_ble_eq_true rfl) rfl ?_)
  refine g_weak ?_ (g_cl (cg_248_2 hd hS hR 0 N hr hp hC))
  exact ⟨rfl, rfl, trivial⟩
theorem cs_248 (hd : 1 ≤ d) (hS : mz_ext S 232) (hR : mz_rok R 232)  (N : mz_N) (hp : cp_248_0 N) (hq : Q (.inl none) (mz_k S R (cf_248_0 N) b t)) : mz_Ed (mz_X0 L xs) d 248 [.ref 65] (mz_k S R N b t) Q :=
  by
  refine g_in mzq_248 (Nat.le_of_ble_eq_true rfl) (Nat.le_of_ble_eq_true rfl) (Nat.le_trans (Nat.le_of_ble_eq_true rfl) hd) ?_
  refine g_weak ?_ (cg_248_0 (d := d - 1) (by omega) hS hR N (C0 := fun z => Q (.inl none) (mz_k S R z b t)) (fun _ h => h) hp hq)
  exact ⟨rfl, trivial⟩
/-! 250 KeptHouse$Climate.lightCell (I)Z -/
theorem ms_250_0 : mz_sf mk_250 0 = mk_250 := mz_sf_zero _
theorem ms_250_11 : mz_sf mk_250 11 = mt_250_11 := mz_sf_add ms_250_0 (t := 11) rfl rfl
set_option maxRecDepth 100000 in
theorem mzq_250 : mz_PG0 250 = some (3, ⟨"KeptHouse$Climate", "lightCell", "(I)Z"⟩, prog_5_method_21_code, 2, some .boolean, [], mk_250, []) := rfl
theorem cg_250_0 (hd : 0 ≤ d) (hS : mz_ext S 232) (hR : mz_rok R 232)  (v1 : Int32) (N : mz_N) {C0 : (Bool × mz_N) → Prop} (hr : ∀ (w : Bool) (N2 : mz_N), C0 (w, N2) → Q (.inl (some (.int (mz_b01 w)))) (mz_k S R N2 b t)) (hp : cp_250_0 v1 N) (hC : C0 (cf_250_0 v1 N)) : mz_G (d, mz_X0 L xs, some .boolean, [], mk_250, 2, Q) 0 mk_250 [(0, .ref 65), (1, .int v1)] [] true (mz_k S R N b t) := by
  unfold cf_250_0 at hC
  unfold cp_250_0 at hp
  refine g_aload_n rfl (g_getR (mz_at hS (Nat.le_of_ble_eq_true rfl) mzcS_65) mzcf_3_7 (mz_rb hR (Nat.le_of_ble_eq_true rfl) rfl mzcR_65_7) (g_iload_n rfl ?_))
  obtain ⟨h1, hp⟩ := hp
  refine g_iald hS.1 (mz_at hS (Nat.le_of_ble_eq_true rfl) mzcS_73) h1 ?_
  refine g_ifle (tg := 11) rfl ms_250_11 hC (fun h2 hC => ?_) (fun h2 hC => ?_)
  · have hp := hp.1 h2
    refine g_iconst mzi_0 ?_
    exact g_zret (z := false) rfl (hr _ _ hC)
  · have hp := hp.2 h2
    refine g_aload_n rfl (g_getR (mz_at hS (Nat.le_of_ble_eq_true rfl) mzcS_65) mzcf_3_7 (mz_rb hR (Nat.le_of_ble_eq_true rfl) rfl mzcR_65_7) (g_iload_n rfl (g_bipush mzb_10 ?_)))
    have h3 := hp
    refine g_iast (mz_at hS (Nat.le_of_ble_eq_true rfl) mzcS_73) h3 (g_aload_n rfl (g_iconst mzi_1 (g_putZ (z := true) (mz_at hS (Nat.le_of_ble_eq_true rfl) mzcS_65) mzcf_3_8 (g_iconst mzi_1 ?_))))
    exact g_zret (z := true) rfl (hr _ _ hC)
theorem cs_250 (hd : 1 ≤ d) (hS : mz_ext S 232) (hR : mz_rok R 232)  (v1 : Int32) (N : mz_N) (hp : cp_250_0 v1 N) (hq : Q (.inl (some (.int (mz_b01 ((cf_250_0 v1 N).1))))) (mz_k S R ((cf_250_0 v1 N).2) b t)) : mz_Ed (mz_X0 L xs) d 250 [.ref 65, .int v1] (mz_k S R N b t) Q :=
  by
  refine g_in mzq_250 (Nat.le_of_ble_eq_true rfl) (Nat.le_of_ble_eq_true rfl) (Nat.le_trans (Nat.le_of_ble_eq_true rfl) hd) ?_
  refine g_weak ?_ (cg_250_0 (d := d - 1) (by omega) hS hR v1 N (C0 := fun z => Q (.inl (some (.int (mz_b01 z.1)))) (mz_k S R z.2 b t)) (fun _ _ h => h) hp hq)
  exact ⟨rfl, rfl, trivial⟩
/-! 249 KeptHouse$Climate.lightNeighbours (LKeptHouse$Plan;)V -/
theorem ms_249_0 : mz_sf mk_249 0 = mk_249 := mz_sf_zero _
theorem ms_249_2 : mz_sf mk_249 2 = mt_249_2 := mz_sf_add ms_249_0 (t := 2) rfl rfl
theorem ms_249_22 : mz_sf mk_249 22 = mt_249_22 := mz_sf_add ms_249_2 (t := 20) rfl rfl
theorem ms_249_55 : mz_sf mk_249 55 = mt_249_55 := mz_sf_add ms_249_22 (t := 33) rfl rfl
theorem ms_249_86 : mz_sf mk_249 86 = mt_249_86 := mz_sf_add ms_249_55 (t := 31) rfl rfl
theorem ms_249_92 : mz_sf mk_249 92 = mt_249_92 := mz_sf_add ms_249_86 (t := 6) rfl rfl
theorem ms_249_98 : mz_sf mk_249 98 = mt_249_98 := mz_sf_add ms_249_92 (t := 6) rfl rfl
set_option maxRecDepth 100000 in
theorem mzq_249 : mz_PG0 249 = some (3, ⟨"KeptHouse$Climate", "lightNeighbours", "(LKeptHouse$Plan;)V"⟩, prog_5_method_24_code, 6, none, [], mk_249, []) := rfl
theorem cg_249_92 (hd : 1 ≤ d) (hS : mz_ext S 232) (hR : mz_rok R 232)  (v2 : Int32) (N : mz_N) {C0 : (mz_N) → Prop} (hr : ∀ (N2 : mz_N), C0 N2 → Q (.inl none) (mz_k S R N2 b t)) {C1 : ((Int32 × mz_N) ⊕ (mz_N)) → Prop} (hc1 : ∀ s2, C1 (.inl s2) → mz_G (d, mz_X0 L xs, none, [], mk_249, 6, Q) 2 mt_249_2 [(0, .ref 65), (1, .ref 2), (2, .int s2.1)] [] false (mz_k S R s2.2 b t)) (hx1 : ∀ z, C1 (.inr z) → C0 z) (hp : cp_249_92 v2 N) (hC : C1 (cf_249_92 v2 N)) : mz_G (d, mz_X0 L xs, none, [], mk_249, 6, Q) 92 mt_249_92 [(0, .ref 65), (1, .ref 2), (2, .int v2)] [] false (mz_k S R N b t) := by
  unfold cf_249_92 at hC
  unfold cp_249_92 at hp
  refine g_iinc rfl mzi_1 (Nat.le_of_ble_eq_true rfl) rfl (g_goto (tg := 2) rfl ms_249_2 ?_)
  refine g_weak ?_ (g_cl (hc1 ((v2 + 1), N) hC))
  exact ⟨rfl, rfl, rfl, trivial⟩
theorem cg_249_86 (hd : 1 ≤ d) (hS : mz_ext S 232) (hR : mz_rok R 232)  (v2 : Int32) (v3 : Int32) (N : mz_N) {C0 : (mz_N) → Prop} (hr : ∀ (N2 : mz_N), C0 N2 → Q (.inl none) (mz_k S R N2 b t)) {C1 : ((Int32 × mz_N) ⊕ (mz_N)) → Prop} (hc1 : ∀ s2, C1 (.inl s2) → mz_G (d, mz_X0 L xs, none, [], mk_249, 6, Q) 2 mt_249_2 [(0, .ref 65), (1, .ref 2), (2, .int s2.1)] [] false (mz_k S R s2.2 b t)) (hx1 : ∀ z, C1 (.inr z) → C0 z) {C2 : ((Int32 × mz_N) ⊕ ((Int32 × mz_N) ⊕ (mz_N))) → Prop} (hc2 : ∀ s2, C2 (.inl s2) → mz_G (d, mz_X0 L xs, none, [], mk_249, 6, Q) 22 mt_249_22 [(0, .ref 65), (1, .ref 2), (2, .int v2), (3, .int s2.1)] [] false (mz_k S R s2.2 b t)) (hx2 : ∀ z, C2 (.inr z) → C1 z) (hp : cp_249_86 v2 v3 N) (hC : C2 (cf_249_86 v2 v3 N)) : mz_G (d, mz_X0 L xs, none, [], mk_249, 6, Q) 86 mt_249_86 [(0, .ref 65), (1, .ref 2), (2, .int v2), (3, .int v3)] [] false (mz_k S R N b t) := by
  unfold cf_249_86 at hC
  unfold cp_249_86 at hp
  refine g_iinc rfl mzi_1 (Nat.le_of_ble_eq_true rfl) rfl (g_goto (tg := 22) rfl ms_249_22 ?_)
  refine g_weak ?_ (g_cl (hc2 ((v3 + 1), N) hC))
  exact ⟨rfl, rfl, rfl, rfl, trivial⟩
theorem cb_249_22 (hd : 1 ≤ d) (hS : mz_ext S 232) (hR : mz_rok R 232)  (v2 : Int32) (s : Int32 × mz_N) {C0 : (mz_N) → Prop} (hr : ∀ (N2 : mz_N), C0 N2 → Q (.inl none) (mz_k S R N2 b t)) {C1 : ((Int32 × mz_N) ⊕ (mz_N)) → Prop} (hc1 : ∀ s2, C1 (.inl s2) → mz_G (d, mz_X0 L xs, none, [], mk_249, 6, Q) 2 mt_249_2 [(0, .ref 65), (1, .ref 2), (2, .int s2.1)] [] false (mz_k S R s2.2 b t)) (hx1 : ∀ z, C1 (.inr z) → C0 z) {C2 : ((Int32 × mz_N) ⊕ ((Int32 × mz_N) ⊕ (mz_N))) → Prop} (hc2 : ∀ s2, C2 (.inl s2) → mz_G (d, mz_X0 L xs, none, [], mk_249, 6, Q) 22 mt_249_22 [(0, .ref 65), (1, .ref 2), (2, .int v2), (3, .int s2.1)] [] false (mz_k S R s2.2 b t)) (hx2 : ∀ z, C2 (.inr z) → C1 z) (hp : cd_249_22 v2 s) (hC : C2 (cq_249_22 v2 s)) : mz_G (d, mz_X0 L xs, none, [], mk_249, 6, Q) 22 mt_249_22 [(0, .ref 65), (1, .ref 2), (2, .int v2), (3, .int s.1)] [] false (mz_k S R s.2 b t) := by
  unfold cq_249_22 at hC
  unfold cd_249_22 at hp
  refine g_iload_n rfl (g_iconst mzi_4 ?_)
  refine g_icge (tg := 92) rfl ms_249_92 hC (fun h1 hC => ?_) (fun h1 hC => ?_)
  · have hp := hp.1 h1
    refine g_iload_n rfl (g_bipush mzb_48 (g_irem (by decide) (g_iload_n rfl ?_)))
    refine g_s2v (Nat.le_of_ble_eq_true rfl) (fun _ hq => cs_80 (Nat.le_trans (Nat.le_of_ble_eq_true rfl) hd) (hS.le (Nat.le_of_ble_eq_true rfl)) (hR.le (Nat.le_of_ble_eq_true rfl))  (mz_irem v2 48) s.1 trivial hq) (g_istore (Nat.le_of_ble_eq_true rfl) rfl (g_iload_n rfl (g_bipush mzb_48 (g_idiv (by decide) (g_bipush mzb_110 (g_imul (g_iload_n rfl ?_)))))))
    refine g_bipush mzb_48 (g_irem (by decide) (g_iload_n rfl ?_))
    refine g_s2v (Nat.le_of_ble_eq_true rfl) (fun _ hq => cs_81 (Nat.le_trans (Nat.le_of_ble_eq_true rfl) hd) (hS.le (Nat.le_of_ble_eq_true rfl)) (hR.le (Nat.le_of_ble_eq_true rfl))  (mz_irem v2 48) s.1 trivial hq) (g_iadd (g_istore (Nat.le_of_ble_eq_true rfl) rfl (g_iload rfl (g_iconst mzi_m1 ?_))))
    refine g_iceq (tg := 86) rfl ms_249_86 hC (fun h4 hC => ?_) (fun h4 hC => ?_)
    · have hp := hp.1 h4
      refine g_weak ?_ (g_cl (cg_249_86 hd hS hR v2 s.1 s.2 hr hc1 hx1 hc2 hx2 hp hC))
      exact ⟨rfl, rfl, rfl, rfl, trivial⟩
    · have hp := hp.2 h4
      refine g_aload_n rfl (g_getR (mz_at hS (Nat.le_of_ble_eq_true rfl) mzcS_2) mzcf_5_0 (mz_rb hR (Nat.le_of_ble_eq_true rfl) rfl mzcR_2_0) (g_iload rfl ?_))
      obtain ⟨h5, hp⟩ := hp
      refine g_iald hS.1 (mz_at hS (Nat.le_of_ble_eq_true rfl) mzcS_3) h5 ?_
      refine g_ifne (tg := 86) rfl ms_249_86 hC (fun h6 hC => ?_) (fun h6 hC => ?_)
      · have hp := hp.1 h6
        refine g_aload_n rfl (g_iload_n rfl (g_bipush mzb_48 (g_idiv (by decide) (g_bipush mzb_48 (g_imul (g_iload rfl (g_iadd ?_)))))))
        obtain ⟨h7, hp⟩ := hp
        refine g_v2v (Nat.le_of_ble_eq_true rfl) (mz_at hS (Nat.le_of_ble_eq_true rfl) mzcS_65) (fun _ hq => cs_250 (Nat.le_trans (Nat.le_of_ble_eq_true rfl) hd) (hS.le (Nat.le_of_ble_eq_true rfl)) (hR.le (Nat.le_of_ble_eq_true rfl))  (((v2 / 48) * 48) + (cf_80_0 (mz_irem v2 48) s.1)) s.2 h7 hq) (g_pop rfl ?_)
        refine g_weak ?_ (g_cl (cg_249_86 hd hS hR v2 s.1 ((cf_250_0 (((v2 / 48) * 48) + (cf_80_0 (mz_irem v2 48) s.1)) s.2).2) hr hc1 hx1 hc2 hx2 hp hC))
        exact ⟨rfl, rfl, rfl, rfl, trivial⟩
      · have hp := hp.2 h6
        refine g_weak ?_ (g_cl (cg_249_86 hd hS hR v2 s.1 s.2 hr hc1 hx1 hc2 hx2 hp hC))
        exact ⟨rfl, rfl, rfl, rfl, trivial⟩
  · have hp := hp.2 h1
    refine g_weak ?_ (g_cl (cg_249_92 hd hS hR v2 s.2 hr hc1 hx1 hp (hx2 _ hC)))
    exact ⟨rfl, rfl, rfl, trivial⟩
theorem cg_249_22 (hd : 1 ≤ d) (hS : mz_ext S 232) (hR : mz_rok R 232)  (v2 : Int32) (v3 : Int32) (N : mz_N) {C0 : (mz_N) → Prop} (hr : ∀ (N2 : mz_N), C0 N2 → Q (.inl none) (mz_k S R N2 b t)) {C1 : ((Int32 × mz_N) ⊕ (mz_N)) → Prop} (hc1 : ∀ s2, C1 (.inl s2) → mz_G (d, mz_X0 L xs, none, [], mk_249, 6, Q) 2 mt_249_2 [(0, .ref 65), (1, .ref 2), (2, .int s2.1)] [] false (mz_k S R s2.2 b t)) (hx1 : ∀ z, C1 (.inr z) → C0 z) (hp : cp_249_22 v2 v3 N) (hC : C1 (cf_249_22 v2 v3 N)) : mz_G (d, mz_X0 L xs, none, [], mk_249, 6, Q) 22 mt_249_22 [(0, .ref 65), (1, .ref 2), (2, .int v2), (3, .int v3)] [] false (mz_k S R N b t) := by
  obtain ⟨n, hn⟩ := hp
  exact g_loop (G := fun s => mz_G (d, mz_X0 L xs, none, [], mk_249, 6, Q) 22 mt_249_22 [(0, .ref 65), (1, .ref 2), (2, .int v2), (3, .int s.1)] [] false (mz_k S R s.2 b t)) (C := C1) (fun C2 hc hx s hP hC => cb_249_22 hd hS hR v2 s hr hc1 hx1 hc hx hP hC) n (v3, N) hn hC
theorem cb_249_2 (hd : 1 ≤ d) (hS : mz_ext S 232) (hR : mz_rok R 232)   (s : Int32 × mz_N) {C0 : (mz_N) → Prop} (hr : ∀ (N2 : mz_N), C0 N2 → Q (.inl none) (mz_k S R N2 b t)) {C1 : ((Int32 × mz_N) ⊕ (mz_N)) → Prop} (hc1 : ∀ s2, C1 (.inl s2) → mz_G (d, mz_X0 L xs, none, [], mk_249, 6, Q) 2 mt_249_2 [(0, .ref 65), (1, .ref 2), (2, .int s2.1)] [] false (mz_k S R s2.2 b t)) (hx1 : ∀ z, C1 (.inr z) → C0 z) (hp : cd_249_2  s) (hC : C1 (cq_249_2  s)) : mz_G (d, mz_X0 L xs, none, [], mk_249, 6, Q) 2 mt_249_2 [(0, .ref 65), (1, .ref 2), (2, .int s.1)] [] false (mz_k S R s.2 b t) := by
  unfold cq_249_2 at hC
  unfold cd_249_2 at hp
  refine g_iload_n rfl (g_sipush mzs_240 ?_)
  refine g_icge (tg := 98) rfl ms_249_98 hC (fun h1 hC => ?_) (fun h1 hC => ?_)
  · have hp := hp.1 h1
    refine g_aload_n rfl (g_getR (mz_at hS (Nat.le_of_ble_eq_true rfl) mzcS_65) mzcf_3_15 (mz_rb hR (Nat.le_of_ble_eq_true rfl) rfl mzcR_65_15) (g_iload_n rfl ?_))
    obtain ⟨h2, hp⟩ := hp
    refine g_iald hS.1 (mz_at hS (Nat.le_of_ble_eq_true rfl) mzcS_80) h2 (g_bipush mzb_100 ?_)
    refine g_icne (tg := 92) rfl ms_249_92 hC (fun h3 hC => ?_) (fun h3 hC => ?_)
    · have hp := hp.1 h3
      refine g_iconst mzi_0 (g_istore_n (Nat.le_of_ble_eq_true rfl) rfl ?_)
      refine g_weak ?_ (g_cl (cg_249_22 hd hS hR s.1 0 s.2 hr hc1 hx1 hp hC))
      exact ⟨rfl, rfl, rfl, rfl, trivial⟩
    · have hp := hp.2 h3
      refine g_weak ?_ (g_cl (cg_249_92 hd hS hR s.1 s.2 hr hc1 hx1 hp hC))
      exact ⟨rfl, rfl, rfl, trivial⟩
  · have hp := hp.2 h1
    exact g_vret rfl (hr _ (hx1 _ hC))
theorem cg_249_2 (hd : 1 ≤ d) (hS : mz_ext S 232) (hR : mz_rok R 232)  (v2 : Int32) (N : mz_N) {C0 : (mz_N) → Prop} (hr : ∀ (N2 : mz_N), C0 N2 → Q (.inl none) (mz_k S R N2 b t)) (hp : cp_249_2 v2 N) (hC : C0 (cf_249_2 v2 N)) : mz_G (d, mz_X0 L xs, none, [], mk_249, 6, Q) 2 mt_249_2 [(0, .ref 65), (1, .ref 2), (2, .int v2)] [] false (mz_k S R N b t) := by
  obtain ⟨n, hn⟩ := hp
  exact g_loop (G := fun s => mz_G (d, mz_X0 L xs, none, [], mk_249, 6, Q) 2 mt_249_2 [(0, .ref 65), (1, .ref 2), (2, .int s.1)] [] false (mz_k S R s.2 b t)) (C := C0) (fun C2 hc hx s hP hC => cb_249_2 hd hS hR  s hr hc hx hP hC) n (v2, N) hn hC
theorem cg_249_0 (hd : 1 ≤ d) (hS : mz_ext S 232) (hR : mz_rok R 232)  (N : mz_N) {C0 : (mz_N) → Prop} (hr : ∀ (N2 : mz_N), C0 N2 → Q (.inl none) (mz_k S R N2 b t)) (hp : cp_249_0 N) (hC : C0 (cf_249_0 N)) : mz_G (d, mz_X0 L xs, none, [], mk_249, 6, Q) 0 mk_249 [(0, .ref 65), (1, .ref 2)] [] true (mz_k S R N b t) := by
  unfold cf_249_0 at hC
  unfold cp_249_0 at hp
  refine g_iconst mzi_0 (g_istore_n (Nat.le_of_ble_eq_true rfl) rfl ?_)
  refine g_weak ?_ (g_cl (cg_249_2 hd hS hR 0 N hr hp hC))
  exact ⟨rfl, rfl, rfl, trivial⟩
theorem cs_249 (hd : 2 ≤ d) (hS : mz_ext S 232) (hR : mz_rok R 232)  (N : mz_N) (hp : cp_249_0 N) (hq : Q (.inl none) (mz_k S R (cf_249_0 N) b t)) : mz_Ed (mz_X0 L xs) d 249 [.ref 65, .ref 2] (mz_k S R N b t) Q :=
  by
  refine g_in mzq_249 (Nat.le_of_ble_eq_true rfl) (Nat.le_of_ble_eq_true rfl) (Nat.le_trans (Nat.le_of_ble_eq_true rfl) hd) ?_
  refine g_weak ?_ (cg_249_0 (d := d - 1) (by omega) hS hR N (C0 := fun z => Q (.inl none) (mz_k S R z b t)) (fun _ h => h) hp hq)
  exact ⟨rfl, rfl, trivial⟩
/-! 251 KeptHouse$Climate.driftSmoke (LKeptHouse$Plan;)V -/
theorem ms_251_0 : mz_sf mk_251 0 = mk_251 := mz_sf_zero _
theorem ms_251_18 : mz_sf mk_251 18 = mt_251_18 := mz_sf_add ms_251_0 (t := 18) rfl rfl
theorem ms_251_39 : mz_sf mk_251 39 = mt_251_39 := mz_sf_add ms_251_18 (t := 21) rfl rfl
theorem ms_251_61 : mz_sf mk_251 61 = mt_251_61 := mz_sf_add ms_251_39 (t := 22) rfl rfl
theorem ms_251_96 : mz_sf mk_251 96 = mt_251_96 := mz_sf_add ms_251_61 (t := 35) rfl rfl
theorem ms_251_120 : mz_sf mk_251 120 = mt_251_120 := mz_sf_add ms_251_96 (t := 24) rfl rfl
theorem ms_251_126 : mz_sf mk_251 126 = mt_251_126 := mz_sf_add ms_251_120 (t := 6) rfl rfl
set_option maxRecDepth 100000 in
theorem mzq_251 : mz_PG0 251 = some (3, ⟨"KeptHouse$Climate", "driftSmoke", "(LKeptHouse$Plan;)V"⟩, prog_5_method_25_code, 8, none, [], mk_251, []) := rfl
theorem cg_251_120 (hd : 1 ≤ d) (hS : mz_ext S 232) (hR : mz_rok R 232)  (v2 : Int32) (N : mz_N) {C0 : (mz_N) → Prop} (hr : ∀ (N2 : mz_N), C0 N2 → Q (.inl none) (mz_k S R N2 b t)) {C1 : ((Int32 × mz_N) ⊕ (mz_N)) → Prop} (hc1 : ∀ s2, C1 (.inl s2) → mz_G (d, mz_X0 L xs, none, [], mk_251, 8, Q) 18 mt_251_18 [(0, .ref 65), (1, .ref 2), (2, .int s2.1)] [] false (mz_k S R s2.2 b t)) (hx1 : ∀ z, C1 (.inr z) → C0 z) (hp : cp_251_120 v2 N) (hC : C1 (cf_251_120 v2 N)) : mz_G (d, mz_X0 L xs, none, [], mk_251, 8, Q) 120 mt_251_120 [(0, .ref 65), (1, .ref 2), (2, .int v2)] [] false (mz_k S R N b t) := by
  unfold cf_251_120 at hC
  unfold cp_251_120 at hp
  refine g_iinc rfl mzi_1 (Nat.le_of_ble_eq_true rfl) rfl (g_goto (tg := 18) rfl ms_251_18 ?_)
  refine g_weak ?_ (g_cl (hc1 ((v2 + 1), N) hC))
  exact ⟨rfl, rfl, rfl, trivial⟩
theorem cb_251_18 (hd : 1 ≤ d) (hS : mz_ext S 232) (hR : mz_rok R 232)   (s : Int32 × mz_N) {C0 : (mz_N) → Prop} (hr : ∀ (N2 : mz_N), C0 N2 → Q (.inl none) (mz_k S R N2 b t)) {C1 : ((Int32 × mz_N) ⊕ (mz_N)) → Prop} (hc1 : ∀ s2, C1 (.inl s2) → mz_G (d, mz_X0 L xs, none, [], mk_251, 8, Q) 18 mt_251_18 [(0, .ref 65), (1, .ref 2), (2, .int s2.1)] [] false (mz_k S R s2.2 b t)) (hx1 : ∀ z, C1 (.inr z) → C0 z) (hp : cd_251_18  s) (hC : C1 (cq_251_18  s)) : mz_G (d, mz_X0 L xs, none, [], mk_251, 8, Q) 18 mt_251_18 [(0, .ref 65), (1, .ref 2), (2, .int s.1)] [] false (mz_k S R s.2 b t) := by
  unfold cq_251_18 at hC
  unfold cd_251_18 at hp
  refine g_iload_n rfl (g_sipush mzs_550 ?_)
  refine g_icge (tg := 126) rfl ms_251_126 hC (fun h1 hC => ?_) (fun h1 hC => ?_)
  · have hp := hp.1 h1
    refine g_iload_n rfl (g_bipush mzb_110 (g_irem (by decide) (g_istore_n (Nat.le_of_ble_eq_true rfl) rfl (g_aload_n rfl (g_getR (mz_at hS (Nat.le_of_ble_eq_true rfl) mzcS_2) mzcf_5_0 (mz_rb hR (Nat.le_of_ble_eq_true rfl) rfl mzcR_2_0) (g_iload_n rfl ?_))))))
    obtain ⟨h2, hp⟩ := hp
    refine g_iald hS.1 (mz_at hS (Nat.le_of_ble_eq_true rfl) mzcS_3) h2 ?_
    refine g_ifne (tg := 120) rfl ms_251_120 hC (fun h3 hC => ?_) (fun h3 hC => ?_)
    · have hp := hp.1 h3
      refine g_iload_n rfl ?_
      refine g_s1v (Nat.le_of_ble_eq_true rfl) (fun _ hq => cs_21 (Nat.le_trans (Nat.le_of_ble_eq_true rfl) hd) (hS.le (Nat.le_of_ble_eq_true rfl)) (hR.le (Nat.le_of_ble_eq_true rfl))  (mz_irem s.1 110) trivial hq) (g_iconst mzi_m1 ?_)
      refine g_icne (tg := 120) rfl ms_251_120 hC (fun h5 hC => ?_) (fun h5 hC => ?_)
      · have hp := hp.1 h5
        refine g_iload_n rfl (g_bipush mzb_110 (g_idiv (by decide) (g_bipush mzb_48 (g_imul (g_iload_n rfl ?_)))))
        refine g_s1v (Nat.le_of_ble_eq_true rfl) (fun _ hq => cs_84 (Nat.le_trans (Nat.le_of_ble_eq_true rfl) hd) (hS.le (Nat.le_of_ble_eq_true rfl)) (hR.le (Nat.le_of_ble_eq_true rfl))  (mz_irem s.1 110) trivial hq) (g_iadd (g_istore (Nat.le_of_ble_eq_true rfl) rfl (g_iload_n rfl (g_bipush mzb_110 (g_idiv (by decide) (g_bipush mzb_48 (g_imul ?_)))))))
        refine g_iload_n rfl ?_
        refine g_s1v (Nat.le_of_ble_eq_true rfl) (fun _ hq => cs_85 (Nat.le_trans (Nat.le_of_ble_eq_true rfl) hd) (hS.le (Nat.le_of_ble_eq_true rfl)) (hR.le (Nat.le_of_ble_eq_true rfl))  (mz_irem s.1 110) trivial hq) (g_iadd (g_istore (Nat.le_of_ble_eq_true rfl) rfl (g_aload_n rfl (g_getR (mz_at hS (Nat.le_of_ble_eq_true rfl) mzcS_65) mzcf_3_14 (mz_rb hR (Nat.le_of_ble_eq_true rfl) rfl mzcR_65_14) (g_iload rfl ?_)))))
        obtain ⟨h8, hp⟩ := hp
        refine g_lald (mz_at hS (Nat.le_of_ble_eq_true rfl) mzcS_79) h8 (g_aload_n rfl (g_getR (mz_at hS (Nat.le_of_ble_eq_true rfl) mzcS_65) mzcf_3_14 (mz_rb hR (Nat.le_of_ble_eq_true rfl) rfl mzcR_65_14) (g_iload rfl ?_)))
        obtain ⟨h9, hp⟩ := hp
        refine g_lald (mz_at hS (Nat.le_of_ble_eq_true rfl) mzcS_79) h9 (g_lsub (g_con3 (g_ldiv (by decide) (g_lstore (Nat.le_of_ble_eq_true rfl) rfl rfl (g_aload_n rfl (g_getR (mz_at hS (Nat.le_of_ble_eq_true rfl) mzcS_65) mzcf_3_5 (mz_rb hR (Nat.le_of_ble_eq_true rfl) rfl mzcR_65_5) (g_iload rfl ?_)))))))
        refine g_dup2 rfl rfl ?_
        obtain ⟨h10, hp⟩ := hp
        refine g_lald (mz_at hS (Nat.le_of_ble_eq_true rfl) mzcS_71) h10 (g_lload rfl (g_lsub ?_))
        obtain ⟨h11, hp⟩ := hp
        refine g_last (mz_at hS (Nat.le_of_ble_eq_true rfl) mzcS_71) h11 (g_aload_n rfl (g_getR (mz_at hS (Nat.le_of_ble_eq_true rfl) mzcS_65) mzcf_3_5 (mz_rb hR (Nat.le_of_ble_eq_true rfl) rfl mzcR_65_5) (g_iload rfl (g_dup2 rfl rfl ?_))))
        obtain ⟨h12, hp⟩ := hp
        refine g_lald (mz_at hS (Nat.le_of_ble_eq_true rfl) mzcS_71) h12 (g_lload rfl (g_ladd ?_))
        obtain ⟨h13, hp⟩ := hp
        refine g_last (mz_at hS (Nat.le_of_ble_eq_true rfl) mzcS_71) h13 ?_
        refine g_weak ?_ (g_cl (cg_251_120 hd hS hR s.1 (mz_wL (mz_wL s.2 71 (((s.1 / 110) * 48) + (cf_84_0 (mz_irem s.1 110))) ((mz_gL s.2 71 (((s.1 / 110) * 48) + (cf_84_0 (mz_irem s.1 110)))) - (((mz_gL s.2 79 (((s.1 / 110) * 48) + (cf_84_0 (mz_irem s.1 110)))) - (mz_gL s.2 79 (((s.1 / 110) * 48) + (cf_85_0 (mz_irem s.1 110))))) / 4))) 71 (((s.1 / 110) * 48) + (cf_85_0 (mz_irem s.1 110))) ((mz_gL (mz_wL s.2 71 (((s.1 / 110) * 48) + (cf_84_0 (mz_irem s.1 110))) ((mz_gL s.2 71 (((s.1 / 110) * 48) + (cf_84_0 (mz_irem s.1 110)))) - (((mz_gL s.2 79 (((s.1 / 110) * 48) + (cf_84_0 (mz_irem s.1 110)))) - (mz_gL s.2 79 (((s.1 / 110) * 48) + (cf_85_0 (mz_irem s.1 110))))) / 4))) 71 (((s.1 / 110) * 48) + (cf_85_0 (mz_irem s.1 110)))) + (((mz_gL s.2 79 (((s.1 / 110) * 48) + (cf_84_0 (mz_irem s.1 110)))) - (mz_gL s.2 79 (((s.1 / 110) * 48) + (cf_85_0 (mz_irem s.1 110))))) / 4))) hr hc1 hx1 hp hC))
        exact ⟨rfl, rfl, rfl, trivial⟩
      · have hp := hp.2 h5
        refine g_weak ?_ (g_cl (cg_251_120 hd hS hR s.1 s.2 hr hc1 hx1 hp hC))
        exact ⟨rfl, rfl, rfl, trivial⟩
    · have hp := hp.2 h3
      refine g_weak ?_ (g_cl (cg_251_120 hd hS hR s.1 s.2 hr hc1 hx1 hp hC))
      exact ⟨rfl, rfl, rfl, trivial⟩
  · have hp := hp.2 h1
    exact g_vret rfl (hr _ (hx1 _ hC))
theorem cg_251_18 (hd : 1 ≤ d) (hS : mz_ext S 232) (hR : mz_rok R 232)  (v2 : Int32) (N : mz_N) {C0 : (mz_N) → Prop} (hr : ∀ (N2 : mz_N), C0 N2 → Q (.inl none) (mz_k S R N2 b t)) (hp : cp_251_18 v2 N) (hC : C0 (cf_251_18 v2 N)) : mz_G (d, mz_X0 L xs, none, [], mk_251, 8, Q) 18 mt_251_18 [(0, .ref 65), (1, .ref 2), (2, .int v2)] [] false (mz_k S R N b t) := by
  obtain ⟨n, hn⟩ := hp
  exact g_loop (G := fun s => mz_G (d, mz_X0 L xs, none, [], mk_251, 8, Q) 18 mt_251_18 [(0, .ref 65), (1, .ref 2), (2, .int s.1)] [] false (mz_k S R s.2 b t)) (C := C0) (fun C2 hc hx s hP hC => cb_251_18 hd hS hR  s hr hc hx hP hC) n (v2, N) hn hC
theorem cg_251_0 (hd : 1 ≤ d) (hS : mz_ext S 232) (hR : mz_rok R 232)  (N : mz_N) {C0 : (mz_N) → Prop} (hr : ∀ (N2 : mz_N), C0 N2 → Q (.inl none) (mz_k S R N2 b t)) (hp : cp_251_0 N) (hC : C0 (cf_251_0 N)) : mz_G (d, mz_X0 L xs, none, [], mk_251, 8, Q) 0 mk_251 [(0, .ref 65), (1, .ref 2)] [] true (mz_k S R N b t) := by
  unfold cf_251_0 at hC
  unfold cp_251_0 at hp
  refine g_aload_n rfl (g_getR (mz_at hS (Nat.le_of_ble_eq_true rfl) mzcS_65) mzcf_3_5 (mz_rb hR (Nat.le_of_ble_eq_true rfl) rfl mzcR_65_5) (g_iconst mzi_0 (g_aload_n rfl (g_getR (mz_at hS (Nat.le_of_ble_eq_true rfl) mzcS_65) mzcf_3_14 (mz_rb hR (Nat.le_of_ble_eq_true rfl) rfl mzcR_65_14) (g_iconst mzi_0 (g_sipush mzs_240 (g_cpL (Nat.le_of_ble_eq_true rfl) (mz_at hS (Nat.le_of_ble_eq_true rfl) mzcS_71) (mz_at hS (Nat.le_of_ble_eq_true rfl) mzcS_79) (mz_cpd (by decide)) ?_)))))))
  refine g_iconst mzi_0 (g_istore_n (Nat.le_of_ble_eq_true rfl) rfl ?_)
  refine g_weak ?_ (g_cl (cg_251_18 hd hS hR 0 (mz_yL N 71 0 79 0 240) hr hp hC))
  exact ⟨rfl, rfl, rfl, trivial⟩
theorem cs_251 (hd : 2 ≤ d) (hS : mz_ext S 232) (hR : mz_rok R 232)  (N : mz_N) (hp : cp_251_0 N) (hq : Q (.inl none) (mz_k S R (cf_251_0 N) b t)) : mz_Ed (mz_X0 L xs) d 251 [.ref 65, .ref 2] (mz_k S R N b t) Q :=
  by
  refine g_in mzq_251 (Nat.le_of_ble_eq_true rfl) (Nat.le_of_ble_eq_true rfl) (Nat.le_trans (Nat.le_of_ble_eq_true rfl) hd) ?_
  refine g_weak ?_ (cg_251_0 (d := d - 1) (by omega) hS hR N (C0 := fun z => Q (.inl none) (mz_k S R z b t)) (fun _ h => h) hp hq)
  exact ⟨rfl, rfl, trivial⟩
/-! 252 KeptHouse$Climate.ventSmoke (I)V -/
theorem ms_252_0 : mz_sf mk_252 0 = mk_252 := mz_sf_zero _
theorem ms_252_2 : mz_sf mk_252 2 = mt_252_2 := mz_sf_add ms_252_0 (t := 2) rfl rfl
theorem ms_252_31 : mz_sf mk_252 31 = mt_252_31 := mz_sf_add ms_252_2 (t := 29) rfl rfl
theorem ms_252_37 : mz_sf mk_252 37 = mt_252_37 := mz_sf_add ms_252_31 (t := 6) rfl rfl
set_option maxRecDepth 100000 in
theorem mzq_252 : mz_PG0 252 = some (3, ⟨"KeptHouse$Climate", "ventSmoke", "(I)V"⟩, prog_5_method_26_code, 3, none, [], mk_252, []) := rfl
theorem cg_252_31 (hd : 0 ≤ d) (hS : mz_ext S 232) (hR : mz_rok R 232)  (v1 : Int32) (v2 : Int32) (N : mz_N) {C0 : (mz_N) → Prop} (hr : ∀ (N2 : mz_N), C0 N2 → Q (.inl none) (mz_k S R N2 b t)) {C1 : ((Int32 × mz_N) ⊕ (mz_N)) → Prop} (hc1 : ∀ s2, C1 (.inl s2) → mz_G (d, mz_X0 L xs, none, [], mk_252, 3, Q) 2 mt_252_2 [(0, .ref 65), (1, .int v1), (2, .int s2.1)] [] false (mz_k S R s2.2 b t)) (hx1 : ∀ z, C1 (.inr z) → C0 z) (hp : cp_252_31 v1 v2 N) (hC : C1 (cf_252_31 v1 v2 N)) : mz_G (d, mz_X0 L xs, none, [], mk_252, 3, Q) 31 mt_252_31 [(0, .ref 65), (1, .int v1), (2, .int v2)] [] false (mz_k S R N b t) := by
  unfold cf_252_31 at hC
  unfold cp_252_31 at hp
  refine g_iinc rfl mzi_1 (Nat.le_of_ble_eq_true rfl) rfl (g_goto (tg := 2) rfl ms_252_2 ?_)
  refine g_weak ?_ (g_cl (hc1 ((v2 + 1), N) hC))
  exact ⟨rfl, rfl, rfl, trivial⟩
theorem cb_252_2 (hd : 0 ≤ d) (hS : mz_ext S 232) (hR : mz_rok R 232)  (v1 : Int32) (s : Int32 × mz_N) {C0 : (mz_N) → Prop} (hr : ∀ (N2 : mz_N), C0 N2 → Q (.inl none) (mz_k S R N2 b t)) {C1 : ((Int32 × mz_N) ⊕ (mz_N)) → Prop} (hc1 : ∀ s2, C1 (.inl s2) → mz_G (d, mz_X0 L xs, none, [], mk_252, 3, Q) 2 mt_252_2 [(0, .ref 65), (1, .int v1), (2, .int s2.1)] [] false (mz_k S R s2.2 b t)) (hx1 : ∀ z, C1 (.inr z) → C0 z) (hp : cd_252_2 v1 s) (hC : C1 (cq_252_2 v1 s)) : mz_G (d, mz_X0 L xs, none, [], mk_252, 3, Q) 2 mt_252_2 [(0, .ref 65), (1, .int v1), (2, .int s.1)] [] false (mz_k S R s.2 b t) := by
  unfold cq_252_2 at hC
  unfold cd_252_2 at hp
  refine g_iload_n rfl (g_sipush mzs_240 ?_)
  refine g_icge (tg := 37) rfl ms_252_37 hC (fun h1 hC => ?_) (fun h1 hC => ?_)
  · have hp := hp.1 h1
    refine g_aload_n rfl (g_getR (mz_at hS (Nat.le_of_ble_eq_true rfl) mzcS_65) mzcf_3_5 (mz_rb hR (Nat.le_of_ble_eq_true rfl) rfl mzcR_65_5) (g_iload_n rfl (g_dup2 rfl rfl ?_)))
    obtain ⟨h2, hp⟩ := hp
    refine g_lald (mz_at hS (Nat.le_of_ble_eq_true rfl) mzcS_71) h2 (g_aload_n rfl (g_getR (mz_at hS (Nat.le_of_ble_eq_true rfl) mzcS_65) mzcf_3_5 (mz_rb hR (Nat.le_of_ble_eq_true rfl) rfl mzcR_65_5) (g_iload_n rfl ?_)))
    obtain ⟨h3, hp⟩ := hp
    refine g_lald (mz_at hS (Nat.le_of_ble_eq_true rfl) mzcS_71) h3 (g_iload_n rfl (g_i2l (g_lmul (g_con3 (g_ldiv (by decide) (g_lsub ?_))))))
    obtain ⟨h4, hp⟩ := hp
    refine g_last (mz_at hS (Nat.le_of_ble_eq_true rfl) mzcS_71) h4 ?_
    refine g_weak ?_ (g_cl (cg_252_31 hd hS hR v1 s.1 (mz_wL s.2 71 s.1 ((mz_gL s.2 71 s.1) - (((mz_gL s.2 71 s.1) * v1.toInt64) / 50))) hr hc1 hx1 hp hC))
    exact ⟨rfl, rfl, rfl, trivial⟩
  · have hp := hp.2 h1
    exact g_vret rfl (hr _ (hx1 _ hC))
theorem cg_252_2 (hd : 0 ≤ d) (hS : mz_ext S 232) (hR : mz_rok R 232)  (v1 : Int32) (v2 : Int32) (N : mz_N) {C0 : (mz_N) → Prop} (hr : ∀ (N2 : mz_N), C0 N2 → Q (.inl none) (mz_k S R N2 b t)) (hp : cp_252_2 v1 v2 N) (hC : C0 (cf_252_2 v1 v2 N)) : mz_G (d, mz_X0 L xs, none, [], mk_252, 3, Q) 2 mt_252_2 [(0, .ref 65), (1, .int v1), (2, .int v2)] [] false (mz_k S R N b t) := by
  obtain ⟨n, hn⟩ := hp
  exact g_loop (G := fun s => mz_G (d, mz_X0 L xs, none, [], mk_252, 3, Q) 2 mt_252_2 [(0, .ref 65), (1, .int v1), (2, .int s.1)] [] false (mz_k S R s.2 b t)) (C := C0) (fun C2 hc hx s hP hC => cb_252_2 hd hS hR v1 s hr hc hx hP hC) n (v2, N) hn hC
theorem cg_252_0 (hd : 0 ≤ d) (hS : mz_ext S 232) (hR : mz_rok R 232)  (v1 : Int32) (N : mz_N) {C0 : (mz_N) → Prop} (hr : ∀ (N2 : mz_N), C0 N2 → Q (.inl none) (mz_k S R N2 b t)) (hp : cp_252_0 v1 N) (hC : C0 (cf_252_0 v1 N)) : mz_G (d, mz_X0 L xs, none, [], mk_252, 3, Q) 0 mk_252 [(0, .ref 65), (1, .int v1)] [] true (mz_k S R N b t) := by
  unfold cf_252_0 at hC
  unfold cp_252_0 at hp
  refine g_iconst mzi_0 (g_istore_n (Nat.le_of_ble_eq_true rfl) rfl ?_)
  refine g_weak ?_ (g_cl (cg_252_2 hd hS hR v1 0 N hr hp hC))
  exact ⟨rfl, rfl, rfl, trivial⟩
theorem cs_252 (hd : 1 ≤ d) (hS : mz_ext S 232) (hR : mz_rok R 232)  (v1 : Int32) (N : mz_N) (hp : cp_252_0 v1 N) (hq : Q (.inl none) (mz_k S R (cf_252_0 v1 N) b t)) : mz_Ed (mz_X0 L xs) d 252 [.ref 65, .int v1] (mz_k S R N b t) Q :=
  by
  refine g_in mzq_252 (Nat.le_of_ble_eq_true rfl) (Nat.le_of_ble_eq_true rfl) (Nat.le_trans (Nat.le_of_ble_eq_true rfl) hd) ?_
  refine g_weak ?_ (cg_252_0 (d := d - 1) (by omega) hS hR v1 N (C0 := fun z => Q (.inl none) (mz_k S R z b t)) (fun _ h => h) hp hq)
  exact ⟨rfl, rfl, trivial⟩
end Fn11
