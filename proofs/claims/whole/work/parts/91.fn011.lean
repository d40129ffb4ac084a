/-! THE FUNCTIONS: written by program: each method comes to its function. -/
section Fn11
variable {L : Nat} {xs : Nat → Int32} {d : Nat} {S : mz_S} {R : Nat → Nat → Option Nat} {Q : mz_Q} {N : mz_N} {b : Bool} {t : Nat}
/-! 234 KeptHouse$Climate.flow (LKeptHouse$Plan;I)V -/
theorem ms_234_0 : mz_sf mk_234 0 = mk_234 := mz_sf_zero _
theorem ms_234_16 : mz_sf mk_234 16 = mt_234_16 := mz_sf_add ms_234_0 (t := 16) rfl rfl
theorem ms_234_44 : mz_sf mk_234 44 = mt_234_44 := mz_sf_add ms_234_16 (t := 28) rfl rfl
theorem ms_234_75 : mz_sf mk_234 75 = mt_234_75 := mz_sf_add ms_234_44 (t := 31) rfl rfl
theorem ms_234_99 : mz_sf mk_234 99 = mt_234_99 := mz_sf_add ms_234_75 (t := 24) rfl rfl
theorem ms_234_105 : mz_sf mk_234 105 = mt_234_105 := mz_sf_add ms_234_99 (t := 6) rfl rfl
theorem ms_234_107 : mz_sf mk_234 107 = mt_234_107 := mz_sf_add ms_234_105 (t := 2) rfl rfl
theorem ms_234_153 : mz_sf mk_234 153 = mt_234_153 := mz_sf_add ms_234_107 (t := 46) rfl rfl
theorem ms_234_156 : mz_sf mk_234 156 = mt_234_156 := mz_sf_add ms_234_153 (t := 3) rfl rfl
theorem ms_234_200 : mz_sf mk_234 200 = mt_234_200 := mz_sf_add ms_234_156 (t := 44) rfl rfl
theorem ms_234_206 : mz_sf mk_234 206 = mt_234_206 := mz_sf_add ms_234_200 (t := 6) rfl rfl
theorem ms_234_212 : mz_sf mk_234 212 = mt_234_212 := mz_sf_add ms_234_206 (t := 6) rfl rfl
set_option maxRecDepth 100000 in
theorem mzq_234 : mz_PG0 234 = some (3, ⟨"KeptHouse$Climate", "flow", "(LKeptHouse$Plan;I)V"⟩, prog_5_method_14_code, 8, none, [], mk_234, []) := rfl
theorem cg_234_99 (hd : 3 ≤ d) (hS : mz_extR S 232) (hR : mz_rok R 232)  (v2 : Int32) (v3 : Int32) (N : mz_N) {C0 : (mz_N) → Prop} (hr : ∀ (N2 : mz_N), C0 N2 → Q (.inl none) (mz_k S R N2 b t)) {C1 : ((Int32 × mz_N) ⊕ (mz_N)) → Prop} (hc1 : ∀ s2, C1 (.inl s2) → mz_G (d, mz_X0 L xs, none, [], mk_234, 8, Q) 16 mt_234_16 [(0, .ref 65), (1, .ref 2), (2, .int v2), (3, .int s2.1)] [] false (mz_k S R s2.2 b t)) (hx1 : ∀ z, C1 (.inr z) → C0 z) (hp : cp_234_99 v2 v3 N) (hC : C1 (cf_234_99 v2 v3 N)) : mz_G (d, mz_X0 L xs, none, [], mk_234, 8, Q) 99 mt_234_99 [(0, .ref 65), (1, .ref 2), (2, .int v2), (3, .int v3)] [] false (mz_k S R N b t) := by
  unfold cf_234_99 at hC
  unfold cp_234_99 at hp
  refine g_iinc rfl mzi_1 (Nat.le_of_ble_eq_true rfl) rfl (g_goto (tg := 16) rfl ms_234_16 ?_)
  refine g_weak ?_ (g_cl (hc1 ((v3 + 1), N) hC))
  exact ⟨rfl, rfl, rfl, rfl, trivial⟩
theorem cg_234_200 (hd : 3 ≤ d) (hS : mz_extR S 232) (hR : mz_rok R 232)  (v2 : Int32) (v3 : Int32) (v4 : Int32) (N : mz_N) {C0 : (mz_N) → Prop} (hr : ∀ (N2 : mz_N), C0 N2 → Q (.inl none) (mz_k S R N2 b t)) {C1 : ((Int32 × mz_N) ⊕ (mz_N)) → Prop} (hc1 : ∀ s2, C1 (.inl s2) → mz_G (d, mz_X0 L xs, none, [], mk_234, 8, Q) 107 mt_234_107 [(0, .ref 65), (1, .ref 2), (2, .int v2), (3, .int s2.1)] [] false (mz_k S R s2.2 b t)) (hx1 : ∀ z, C1 (.inr z) → C0 z) {C2 : ((Int32 × mz_N) ⊕ ((Int32 × mz_N) ⊕ (mz_N))) → Prop} (hc2 : ∀ s2, C2 (.inl s2) → mz_G (d, mz_X0 L xs, none, [], mk_234, 8, Q) 156 mt_234_156 [(0, .ref 65), (1, .ref 2), (2, .int v2), (3, .int v3), (4, .int s2.1)] [] false (mz_k S R s2.2 b t)) (hx2 : ∀ z, C2 (.inr z) → C1 z) (hp : cp_234_200 v2 v3 v4 N) (hC : C2 (cf_234_200 v2 v3 v4 N)) : mz_G (d, mz_X0 L xs, none, [], mk_234, 8, Q) 200 mt_234_200 [(0, .ref 65), (1, .ref 2), (2, .int v2), (3, .int v3), (4, .int v4)] [] false (mz_k S R N b t) := by
  unfold cf_234_200 at hC
  unfold cp_234_200 at hp
  refine g_iinc rfl mzi_1 (Nat.le_of_ble_eq_true rfl) rfl (g_goto (tg := 156) rfl ms_234_156 ?_)
  refine g_weak ?_ (g_cl (hc2 ((v4 + 1), N) hC))
  exact ⟨rfl, rfl, rfl, rfl, rfl, trivial⟩
theorem cb_234_156 (hd : 3 ≤ d) (hS : mz_extR S 232) (hR : mz_rok R 232)  (v2 : Int32) (v3 : Int32) (s : Int32 × mz_N) {C0 : (mz_N) → Prop} (hr : ∀ (N2 : mz_N), C0 N2 → Q (.inl none) (mz_k S R N2 b t)) {C1 : ((Int32 × mz_N) ⊕ (mz_N)) → Prop} (hc1 : ∀ s2, C1 (.inl s2) → mz_G (d, mz_X0 L xs, none, [], mk_234, 8, Q) 107 mt_234_107 [(0, .ref 65), (1, .ref 2), (2, .int v2), (3, .int s2.1)] [] false (mz_k S R s2.2 b t)) (hx1 : ∀ z, C1 (.inr z) → C0 z) {C2 : ((Int32 × mz_N) ⊕ ((Int32 × mz_N) ⊕ (mz_N))) → Prop} (hc2 : ∀ s2, C2 (.inl s2) → mz_G (d, mz_X0 L xs, none, [], mk_234, 8, Q) 156 mt_234_156 [(0, .ref 65), (1, .ref 2), (2, .int v2), (3, .int v3), (4, .int s2.1)] [] false (mz_k S R s2.2 b t)) (hx2 : ∀ z, C2 (.inr z) → C1 z) (hp : cd_234_156 v2 v3 s) (hC : C2 (cq_234_156 v2 v3 s)) : mz_G (d, mz_X0 L xs, none, [], mk_234, 8, Q) 156 mt_234_156 [(0, .ref 65), (1, .ref 2), (2, .int v2), (3, .int v3), (4, .int s.1)] [] false (mz_k S R s.2 b t) := by
  unfold cq_234_156 at hC
  unfold cd_234_156 at hp
  refine g_iload rfl (g_iconst mzi_4 ?_)
  refine g_icge (tg := 206) rfl ms_234_206 hC (fun h1 hC => ?_) (fun h1 hC => ?_)
  · have hp := hp.1 h1
    refine g_aload_n rfl (g_getR (mz_at hS (Nat.le_of_ble_eq_true rfl) mzcS_65) mzcf_3_9 (mz_rb hR (Nat.le_of_ble_eq_true rfl) rfl mzcR_65_9) (g_iload_n rfl (g_dup2 rfl rfl ?_)))
    obtain ⟨h2, hp⟩ := hp
    refine g_lald (mz_at hS (Nat.le_of_ble_eq_true rfl) mzcS_74) h2 (g_aload_n rfl (g_getR (mz_at hS (Nat.le_of_ble_eq_true rfl) mzcS_2) mzcf_5_9 (mz_rb hR (Nat.le_of_ble_eq_true rfl) rfl mzcR_2_9) (g_bipush mzb_6 (g_iload rfl (g_iadd ?_)))))
    obtain ⟨h3, hp⟩ := hp
    refine g_aald4 (mz_at hS (Nat.le_of_ble_eq_true rfl) mzcS_16) h3 (mz_rb hR (Nat.le_of_ble_eq_true rfl) rfl (mzcR2_16 h3)) (g_iload_n rfl ?_)
    obtain ⟨h4, hp⟩ := hp
    refine g_iald hS.1 (mz_at hS (mzcL2_16 h3 (Nat.le_of_ble_eq_true rfl)) (mzcS2_16 h3)) h4 (g_aload_n rfl (g_getR (mz_at hS (Nat.le_of_ble_eq_true rfl) mzcS_65) mzcf_3_1 (mz_rb hR (Nat.le_of_ble_eq_true rfl) rfl mzcR_65_1) (g_iload rfl (g_bipush mzb_24 (g_imul (g_iload_n rfl (g_iadd ?_)))))))
    obtain ⟨h5, hp⟩ := hp
    refine g_iald hS.1 (mz_at hS (Nat.le_of_ble_eq_true rfl) mzcS_67) h5 (g_bipush mzb_10 (g_idiv (by decide) (g_imul (g_i2l (g_ladd ?_)))))
    obtain ⟨h6, hp⟩ := hp
    refine g_last (mz_at hS (Nat.le_of_ble_eq_true rfl) mzcS_74) h6 ?_
    refine g_weak ?_ (g_cl (cg_234_200 hd hS hR v2 v3 s.1 (mz_wL s.2 74 v3 ((mz_gL s.2 74 v3) + (((mz_gI s.2 (17 + (6 + s.1).toNatClampNeg) v3) * ((mz_gI s.2 67 ((s.1 * 24) + v2)) / 10)).toInt64))) hr hc1 hx1 hc2 hx2 hp hC))
    exact ⟨rfl, rfl, rfl, rfl, rfl, trivial⟩
  · have hp := hp.2 h1
    refine g_iinc rfl mzi_1 (Nat.le_of_ble_eq_true rfl) rfl (g_goto (tg := 107) rfl ms_234_107 ?_)
    refine g_weak ?_ (g_cl (hc1 ((v3 + 1), s.2) (hx2 _ hC)))
    exact ⟨rfl, rfl, rfl, rfl, trivial⟩
theorem cg_234_156 (hd : 3 ≤ d) (hS : mz_extR S 232) (hR : mz_rok R 232)  (v2 : Int32) (v3 : Int32) (v4 : Int32) (N : mz_N) {C0 : (mz_N) → Prop} (hr : ∀ (N2 : mz_N), C0 N2 → Q (.inl none) (mz_k S R N2 b t)) {C1 : ((Int32 × mz_N) ⊕ (mz_N)) → Prop} (hc1 : ∀ s2, C1 (.inl s2) → mz_G (d, mz_X0 L xs, none, [], mk_234, 8, Q) 107 mt_234_107 [(0, .ref 65), (1, .ref 2), (2, .int v2), (3, .int s2.1)] [] false (mz_k S R s2.2 b t)) (hx1 : ∀ z, C1 (.inr z) → C0 z) (hp : cp_234_156 v2 v3 v4 N) (hC : C1 (cf_234_156 v2 v3 v4 N)) : mz_G (d, mz_X0 L xs, none, [], mk_234, 8, Q) 156 mt_234_156 [(0, .ref 65), (1, .ref 2), (2, .int v2), (3, .int v3), (4, .int v4)] [] false (mz_k S R N b t) := by
  obtain ⟨n, hn⟩ := hp
  exact g_loop (G := fun s => mz_G (d, mz_X0 L xs, none, [], mk_234, 8, Q) 156 mt_234_156 [(0, .ref 65), (1, .ref 2), (2, .int v2), (3, .int v3), (4, .int s.1)] [] false (mz_k S R s.2 b t)) (C := C1) (fun C2 hc hx s hP hC => cb_234_156 hd hS hR v2 v3 s hr hc1 hx1 hc hx hP hC) n (v4, N) hn hC
theorem cg_234_153 (hd : 3 ≤ d) (hS : mz_extR S 232) (hR : mz_rok R 232)  (v2 : Int32) (v3 : Int32) (N : mz_N) {C0 : (mz_N) → Prop} (hr : ∀ (N2 : mz_N), C0 N2 → Q (.inl none) (mz_k S R N2 b t)) {C1 : ((Int32 × mz_N) ⊕ (mz_N)) → Prop} (hc1 : ∀ s2, C1 (.inl s2) → mz_G (d, mz_X0 L xs, none, [], mk_234, 8, Q) 107 mt_234_107 [(0, .ref 65), (1, .ref 2), (2, .int v2), (3, .int s2.1)] [] false (mz_k S R s2.2 b t)) (hx1 : ∀ z, C1 (.inr z) → C0 z) (hp : cp_234_153 v2 v3 N) (hC : C1 (cf_234_153 v2 v3 N)) : mz_G (d, mz_X0 L xs, none, [], mk_234, 8, Q) 153 mt_234_153 [(0, .ref 65), (1, .ref 2), (2, .int v2), (3, .int v3)] [] false (mz_k S R N b t) := by
  unfold cf_234_153 at hC
  unfold cp_234_153 at hp
  refine g_iconst mzi_0 (g_istore (Nat.le_of_ble_eq_true rfl) rfl ?_)
  refine g_weak ?_ (g_cl (cg_234_156 hd hS hR v2 v3 0 N hr hc1 hx1 hp hC))
  exact ⟨rfl, rfl, rfl, rfl, rfl, trivial⟩
theorem cb_234_107 (hd : 3 ≤ d) (hS : mz_extR S 232) (hR : mz_rok R 232)  (v2 : Int32) (s : Int32 × mz_N) {C0 : (mz_N) → Prop} (hr : ∀ (N2 : mz_N), C0 N2 → Q (.inl none) (mz_k S R N2 b t)) {C1 : ((Int32 × mz_N) ⊕ (mz_N)) → Prop} (hc1 : ∀ s2, C1 (.inl s2) → mz_G (d, mz_X0 L xs, none, [], mk_234, 8, Q) 107 mt_234_107 [(0, .ref 65), (1, .ref 2), (2, .int v2), (3, .int s2.1)] [] false (mz_k S R s2.2 b t)) (hx1 : ∀ z, C1 (.inr z) → C0 z) (hp : cd_234_107 v2 s) (hC : C1 (cq_234_107 v2 s)) : mz_G (d, mz_X0 L xs, none, [], mk_234, 8, Q) 107 mt_234_107 [(0, .ref 65), (1, .ref 2), (2, .int v2), (3, .int s.1)] [] false (mz_k S R s.2 b t) := by
  unfold cq_234_107 at hC
  unfold cd_234_107 at hp
  refine g_iload_n rfl (g_aload_n rfl (g_getI (mz_at hS (Nat.le_of_ble_eq_true rfl) mzcS_2) mzcf_5_7 ?_))
  refine g_icge (tg := 212) rfl ms_234_212 hC (fun h1 hC => ?_) (fun h1 hC => ?_)
  · have hp := hp.1 h1
    refine g_aload_n rfl (g_getR (mz_at hS (Nat.le_of_ble_eq_true rfl) mzcS_65) mzcf_3_9 (mz_rb hR (Nat.le_of_ble_eq_true rfl) rfl mzcR_65_9) (g_iload_n rfl (g_dup2 rfl rfl ?_)))
    obtain ⟨h2, hp⟩ := hp
    refine g_lald (mz_at hS (Nat.le_of_ble_eq_true rfl) mzcS_74) h2 (g_aload_n rfl (g_getR (mz_at hS (Nat.le_of_ble_eq_true rfl) mzcS_65) mzcf_3_10 (mz_rb hR (Nat.le_of_ble_eq_true rfl) rfl mzcR_65_10) (g_iload_n rfl ?_)))
    obtain ⟨h3, hp⟩ := hp
    refine g_lald (mz_at hS (Nat.le_of_ble_eq_true rfl) mzcS_75) h3 (g_aload_n rfl (g_getR (mz_at hS (Nat.le_of_ble_eq_true rfl) mzcS_65) mzcf_3_0 (mz_rb hR (Nat.le_of_ble_eq_true rfl) rfl mzcR_65_0) (g_iload_n rfl ?_)))
    obtain ⟨h4, hp⟩ := hp
    refine g_iald hS.1 (mz_at hS (Nat.le_of_ble_eq_true rfl) mzcS_66) h4 (g_i2l (g_lsub (g_aload_n rfl (g_getR (mz_at hS (Nat.le_of_ble_eq_true rfl) mzcS_2) mzcf_5_9 (mz_rb hR (Nat.le_of_ble_eq_true rfl) rfl mzcR_2_9) (g_bipush mzb_10 (g_aald4 (m := 27) (mz_at hS (Nat.le_of_ble_eq_true rfl) mzcS_16) (mz_ibd (by decide)) (mz_rb hR (Nat.le_of_ble_eq_true rfl) rfl mzcRr_16_10) (g_iload_n rfl ?_)))))))
    obtain ⟨h5, hp⟩ := hp
    refine g_iald hS.1 (mz_at hS (Nat.le_of_ble_eq_true rfl) mzcS_27) h5 (g_i2l (g_lmul (g_con3 (g_ldiv (by decide) (g_lsub ?_)))))
    obtain ⟨h6, hp⟩ := hp
    refine g_last (mz_at hS (Nat.le_of_ble_eq_true rfl) mzcS_74) h6 ?_
    refine g_weak ?_ (g_cl (cg_234_153 hd hS hR v2 s.1 (mz_wL s.2 74 s.1 ((mz_gL s.2 74 s.1) - ((((mz_gL s.2 75 s.1) - ((mz_gI s.2 66 v2).toInt64)) * ((mz_gI s.2 27 s.1).toInt64)) / 10))) hr hc1 hx1 hp hC))
    exact ⟨rfl, rfl, rfl, rfl, trivial⟩
  · have hp := hp.2 h1
    exact g_vret rfl (hr _ (hx1 _ hC))
theorem cg_234_107 (hd : 3 ≤ d) (hS : mz_extR S 232) (hR : mz_rok R 232)  (v2 : Int32) (v3 : Int32) (N : mz_N) {C0 : (mz_N) → Prop} (hr : ∀ (N2 : mz_N), C0 N2 → Q (.inl none) (mz_k S R N2 b t)) (hp : cp_234_107 v2 v3 N) (hC : C0 (cf_234_107 v2 v3 N)) : mz_G (d, mz_X0 L xs, none, [], mk_234, 8, Q) 107 mt_234_107 [(0, .ref 65), (1, .ref 2), (2, .int v2), (3, .int v3)] [] false (mz_k S R N b t) := by
  obtain ⟨n, hn⟩ := hp
  exact g_loop (G := fun s => mz_G (d, mz_X0 L xs, none, [], mk_234, 8, Q) 107 mt_234_107 [(0, .ref 65), (1, .ref 2), (2, .int v2), (3, .int s.1)] [] false (mz_k S R s.2 b t)) (C := C0) (fun C2 hc hx s hP hC => cb_234_107 hd hS hR v2 s hr hc hx hP hC) n (v3, N) hn hC
theorem cb_234_16 (hd : 3 ≤ d) (hS : mz_extR S 232) (hR : mz_rok R 232)  (v2 : Int32) (s : Int32 × mz_N) {C0 : (mz_N) → Prop} (hr : ∀ (N2 : mz_N), C0 N2 → Q (.inl none) (mz_k S R N2 b t)) {C1 : ((Int32 × mz_N) ⊕ (mz_N)) → Prop} (hc1 : ∀ s2, C1 (.inl s2) → mz_G (d, mz_X0 L xs, none, [], mk_234, 8, Q) 16 mt_234_16 [(0, .ref 65), (1, .ref 2), (2, .int v2), (3, .int s2.1)] [] false (mz_k S R s2.2 b t)) (hx1 : ∀ z, C1 (.inr z) → C0 z) (hp : cd_234_16 v2 s) (hC : C1 (cq_234_16 v2 s)) : mz_G (d, mz_X0 L xs, none, [], mk_234, 8, Q) 16 mt_234_16 [(0, .ref 65), (1, .ref 2), (2, .int v2), (3, .int s.1)] [] false (mz_k S R s.2 b t) := by
  unfold cq_234_16 at hC
  unfold cd_234_16 at hp
  refine g_iload_n rfl (g_aload_n rfl (g_getI (mz_at hS (Nat.le_of_ble_eq_true rfl) mzcS_2) mzcf_5_13 ?_))
  refine g_icge (tg := 105) rfl ms_234_105 hC (fun h1 hC => ?_) (fun h1 hC => ?_)
  · have hp := hp.1 h1
    refine g_aload_n rfl (g_getR (mz_at hS (Nat.le_of_ble_eq_true rfl) mzcS_2) mzcf_5_12 (mz_rb hR (Nat.le_of_ble_eq_true rfl) rfl mzcR_2_12) (g_iconst mzi_0 (g_aald4 (m := 33) (mz_at hS (Nat.le_of_ble_eq_true rfl) mzcS_32) (mz_ibd (by decide)) (mz_rb hR (Nat.le_of_ble_eq_true rfl) rfl mzcRr_32_0) (g_iload_n rfl ?_))))
    obtain ⟨h2, hp⟩ := hp
    refine g_iald hS.1 (mz_at hS (Nat.le_of_ble_eq_true rfl) mzcS_33) h2 (g_istore (Nat.le_of_ble_eq_true rfl) rfl (g_aload_n rfl (g_getR (mz_at hS (Nat.le_of_ble_eq_true rfl) mzcS_2) mzcf_5_12 (mz_rb hR (Nat.le_of_ble_eq_true rfl) rfl mzcR_2_12) (g_iconst mzi_1 (g_aald4 (m := 34) (mz_at hS (Nat.le_of_ble_eq_true rfl) mzcS_32) (mz_ibd (by decide)) (mz_rb hR (Nat.le_of_ble_eq_true rfl) rfl mzcRr_32_1) (g_iload_n rfl ?_))))))
    obtain ⟨h3, hp⟩ := hp
    refine g_iald hS.1 (mz_at hS (Nat.le_of_ble_eq_true rfl) mzcS_34) h3 (g_istore (Nat.le_of_ble_eq_true rfl) rfl (g_aload_n rfl (g_getR (mz_at hS (Nat.le_of_ble_eq_true rfl) mzcS_65) mzcf_3_10 (mz_rb hR (Nat.le_of_ble_eq_true rfl) rfl mzcR_65_10) (g_iload rfl ?_))))
    obtain ⟨h4, hp⟩ := hp
    refine g_lald (mz_at hS (Nat.le_of_ble_eq_true rfl) mzcS_75) h4 (g_aload_n rfl (g_getR (mz_at hS (Nat.le_of_ble_eq_true rfl) mzcS_65) mzcf_3_10 (mz_rb hR (Nat.le_of_ble_eq_true rfl) rfl mzcR_65_10) (g_iload rfl ?_)))
    obtain ⟨h5, hp⟩ := hp
    refine g_lald (mz_at hS (Nat.le_of_ble_eq_true rfl) mzcS_75) h5 (g_lsub (g_aload_n rfl (g_getR (mz_at hS (Nat.le_of_ble_eq_true rfl) mzcS_2) mzcf_5_12 (mz_rb hR (Nat.le_of_ble_eq_true rfl) rfl mzcR_2_12) (g_iconst mzi_2 (g_aald4 (m := 35) (mz_at hS (Nat.le_of_ble_eq_true rfl) mzcS_32) (mz_ibd (by decide)) (mz_rb hR (Nat.le_of_ble_eq_true rfl) rfl mzcRr_32_2) (g_iload_n rfl ?_))))))
    obtain ⟨h6, hp⟩ := hp
    refine g_iald hS.1 (mz_at hS (Nat.le_of_ble_eq_true rfl) mzcS_35) h6 (g_i2l (g_lmul (g_con3 (g_ldiv (by decide) (g_lstore (Nat.le_of_ble_eq_true rfl) rfl rfl (g_aload_n rfl (g_getR (mz_at hS (Nat.le_of_ble_eq_true rfl) mzcS_65) mzcf_3_9 (mz_rb hR (Nat.le_of_ble_eq_true rfl) rfl mzcR_65_9) ?_)))))))
    refine g_iload rfl (g_dup2 rfl rfl ?_)
    obtain ⟨h7, hp⟩ := hp
    refine g_lald (mz_at hS (Nat.le_of_ble_eq_true rfl) mzcS_74) h7 (g_lload rfl (g_lsub ?_))
    obtain ⟨h8, hp⟩ := hp
    refine g_last (mz_at hS (Nat.le_of_ble_eq_true rfl) mzcS_74) h8 (g_aload_n rfl (g_getR (mz_at hS (Nat.le_of_ble_eq_true rfl) mzcS_65) mzcf_3_9 (mz_rb hR (Nat.le_of_ble_eq_true rfl) rfl mzcR_65_9) (g_iload rfl (g_dup2 rfl rfl ?_))))
    obtain ⟨h9, hp⟩ := hp
    refine g_lald (mz_at hS (Nat.le_of_ble_eq_true rfl) mzcS_74) h9 (g_lload rfl (g_ladd ?_))
    obtain ⟨h10, hp⟩ := hp
    refine g_last (mz_at hS (Nat.le_of_ble_eq_true rfl) mzcS_74) h10 ?_
    refine g_weak ?_ (g_cl (cg_234_99 hd hS hR v2 s.1 (mz_wL (mz_wL s.2 74 (mz_gI s.2 33 s.1) ((mz_gL s.2 74 (mz_gI s.2 33 s.1)) - ((((mz_gL s.2 75 (mz_gI s.2 33 s.1)) - (mz_gL s.2 75 (mz_gI s.2 34 s.1))) * ((mz_gI s.2 35 s.1).toInt64)) / 10))) 74 (mz_gI s.2 34 s.1) ((mz_gL (mz_wL s.2 74 (mz_gI s.2 33 s.1) ((mz_gL s.2 74 (mz_gI s.2 33 s.1)) - ((((mz_gL s.2 75 (mz_gI s.2 33 s.1)) - (mz_gL s.2 75 (mz_gI s.2 34 s.1))) * ((mz_gI s.2 35 s.1).toInt64)) / 10))) 74 (mz_gI s.2 34 s.1)) + ((((mz_gL s.2 75 (mz_gI s.2 33 s.1)) - (mz_gL s.2 75 (mz_gI s.2 34 s.1))) * ((mz_gI s.2 35 s.1).toInt64)) / 10))) hr hc1 hx1 hp hC))
    exact ⟨rfl, rfl, rfl, rfl, trivial⟩
  · have hp := hp.2 h1
    refine g_iconst mzi_0 (g_istore_n (Nat.le_of_ble_eq_true rfl) rfl ?_)
    refine g_weak ?_ (g_cl (cg_234_107 hd hS hR v2 0 s.2 hr hp (hx1 _ hC)))
    exact ⟨rfl, rfl, rfl, rfl, trivial⟩
theorem cg_234_16 (hd : 3 ≤ d) (hS : mz_extR S 232) (hR : mz_rok R 232)  (v2 : Int32) (v3 : Int32) (N : mz_N) {C0 : (mz_N) → Prop} (hr : ∀ (N2 : mz_N), C0 N2 → Q (.inl none) (mz_k S R N2 b t)) (hp : cp_234_16 v2 v3 N) (hC : C0 (cf_234_16 v2 v3 N)) : mz_G (d, mz_X0 L xs, none, [], mk_234, 8, Q) 16 mt_234_16 [(0, .ref 65), (1, .ref 2), (2, .int v2), (3, .int v3)] [] false (mz_k S R N b t) := by
  obtain ⟨n, hn⟩ := hp
  exact g_loop (G := fun s => mz_G (d, mz_X0 L xs, none, [], mk_234, 8, Q) 16 mt_234_16 [(0, .ref 65), (1, .ref 2), (2, .int v2), (3, .int s.1)] [] false (mz_k S R s.2 b t)) (C := C0) (fun C2 hc hx s hP hC => cb_234_16 hd hS hR v2 s hr hc hx hP hC) n (v3, N) hn hC
theorem cg_234_0 (hd : 3 ≤ d) (hS : mz_extR S 232) (hR : mz_rok R 232)  (v2 : Int32) (N : mz_N) {C0 : (mz_N) → Prop} (hr : ∀ (N2 : mz_N), C0 N2 → Q (.inl none) (mz_k S R N2 b t)) (hp : cp_234_0 v2 N) (hC : C0 (cf_234_0 v2 N)) : mz_G (d, mz_X0 L xs, none, [], mk_234, 8, Q) 0 mk_234 [(0, .ref 65), (1, .ref 2), (2, .int v2)] [] true (mz_k S R N b t) := by
  unfold cf_234_0 at hC
  unfold cp_234_0 at hp
  refine g_aload_n rfl (g_aload_n rfl (g_aload_n rfl (g_getR (mz_at hS (Nat.le_of_ble_eq_true rfl) mzcS_65) mzcf_3_2 (mz_rb hR (Nat.le_of_ble_eq_true rfl) rfl mzcR_65_2) ?_)))
  obtain ⟨h1, hp⟩ := hp
  refine g_v3n (Nat.le_of_ble_eq_true rfl) (mz_at hS (Nat.le_of_ble_eq_true rfl) mzcS_65) (fun _ hq => cs_235 (Nat.le_trans (Nat.le_of_ble_eq_true rfl) hd) (hS.le (Nat.le_of_ble_eq_true rfl)) (hR.le (Nat.le_of_ble_eq_true rfl)) 68 (mz_at hS (Nat.le_of_ble_eq_true rfl) mzcS_68) N h1 hq) (g_aload_n rfl (g_aload_n rfl ?_))
  obtain ⟨h2, hp⟩ := hp
  refine g_v2n (Nat.le_of_ble_eq_true rfl) (mz_at hS (Nat.le_of_ble_eq_true rfl) mzcS_65) (fun _ hq => cs_236 (Nat.le_trans (Nat.le_of_ble_eq_true rfl) hd) (hS.le (Nat.le_of_ble_eq_true rfl)) (hR.le (Nat.le_of_ble_eq_true rfl))  (cf_235_0 68 N) h2 hq) (g_iconst mzi_0 (g_istore_n (Nat.le_of_ble_eq_true rfl) rfl ?_))
  refine g_weak ?_ (g_cl (cg_234_16 hd hS hR v2 0 (cf_236_0 (cf_235_0 68 N)) hr hp hC))
  exact ⟨rfl, rfl, rfl, rfl, trivial⟩
theorem cs_234 (hd : 4 ≤ d) (hS : mz_extR S 232) (hR : mz_rok R 232)  (v2 : Int32) (N : mz_N) (hp : cp_234_0 v2 N) (hq : Q (.inl none) (mz_k S R (cf_234_0 v2 N) b t)) : mz_Ed (mz_X0 L xs) d 234 [.ref 65, .ref 2, .int v2] (mz_k S R N b t) Q :=
  by
  refine g_in mzq_234 (Nat.le_of_ble_eq_true rfl) (Nat.le_of_ble_eq_true rfl) (Nat.le_trans (Nat.le_of_ble_eq_true rfl) hd) ?_
  refine g_weak ?_ (cg_234_0 (d := d - 1) (by omega) hS hR v2 N (C0 := fun z => Q (.inl none) (mz_k S R z b t)) (fun _ h => h) hp hq)
  exact ⟨rfl, rfl, rfl, trivial⟩
/-! 238 KeptHouse$Supply.loadOf (I)I -/
theorem ms_238_0 : mz_sf mk_238 0 = mk_238 := mz_sf_zero _
theorem ms_238_21 : mz_sf mk_238 21 = mt_238_21 := mz_sf_add ms_238_0 (t := 21) rfl rfl
theorem ms_238_22 : mz_sf mk_238 22 = mt_238_22 := mz_sf_add ms_238_21 (t := 1) rfl rfl
set_option maxRecDepth 100000 in
theorem mzq_238 : mz_PG0 238 = some (9, ⟨"KeptHouse$Supply", "loadOf", "(I)I"⟩, prog_11_method_4_code, 2, some .int, [], mk_238, []) := rfl
theorem cg_238_0 (hd : 0 ≤ d) (hS : mz_extR S 232) (hR : mz_rok R 232)  (v1 : Int32) (N : mz_N) {C0 : (Int32) → Prop} (hr : ∀ (w : Int32), C0 w → Q (.inl (some (.int w))) (mz_k S R N b t)) (hp : cp_238_0 v1 N) (hC : C0 (cf_238_0 v1 N)) : mz_G (d, mz_X0 L xs, some .int, [], mk_238, 2, Q) 0 mk_238 [(0, .ref 56), (1, .int v1)] [] true (mz_k S R N b t) := by
  unfold cf_238_0 at hC
  unfold cp_238_0 at hp
  refine g_iload_n rfl ?_
  refine g_iflt (tg := 21) rfl ms_238_21 hC (fun h1 hC => ?_) (fun h1 hC => ?_)
  · have hp := hp.1 h1
    refine g_iconst mzi_0 ?_
    exact g_iret rfl (hr _ hC)
  · have hp := hp.2 h1
    refine g_iload_n rfl (g_bipush mzb_11 ?_)
    refine g_icge (tg := 21) rfl ms_238_21 hC (fun h2 hC => ?_) (fun h2 hC => ?_)
    · have hp := hp.1 h2
      refine g_aload_n rfl (g_getR (mz_at hS (Nat.le_of_ble_eq_true rfl) mzcS_56) mzcf_9_0 (mz_rb hR (Nat.le_of_ble_eq_true rfl) rfl mzcR_56_0) (g_iconst mzi_0 (g_aald4 (m := 58) (mz_at hS (Nat.le_of_ble_eq_true rfl) mzcS_57) (mz_ibd (by decide)) (mz_rb hR (Nat.le_of_ble_eq_true rfl) rfl mzcRr_57_0) (g_iload_n rfl ?_))))
      have h3 := hp
      refine g_iald hS.1 (mz_at hS (Nat.le_of_ble_eq_true rfl) mzcS_58) h3 (g_goto (tg := 22) rfl ms_238_22 ?_)
      exact g_iret rfl (hr _ hC)
    · have hp := hp.2 h2
      refine g_iconst mzi_0 ?_
      exact g_iret rfl (hr _ hC)
theorem cs_238 (hd : 1 ≤ d) (hS : mz_extR S 232) (hR : mz_rok R 232)  (v1 : Int32) (N : mz_N) (hp : cp_238_0 v1 N) (hq : Q (.inl (some (.int (cf_238_0 v1 N)))) (mz_k S R N b t)) : mz_Ed (mz_X0 L xs) d 238 [.ref 56, .int v1] (mz_k S R N b t) Q :=
  by
  refine g_in mzq_238 (Nat.le_of_ble_eq_true rfl) (Nat.le_of_ble_eq_true rfl) (Nat.le_trans (Nat.le_of_ble_eq_true rfl) hd) ?_
  refine g_weak ?_ (cg_238_0 (d := d - 1) (by omega) hS hR v1 N (C0 := fun z => Q (.inl (some (.int z))) (mz_k S R N b t)) (fun _ h => h) hp hq)
  exact ⟨rfl, rfl, trivial⟩
/-! 237 KeptHouse$Climate.warmHearts (LKeptHouse$Plan;LKeptHouse$Supply;I)V -/
theorem ms_237_0 : mz_sf mk_237 0 = mk_237 := mz_sf_zero _
theorem ms_237_3 : mz_sf mk_237 3 = mt_237_3 := mz_sf_add ms_237_0 (t := 3) rfl rfl
theorem ms_237_55 : mz_sf mk_237 55 = mt_237_55 := mz_sf_add ms_237_3 (t := 52) rfl rfl
theorem ms_237_61 : mz_sf mk_237 61 = mt_237_61 := mz_sf_add ms_237_55 (t := 6) rfl rfl
set_option maxRecDepth 100000 in
theorem mzq_237 : mz_PG0 237 = some (3, ⟨"KeptHouse$Climate", "warmHearts", "(LKeptHouse$Plan;LKeptHouse$Supply;I)V"⟩, prog_5_method_15_code, 6, none, [], mk_237, []) := rfl
theorem cg_237_55 (hd : 2 ≤ d) (hS : mz_extR S 232) (hR : mz_rok R 232)  (v3 : Int32) (v4 : Int32) (N : mz_N) {C0 : (mz_N) → Prop} (hr : ∀ (N2 : mz_N), C0 N2 → Q (.inl none) (mz_k S R N2 b t)) {C1 : ((Int32 × mz_N) ⊕ (mz_N)) → Prop} (hc1 : ∀ s2, C1 (.inl s2) → mz_G (d, mz_X0 L xs, none, [], mk_237, 6, Q) 3 mt_237_3 [(0, .ref 65), (1, .ref 2), (2, .ref 56), (3, .int v3), (4, .int s2.1)] [] false (mz_k S R s2.2 b t)) (hx1 : ∀ z, C1 (.inr z) → C0 z) (hp : cp_237_55 v3 v4 N) (hC : C1 (cf_237_55 v3 v4 N)) : mz_G (d, mz_X0 L xs, none, [], mk_237, 6, Q) 55 mt_237_55 [(0, .ref 65), (1, .ref 2), (2, .ref 56), (3, .int v3), (4, .int v4)] [] false (mz_k S R N b t) := by
  unfold cf_237_55 at hC
  unfold cp_237_55 at hp
  refine g_iinc rfl mzi_1 (Nat.le_of_ble_eq_true rfl) rfl (g_goto (tg := 3) rfl ms_237_3 ?_)
  refine g_weak ?_ (g_cl (hc1 ((v4 + 1), N) hC))
  exact ⟨rfl, rfl, rfl, rfl, rfl, trivial⟩
theorem cb_237_3 (hd : 2 ≤ d) (hS : mz_extR S 232) (hR : mz_rok R 232)  (v3 : Int32) (s : Int32 × mz_N) {C0 : (mz_N) → Prop} (hr : ∀ (N2 : mz_N), C0 N2 → Q (.inl none) (mz_k S R N2 b t)) {C1 : ((Int32 × mz_N) ⊕ (mz_N)) → Prop} (hc1 : ∀ s2, C1 (.inl s2) → mz_G (d, mz_X0 L xs, none, [], mk_237, 6, Q) 3 mt_237_3 [(0, .ref 65), (1, .ref 2), (2, .ref 56), (3, .int v3), (4, .int s2.1)] [] false (mz_k S R s2.2 b t)) (hx1 : ∀ z, C1 (.inr z) → C0 z) (hp : cd_237_3 v3 s) (hC : C1 (cq_237_3 v3 s)) : mz_G (d, mz_X0 L xs, none, [], mk_237, 6, Q) 3 mt_237_3 [(0, .ref 65), (1, .ref 2), (2, .ref 56), (3, .int v3), (4, .int s.1)] [] false (mz_k S R s.2 b t) := by
  unfold cq_237_3 at hC
  unfold cd_237_3 at hp
  refine g_iload rfl (g_bipush mzb_10 ?_)
  refine g_icge (tg := 61) rfl ms_237_61 hC (fun h1 hC => ?_) (fun h1 hC => ?_)
  · have hp := hp.1 h1
    refine g_aload_n rfl (g_getR (mz_at hS (Nat.le_of_ble_eq_true rfl) mzcS_2) mzcf_5_16 (mz_rb hR (Nat.le_of_ble_eq_true rfl) rfl mzcR_2_16) (g_iload rfl ?_))
    obtain ⟨h2, hp⟩ := hp
    refine g_iald hS.1 (mz_at hS (Nat.le_of_ble_eq_true rfl) mzcS_38) h2 (g_istore (Nat.le_of_ble_eq_true rfl) rfl (g_iload rfl (g_iconst mzi_m1 ?_)))
    refine g_iceq (tg := 55) rfl ms_237_55 hC (fun h3 hC => ?_) (fun h3 hC => ?_)
    · have hp := hp.1 h3
      refine g_weak ?_ (g_cl (cg_237_55 hd hS hR v3 s.1 s.2 hr hc1 hx1 hp hC))
      exact ⟨rfl, rfl, rfl, rfl, rfl, trivial⟩
    · have hp := hp.2 h3
      refine g_aload_n rfl (g_getR (mz_at hS (Nat.le_of_ble_eq_true rfl) mzcS_65) mzcf_3_9 (mz_rb hR (Nat.le_of_ble_eq_true rfl) rfl mzcR_65_9) (g_iload rfl (g_dup2 rfl rfl ?_)))
      obtain ⟨h4, hp⟩ := hp
      refine g_lald (mz_at hS (Nat.le_of_ble_eq_true rfl) mzcS_74) h4 (g_bipush mzb_8 (g_aload_n rfl (g_iload rfl (g_iload_n rfl ?_))))
      obtain ⟨h5, hp⟩ := hp
      refine g_v3v (Nat.le_of_ble_eq_true rfl) (mz_at hS (Nat.le_of_ble_eq_true rfl) mzcS_2) (fun _ hq => cs_221 (Nat.le_trans (Nat.le_of_ble_eq_true rfl) hd) (hS.le (Nat.le_of_ble_eq_true rfl)) (hR.le (Nat.le_of_ble_eq_true rfl))  s.1 v3 s.2 h5 hq) (g_imul (g_iconst mzi_3 (g_aload_n rfl (g_iload rfl ?_))))
      obtain ⟨h6, hp⟩ := hp
      refine g_v2v (Nat.le_of_ble_eq_true rfl) (mz_at hS (Nat.le_of_ble_eq_true rfl) mzcS_56) (fun _ hq => cs_238 (Nat.le_trans (Nat.le_of_ble_eq_true rfl) hd) (hS.le (Nat.le_of_ble_eq_true rfl)) (hR.le (Nat.le_of_ble_eq_true rfl))  s.1 s.2 h6 hq) (g_imul (g_iadd (g_i2l (g_ladd ?_))))
      obtain ⟨h7, hp⟩ := hp
      refine g_last (mz_at hS (Nat.le_of_ble_eq_true rfl) mzcS_74) h7 ?_
      refine g_weak ?_ (g_cl (cg_237_55 hd hS hR v3 s.1 (mz_wL s.2 74 (mz_gI s.2 38 s.1) ((mz_gL s.2 74 (mz_gI s.2 38 s.1)) + (((8 * (cf_221_0 s.1 v3 s.2)) + (3 * (cf_238_0 s.1 s.2))).toInt64))) hr hc1 hx1 hp hC))
      exact ⟨rfl, rfl, rfl, rfl, rfl, trivial⟩
  · have hp := hp.2 h1
    exact g_vret rfl (hr _ (hx1 _ hC))
theorem cg_237_3 (hd : 2 ≤ d) (hS : mz_extR S 232) (hR : mz_rok R 232)  (v3 : Int32) (v4 : Int32) (N : mz_N) {C0 : (mz_N) → Prop} (hr : ∀ (N2 : mz_N), C0 N2 → Q (.inl none) (mz_k S R N2 b t)) (hp : cp_237_3 v3 v4 N) (hC : C0 (cf_237_3 v3 v4 N)) : mz_G (d, mz_X0 L xs, none, [], mk_237, 6, Q) 3 mt_237_3 [(0, .ref 65), (1, .ref 2), (2, .ref 56), (3, .int v3), (4, .int v4)] [] false (mz_k S R N b t) := by
  obtain ⟨n, hn⟩ := hp
  exact g_loop (G := fun s => mz_G (d, mz_X0 L xs, none, [], mk_237, 6, Q) 3 mt_237_3 [(0, .ref 65), (1, .ref 2), (2, .ref 56), (3, .int v3), (4, .int s.1)] [] false (mz_k S R s.2 b t)) (C := C0) (fun C2 hc hx s hP hC => cb_237_3 hd hS hR v3 s hr hc hx hP hC) n (v4, N) hn hC
theorem cg_237_0 (hd : 2 ≤ d) (hS : mz_extR S 232) (hR : mz_rok R 232)  (v3 : Int32) (N : mz_N) {C0 : (mz_N) → Prop} (hr : ∀ (N2 : mz_N), C0 N2 → Q (.inl none) (mz_k S R N2 b t)) (hp : cp_237_0 v3 N) (hC : C0 (cf_237_0 v3 N)) : mz_G (d, mz_X0 L xs, none, [], mk_237, 6, Q) 0 mk_237 [(0, .ref 65), (1, .ref 2), (2, .ref 56), (3, .int v3)] [] true (mz_k S R N b t) := by
  unfold cf_237_0 at hC
  unfold cp_237_0 at hp
  refine g_iconst mzi_0 (g_istore (Nat.le_of_ble_eq_true rfl) rfl ?_)
  refine g_weak ?_ (g_cl (cg_237_3 hd hS hR v3 0 N hr hp hC))
  exact ⟨rfl, rfl, rfl, rfl, rfl, trivial⟩
theorem cs_237 (hd : 3 ≤ d) (hS : mz_extR S 232) (hR : mz_rok R 232)  (v3 : Int32) (N : mz_N) (hp : cp_237_0 v3 N) (hq : Q (.inl none) (mz_k S R (cf_237_0 v3 N) b t)) : mz_Ed (mz_X0 L xs) d 237 [.ref 65, .ref 2, .ref 56, .int v3] (mz_k S R N b t) Q :=
  by
  refine g_in mzq_237 (Nat.le_of_ble_eq_true rfl) (Nat.le_of_ble_eq_true rfl) (Nat.le_trans (Nat.le_of_ble_eq_true rfl) hd) ?_
  refine g_weak ?_ (cg_237_0 (d := d - 1) (by omega) hS hR v3 N (C0 := fun z => Q (.inl none) (mz_k S R z b t)) (fun _ h => h) hp hq)
  exact ⟨rfl, rfl, rfl, rfl, trivial⟩
/-! 241 KeptHouse$Books.greatest ([JI)I -/
theorem ms_241_0 : mz_sf mk_241 0 = mk_241 := mz_sf_zero _
theorem ms_241_4 : mz_sf mk_241 4 = mt_241_4 := mz_sf_add ms_241_0 (t := 4) rfl rfl
theorem ms_241_21 : mz_sf mk_241 21 = mt_241_21 := mz_sf_add ms_241_4 (t := 17) rfl rfl
theorem ms_241_27 : mz_sf mk_241 27 = mt_241_27 := mz_sf_add ms_241_21 (t := 6) rfl rfl
set_option maxRecDepth 100000 in
theorem mzq_241 : mz_PG0 241 = some (1, ⟨"KeptHouse$Books", "greatest", "([JI)I"⟩, prog_3_method_7_code, 4, some .int, [], mk_241, []) := rfl
theorem cg_241_21 (hd : 0 ≤ d) (hS : mz_extR S 232) (hR : mz_rok R 232) (a0 : Nat) (n0 : Nat) (hs0 : S[a0]? = some (1, n0, [])) (v1 : Int32) (v2 : Int32) (v3 : Int32) (N : mz_N) {C0 : (Int32) → Prop} (hr : ∀ (w : Int32), C0 w → Q (.inl (some (.int w))) (mz_k S R N b t)) {C1 : ((Int32 × Int32) ⊕ (Int32)) → Prop} (hc1 : ∀ s2, C1 (.inl s2) → mz_G (d, mz_X0 L xs, some .int, [], mk_241, 4, Q) 4 mt_241_4 [(0, .ref a0), (1, .int v1), (2, .int s2.1), (3, .int s2.2)] [] false (mz_k S R N b t)) (hx1 : ∀ z, C1 (.inr z) → C0 z) (hp : cp_241_21 a0 n0 v1 v2 v3 N) (hC : C1 (cf_241_21 a0 n0 v1 v2 v3 N)) : mz_G (d, mz_X0 L xs, some .int, [], mk_241, 4, Q) 21 mt_241_21 [(0, .ref a0), (1, .int v1), (2, .int v2), (3, .int v3)] [] false (mz_k S R N b t) := by
  unfold cf_241_21 at hC
  unfold cp_241_21 at hp
  refine g_iinc rfl mzi_1 (Nat.le_of_ble_eq_true rfl) rfl (g_goto (tg := 4) rfl ms_241_4 ?_)
  refine g_weak ?_ (g_cl (hc1 (v2, (v3 + 1)) hC))
  exact ⟨rfl, rfl, rfl, rfl, trivial⟩
theorem cb_241_4 (hd : 0 ≤ d) (hS : mz_extR S 232) (hR : mz_rok R 232) (a0 : Nat) (n0 : Nat) (hs0 : S[a0]? = some (1, n0, [])) (v1 : Int32) (N : mz_N) (s : Int32 × Int32) {C0 : (Int32) → Prop} (hr : ∀ (w : Int32), C0 w → Q (.inl (some (.int w))) (mz_k S R N b t)) {C1 : ((Int32 × Int32) ⊕ (Int32)) → Prop} (hc1 : ∀ s2, C1 (.inl s2) → mz_G (d, mz_X0 L xs, some .int, [], mk_241, 4, Q) 4 mt_241_4 [(0, .ref a0), (1, .int v1), (2, .int s2.1), (3, .int s2.2)] [] false (mz_k S R N b t)) (hx1 : ∀ z, C1 (.inr z) → C0 z) (hp : cd_241_4 a0 n0 v1 N s) (hC : C1 (cq_241_4 a0 n0 v1 N s)) : mz_G (d, mz_X0 L xs, some .int, [], mk_241, 4, Q) 4 mt_241_4 [(0, .ref a0), (1, .int v1), (2, .int s.1), (3, .int s.2)] [] false (mz_k S R N b t) := by
  unfold cq_241_4 at hC
  unfold cd_241_4 at hp
  refine g_iload_n rfl (g_iload_n rfl ?_)
  refine g_icge (tg := 27) rfl ms_241_27 hC (fun h1 hC => ?_) (fun h1 hC => ?_)
  · have hp := hp.1 h1
    refine g_aload_n rfl (g_iload_n rfl ?_)
    obtain ⟨h2, hp⟩ := hp
    refine g_lald hs0 h2 (g_aload_n rfl (g_iload_n rfl ?_))
    obtain ⟨h3, hp⟩ := hp
    refine g_lald hs0 h3 (g_lcmp ?_)
    refine g_lle (tg := 21) rfl ms_241_21 hC (fun h4 hC => ?_) (fun h4 hC => ?_)
    · have hp := hp.1 h4
      refine g_iload_n rfl (g_istore_n (Nat.le_of_ble_eq_true rfl) rfl ?_)
      refine g_weak ?_ (g_cl (cg_241_21 hd hS hR a0 n0 hs0 v1 s.2 s.2 N hr hc1 hx1 hp hC))
      exact ⟨rfl, rfl, rfl, rfl, trivial⟩
    · have hp := hp.2 h4
      refine g_weak ?_ (g_cl (cg_241_21 hd hS hR a0 n0 hs0 v1 s.1 s.2 N hr hc1 hx1 hp hC))
      exact ⟨rfl, rfl, rfl, rfl, trivial⟩
  · have hp := hp.2 h1
    refine g_iload_n rfl ?_
    exact g_iret rfl (hr _ (hx1 _ hC))
theorem cg_241_4 (hd : 0 ≤ d) (hS : mz_extR S 232) (hR : mz_rok R 232) (a0 : Nat) (n0 : Nat) (hs0 : S[a0]? = some (1, n0, [])) (v1 : Int32) (v2 : Int32) (v3 : Int32) (N : mz_N) {C0 : (Int32) → Prop} (hr : ∀ (w : Int32), C0 w → Q (.inl (some (.int w))) (mz_k S R N b t)) (hp : cp_241_4 a0 n0 v1 v2 v3 N) (hC : C0 (cf_241_4 a0 n0 v1 v2 v3 N)) : mz_G (d, mz_X0 L xs, some .int, [], mk_241, 4, Q) 4 mt_241_4 [(0, .ref a0), (1, .int v1), (2, .int v2), (3, .int v3)] [] false (mz_k S R N b t) := by
  obtain ⟨n, hn⟩ := hp
  exact g_loop (G := fun s => mz_G (d, mz_X0 L xs, some .int, [], mk_241, 4, Q) 4 mt_241_4 [(0, .ref a0), (1, .int v1), (2, .int s.1), (3, .int s.2)] [] false (mz_k S R N b t)) (C := C0) (fun C2 hc hx s hP hC => cb_241_4 hd hS hR a0 n0 hs0 v1 N s hr hc hx hP hC) n (v2, v3) hn hC
theorem cg_241_0 (hd : 0 ≤ d) (hS : mz_extR S 232) (hR : mz_rok R 232) (a0 : Nat) (n0 : Nat) (hs0 : S[a0]? = some (1, n0, [])) (v1 : Int32) (N : mz_N) {C0 : (Int32) → Prop} (hr : ∀ (w : Int32), C0 w → Q (.inl (some (.int w))) (mz_k S R N b t)) (hp : cp_241_0 a0 n0 v1 N) (hC : C0 (cf_241_0 a0 n0 v1 N)) : mz_G (d, mz_X0 L xs, some .int, [], mk_241, 4, Q) 0 mk_241 [(0, .ref a0), (1, .int v1)] [] true (mz_k S R N b t) := by
  unfold cf_241_0 at hC
  unfold cp_241_0 at hp
  refine g_iconst mzi_0 (g_istore_n (Nat.le_of_ble_eq_true rfl) rfl (g_iconst mzi_1 (g_istore_n (Nat.le_of_ble_eq_true rfl) rfl ?_)))
  refine g_weak ?_ (g_cl (cg_241_4 hd hS hR a0 n0 hs0 v1 0 1 N hr hp hC))
  exact ⟨rfl, rfl, rfl, rfl, trivial⟩
theorem cs_241 (hd : 1 ≤ d) (hS : mz_extR S 232) (hR : mz_rok R 232) (a0 : Nat) (n0 : Nat) (hs0 : S[a0]? = some (1, n0, [])) (v1 : Int32) (N : mz_N) (hp : cp_241_0 a0 n0 v1 N) (hq : Q (.inl (some (.int (cf_241_0 a0 n0 v1 N)))) (mz_k S R N b t)) : mz_Ed (mz_X0 L xs) d 241 [.ref a0, .int v1] (mz_k S R N b t) Q :=
  by
  refine g_in mzq_241 (Nat.le_of_ble_eq_true rfl) (Nat.le_of_ble_eq_true rfl) (Nat.le_trans (Nat.le_of_ble_eq_true rfl) hd) ?_
  refine g_weak ?_ (cg_241_0 (d := d - 1) (by omega) hS hR a0 n0 hs0 v1 N (C0 := fun z => Q (.inl (some (.int z))) (mz_k S R N b t)) (fun _ h => h) hp hq)
  exact ⟨rfl, rfl, trivial⟩
/-! 240 KeptHouse$Books.share (J[JI[J[J)Z -/
theorem ms_240_0 : mz_sf mk_240 0 = mk_240 := mz_sf_zero _
theorem ms_240_6 : mz_sf mk_240 6 = mt_240_6 := mz_sf_add ms_240_0 (t := 6) rfl rfl
theorem ms_240_27 : mz_sf mk_240 27 = mt_240_27 := mz_sf_add ms_240_6 (t := 21) rfl rfl
theorem ms_240_33 : mz_sf mk_240 33 = mt_240_33 := mz_sf_add ms_240_27 (t := 6) rfl rfl
theorem ms_240_42 : mz_sf mk_240 42 = mt_240_42 := mz_sf_add ms_240_33 (t := 9) rfl rfl
theorem ms_240_48 : mz_sf mk_240 48 = mt_240_48 := mz_sf_add ms_240_42 (t := 6) rfl rfl
theorem ms_240_68 : mz_sf mk_240 68 = mt_240_68 := mz_sf_add ms_240_48 (t := 20) rfl rfl
theorem ms_240_92 : mz_sf mk_240 92 = mt_240_92 := mz_sf_add ms_240_68 (t := 24) rfl rfl
theorem ms_240_98 : mz_sf mk_240 98 = mt_240_98 := mz_sf_add ms_240_92 (t := 6) rfl rfl
theorem ms_240_101 : mz_sf mk_240 101 = mt_240_101 := mz_sf_add ms_240_98 (t := 3) rfl rfl
theorem ms_240_131 : mz_sf mk_240 131 = mt_240_131 := mz_sf_add ms_240_101 (t := 30) rfl rfl
theorem ms_240_151 : mz_sf mk_240 151 = mt_240_151 := mz_sf_add ms_240_131 (t := 20) rfl rfl
set_option maxRecDepth 100000 in
theorem mzq_240 : mz_PG0 240 = some (1, ⟨"KeptHouse$Books", "share", "(J[JI[J[J)Z"⟩, prog_3_method_6_code, 12, some .boolean, [], mk_240, []) := rfl
theorem cg_240_92 (hd : 1 ≤ d) (hS : mz_extR S 232) (hR : mz_rok R 232) (a1 : Nat) (n1 : Nat) (a3 : Nat) (n3 : Nat) (a4 : Nat) (n4 : Nat) (hs1 : S[a1]? = some (1, n1, [])) (hs3 : S[a3]? = some (1, n3, [])) (hs4 : S[a4]? = some (1, n4, [])) (v0 : Int64) (v3 : Int32) (v6 : Int64) (v8 : Int64) (v10 : Int32) (N : mz_N) {C0 : (Bool × mz_N) → Prop} (hr : ∀ (w : Bool) (N2 : mz_N), C0 (w, N2) → Q (.inl (some (.int (mz_b01 w)))) (mz_k S R N2 b t)) {C1 : ((Int64 × Int32 × mz_N) ⊕ (Bool × mz_N)) → Prop} (hc1 : ∀ s2, C1 (.inl s2) → mz_G (d, mz_X0 L xs, some .boolean, [], mk_240, 12, Q) 48 mt_240_48 [(0, .long v0), (2, .ref a1), (3, .int v3), (4, .ref a3), (5, .ref a4), (6, .long v6), (8, .long s2.1), (10, .int s2.2.1)] [] false (mz_k S R s2.2.2 b t)) (hx1 : ∀ z, C1 (.inr z) → C0 z) (hp : cp_240_92 a1 n1 a3 n3 a4 n4 v0 v3 v6 v8 v10 N) (hC : C1 (cf_240_92 a1 n1 a3 n3 a4 n4 v0 v3 v6 v8 v10 N)) : mz_G (d, mz_X0 L xs, some .boolean, [], mk_240, 12, Q) 92 mt_240_92 [(0, .long v0), (2, .ref a1), (3, .int v3), (4, .ref a3), (5, .ref a4), (6, .long v6), (8, .long v8), (10, .int v10)] [] false (mz_k S R N b t) := by
  unfold cf_240_92 at hC
  unfold cp_240_92 at hp
  refine g_iinc rfl mzi_1 (Nat.le_of_ble_eq_true rfl) rfl (g_goto (tg := 48) rfl ms_240_48 ?_)
  refine g_weak ?_ (g_cl (hc1 (v8, (v10 + 1), N) hC))
  exact ⟨rfl, rfl, rfl, rfl, rfl, rfl, rfl, rfl, trivial⟩
theorem cg_240_131 (hd : 1 ≤ d) (hS : mz_extR S 232) (hR : mz_rok R 232) (a1 : Nat) (n1 : Nat) (a3 : Nat) (n3 : Nat) (a4 : Nat) (n4 : Nat) (hs1 : S[a1]? = some (1, n1, [])) (hs3 : S[a3]? = some (1, n3, [])) (hs4 : S[a4]? = some (1, n4, [])) (v3 : Int32) (v8 : Int64) (v10 : Int32) (v11 : Int32) (N : mz_N) {C0 : (Bool × mz_N) → Prop} (hr : ∀ (w : Bool) (N2 : mz_N), C0 (w, N2) → Q (.inl (some (.int (mz_b01 w)))) (mz_k S R N2 b t)) {C1 : ((Int64 × Int32 × mz_N) ⊕ (Bool × mz_N)) → Prop} (hc1 : ∀ s2, C1 (.inl s2) → mz_G (d, mz_X0 L xs, some .boolean, [], mk_240, 12, Q) 101 mt_240_101 [(3, .int v3), (4, .ref a3), (5, .ref a4), (8, .long s2.1), (10, .int s2.2.1)] [] false (mz_k S R s2.2.2 b t)) (hx1 : ∀ z, C1 (.inr z) → C0 z) (hp : cp_240_131 a1 n1 a3 n3 a4 n4 v3 v8 v10 v11 N) (hC : C1 (cf_240_131 a1 n1 a3 n3 a4 n4 v3 v8 v10 v11 N)) : mz_G (d, mz_X0 L xs, some .boolean, [], mk_240, 12, Q) 131 mt_240_131 [(3, .int v3), (4, .ref a3), (5, .ref a4), (8, .long v8), (10, .int v10), (11, .int v11)] [] false (mz_k S R N b t) := by
  unfold cf_240_131 at hC
  unfold cp_240_131 at hp
  refine g_aload rfl (g_iload rfl (g_con3 ?_))
  have h1 := hp
  refine g_last hs4 h1 (g_lload rfl (g_lconst mzl_1 (g_lsub (g_lstore (Nat.le_of_ble_eq_true rfl) rfl rfl (g_iinc rfl mzi_1 (Nat.le_of_ble_eq_true rfl) rfl (g_goto (tg := 101) rfl ms_240_101 ?_))))))
  have hg := hc1 ((v8 - 1), (v10 + 1), mz_wL N a4 v11 (-1)) hC
  try dsimp only at hg
  refine g_weak ?_ (g_cl hg)
  exact ⟨rfl, rfl, rfl, rfl, rfl, trivial⟩
theorem cb_240_101 (hd : 1 ≤ d) (hS : mz_extR S 232) (hR : mz_rok R 232) (a1 : Nat) (n1 : Nat) (a3 : Nat) (n3 : Nat) (a4 : Nat) (n4 : Nat) (hs1 : S[a1]? = some (1, n1, [])) (hs3 : S[a3]? = some (1, n3, [])) (hs4 : S[a4]? = some (1, n4, [])) (v3 : Int32) (s : Int64 × Int32 × mz_N) {C0 : (Bool × mz_N) → Prop} (hr : ∀ (w : Bool) (N2 : mz_N), C0 (w, N2) → Q (.inl (some (.int (mz_b01 w)))) (mz_k S R N2 b t)) {C1 : ((Int64 × Int32 × mz_N) ⊕ (Bool × mz_N)) → Prop} (hc1 : ∀ s2, C1 (.inl s2) → mz_G (d, mz_X0 L xs, some .boolean, [], mk_240, 12, Q) 101 mt_240_101 [(3, .int v3), (4, .ref a3), (5, .ref a4), (8, .long s2.1), (10, .int s2.2.1)] [] false (mz_k S R s2.2.2 b t)) (hx1 : ∀ z, C1 (.inr z) → C0 z) (hp : cd_240_101 a1 n1 a3 n3 a4 n4 v3 s) (hC : C1 (cq_240_101 a1 n1 a3 n3 a4 n4 v3 s)) : mz_G (d, mz_X0 L xs, some .boolean, [], mk_240, 12, Q) 101 mt_240_101 [(3, .int v3), (4, .ref a3), (5, .ref a4), (8, .long s.1), (10, .int s.2.1)] [] false (mz_k S R s.2.2 b t) := by
  unfold cq_240_101 at hC
  unfold cd_240_101 at hp
  refine g_iload rfl (g_iload_n rfl ?_)
  refine g_icge (tg := 151) rfl ms_240_151 hC (fun h1 hC => ?_) (fun h1 hC => ?_)
  · have hp := hp.1 h1
    refine g_lload rfl (g_lconst mzl_0 (g_lcmp ?_))
    refine g_lle (tg := 151) rfl ms_240_151 hC (fun h2 hC => ?_) (fun h2 hC => ?_)
    · have hp := hp.1 h2
      refine g_aload rfl (g_iload_n rfl ?_)
      obtain ⟨h3, hp⟩ := hp
      refine g_s2v (Nat.le_of_ble_eq_true rfl) (fun _ hq => cs_241 (Nat.le_trans (Nat.le_of_ble_eq_true rfl) hd) (hS.le (Nat.le_of_ble_eq_true rfl)) (hR.le (Nat.le_of_ble_eq_true rfl)) a4 n4 hs4 v3 s.2.2 h3 hq) (g_istore (Nat.le_of_ble_eq_true rfl) rfl (g_aload rfl (g_iload rfl (g_dup2 rfl rfl ?_))))
      obtain ⟨h4, hp⟩ := hp
      refine g_lald hs3 h4 (g_lconst mzl_1 (g_ladd ?_))
      obtain ⟨h5, hp⟩ := hp
      refine g_last hs3 h5 ?_
      refine g_weak ?_ (g_cl (cg_240_131 hd hS hR a1 n1 a3 n3 a4 n4 hs1 hs3 hs4 v3 s.1 s.2.1 (cf_241_0 a4 n4 v3 s.2.2) (mz_wL s.2.2 a3 (cf_241_0 a4 n4 v3 s.2.2) ((mz_gL s.2.2 a3 (cf_241_0 a4 n4 v3 s.2.2)) + 1)) hr hc1 hx1 hp hC))
      exact ⟨rfl, rfl, rfl, rfl, rfl, rfl, trivial⟩
    · have hp := hp.2 h2
      refine g_iconst mzi_1 ?_
      exact g_zret (z := true) rfl (hr _ _ (hx1 _ hC))
  · have hp := hp.2 h1
    refine g_iconst mzi_1 ?_
    exact g_zret (z := true) rfl (hr _ _ (hx1 _ hC))
theorem cg_240_101 (hd : 1 ≤ d) (hS : mz_extR S 232) (hR : mz_rok R 232) (a1 : Nat) (n1 : Nat) (a3 : Nat) (n3 : Nat) (a4 : Nat) (n4 : Nat) (hs1 : S[a1]? = some (1, n1, [])) (hs3 : S[a3]? = some (1, n3, [])) (hs4 : S[a4]? = some (1, n4, [])) (v3 : Int32) (v8 : Int64) (v10 : Int32) (N : mz_N) {C0 : (Bool × mz_N) → Prop} (hr : ∀ (w : Bool) (N2 : mz_N), C0 (w, N2) → Q (.inl (some (.int (mz_b01 w)))) (mz_k S R N2 b t)) (hp : cp_240_101 a1 n1 a3 n3 a4 n4 v3 v8 v10 N) (hC : C0 (cf_240_101 a1 n1 a3 n3 a4 n4 v3 v8 v10 N)) : mz_G (d, mz_X0 L xs, some .boolean, [], mk_240, 12, Q) 101 mt_240_101 [(3, .int v3), (4, .ref a3), (5, .ref a4), (8, .long v8), (10, .int v10)] [] false (mz_k S R N b t) := by
  obtain ⟨n, hn⟩ := hp
  exact g_loop (G := fun s => mz_G (d, mz_X0 L xs, some .boolean, [], mk_240, 12, Q) 101 mt_240_101 [(3, .int v3), (4, .ref a3), (5, .ref a4), (8, .long s.1), (10, .int s.2.1)] [] false (mz_k S R s.2.2 b t)) (C := C0) (fun C2 hc hx s hP hC => cb_240_101 hd hS hR a1 n1 a3 n3 a4 n4 hs1 hs3 hs4 v3 s hr hc hx hP hC) n (v8, v10, N) hn hC
theorem cb_240_48 (hd : 1 ≤ d) (hS : mz_extR S 232) (hR : mz_rok R 232) (a1 : Nat) (n1 : Nat) (a3 : Nat) (n3 : Nat) (a4 : Nat) (n4 : Nat) (hs1 : S[a1]? = some (1, n1, [])) (hs3 : S[a3]? = some (1, n3, [])) (hs4 : S[a4]? = some (1, n4, [])) (v0 : Int64) (v3 : Int32) (v6 : Int64) (s : Int64 × Int32 × mz_N) {C0 : (Bool × mz_N) → Prop} (hr : ∀ (w : Bool) (N2 : mz_N), C0 (w, N2) → Q (.inl (some (.int (mz_b01 w)))) (mz_k S R N2 b t)) {C1 : ((Int64 × Int32 × mz_N) ⊕ (Bool × mz_N)) → Prop} (hc1 : ∀ s2, C1 (.inl s2) → mz_G (d, mz_X0 L xs, some .boolean, [], mk_240, 12, Q) 48 mt_240_48 [(0, .long v0), (2, .ref a1), (3, .int v3), (4, .ref a3), (5, .ref a4), (6, .long v6), (8, .long s2.1), (10, .int s2.2.1)] [] false (mz_k S R s2.2.2 b t)) (hx1 : ∀ z, C1 (.inr z) → C0 z) (hp : cd_240_48 a1 n1 a3 n3 a4 n4 v0 v3 v6 s) (hC : C1 (cq_240_48 a1 n1 a3 n3 a4 n4 v0 v3 v6 s)) : mz_G (d, mz_X0 L xs, some .boolean, [], mk_240, 12, Q) 48 mt_240_48 [(0, .long v0), (2, .ref a1), (3, .int v3), (4, .ref a3), (5, .ref a4), (6, .long v6), (8, .long s.1), (10, .int s.2.1)] [] false (mz_k S R s.2.2 b t) := by
  unfold cq_240_48 at hC
  unfold cd_240_48 at hp
  refine g_iload rfl (g_iload_n rfl ?_)
  refine g_icge (tg := 98) rfl ms_240_98 hC (fun h1 hC => ?_) (fun h1 hC => ?_)
  · have hp := hp.1 h1
    refine g_aload rfl (g_iload rfl (g_lload_n rfl (g_aload_n rfl (g_iload rfl ?_))))
    obtain ⟨h2, hp⟩ := hp
    refine g_lald hs1 h2 (g_lmul (g_lload rfl ?_))
    obtain ⟨h3, hp⟩ := hp
    refine g_ldiv h3 ?_
    obtain ⟨h4, hp⟩ := hp
    refine g_last hs3 h4 (g_aload rfl (g_iload rfl (g_lload_n rfl (g_aload_n rfl (g_iload rfl ?_)))))
    obtain ⟨h5, hp⟩ := hp
    refine g_lald hs1 h5 (g_lmul (g_lload rfl ?_))
    obtain ⟨h6, hp⟩ := hp
    refine g_lrem h6 ?_
    obtain ⟨h7, hp⟩ := hp
    refine g_last hs4 h7 (g_lload rfl (g_aload rfl (g_iload rfl ?_)))
    obtain ⟨h8, hp⟩ := hp
    refine g_lald hs3 h8 (g_lsub (g_lstore (Nat.le_of_ble_eq_true rfl) rfl rfl ?_))
    refine g_weak ?_ (g_cl (cg_240_92 hd hS hR a1 n1 a3 n3 a4 n4 hs1 hs3 hs4 v0 v3 v6 (s.1 - (mz_gL (mz_wL (mz_wL s.2.2 a3 s.2.1 ((v0 * (mz_gL s.2.2 a1 s.2.1)) / v6)) a4 s.2.1 (mz_lrem (v0 * (mz_gL (mz_wL s.2.2 a3 s.2.1 ((v0 * (mz_gL s.2.2 a1 s.2.1)) / v6)) a1 s.2.1)) v6)) a3 s.2.1)) s.2.1 (mz_wL (mz_wL s.2.2 a3 s.2.1 ((v0 * (mz_gL s.2.2 a1 s.2.1)) / v6)) a4 s.2.1 (mz_lrem (v0 * (mz_gL (mz_wL s.2.2 a3 s.2.1 ((v0 * (mz_gL s.2.2 a1 s.2.1)) / v6)) a1 s.2.1)) v6)) hr hc1 hx1 hp hC))
    exact ⟨rfl, rfl, rfl, rfl, rfl, rfl, rfl, rfl, trivial⟩
  · have hp := hp.2 h1
    refine g_iconst mzi_0 (g_istore (Nat.le_of_ble_eq_true rfl) rfl ?_)
    refine g_weak ?_ (g_cl (cg_240_101 hd hS hR a1 n1 a3 n3 a4 n4 hs1 hs3 hs4 v3 s.1 0 s.2.2 hr hp (hx1 _ hC)))
    exact ⟨rfl, rfl, rfl, rfl, rfl, trivial⟩
theorem cg_240_48 (hd : 1 ≤ d) (hS : mz_extR S 232) (hR : mz_rok R 232) (a1 : Nat) (n1 : Nat) (a3 : Nat) (n3 : Nat) (a4 : Nat) (n4 : Nat) (hs1 : S[a1]? = some (1, n1, [])) (hs3 : S[a3]? = some (1, n3, [])) (hs4 : S[a4]? = some (1, n4, [])) (v0 : Int64) (v3 : Int32) (v6 : Int64) (v8 : Int64) (v10 : Int32) (N : mz_N) {C0 : (Bool × mz_N) → Prop} (hr : ∀ (w : Bool) (N2 : mz_N), C0 (w, N2) → Q (.inl (some (.int (mz_b01 w)))) (mz_k S R N2 b t)) (hp : cp_240_48 a1 n1 a3 n3 a4 n4 v0 v3 v6 v8 v10 N) (hC : C0 (cf_240_48 a1 n1 a3 n3 a4 n4 v0 v3 v6 v8 v10 N)) : mz_G (d, mz_X0 L xs, some .boolean, [], mk_240, 12, Q) 48 mt_240_48 [(0, .long v0), (2, .ref a1), (3, .int v3), (4, .ref a3), (5, .ref a4), (6, .long v6), (8, .long v8), (10, .int v10)] [] false (mz_k S R N b t) := by
  obtain ⟨n, hn⟩ := hp
  exact g_loop (G := fun s => mz_G (d, mz_X0 L xs, some .boolean, [], mk_240, 12, Q) 48 mt_240_48 [(0, .long v0), (2, .ref a1), (3, .int v3), (4, .ref a3), (5, .ref a4), (6, .long v6), (8, .long s.1), (10, .int s.2.1)] [] false (mz_k S R s.2.2 b t)) (C := C0) (fun C2 hc hx s hP hC => cb_240_48 hd hS hR a1 n1 a3 n3 a4 n4 hs1 hs3 hs4 v0 v3 v6 s hr hc hx hP hC) n (v8, v10, N) hn hC
theorem cb_240_6 (hd : 1 ≤ d) (hS : mz_extR S 232) (hR : mz_rok R 232) (a1 : Nat) (n1 : Nat) (a3 : Nat) (n3 : Nat) (a4 : Nat) (n4 : Nat) (hs1 : S[a1]? = some (1, n1, [])) (hs3 : S[a3]? = some (1, n3, [])) (hs4 : S[a4]? = some (1, n4, [])) (v0 : Int64) (v3 : Int32) (s : Int64 × Int32 × mz_N) {C0 : (Bool × mz_N) → Prop} (hr : ∀ (w : Bool) (N2 : mz_N), C0 (w, N2) → Q (.inl (some (.int (mz_b01 w)))) (mz_k S R N2 b t)) {C1 : ((Int64 × Int32 × mz_N) ⊕ (Bool × mz_N)) → Prop} (hc1 : ∀ s2, C1 (.inl s2) → mz_G (d, mz_X0 L xs, some .boolean, [], mk_240, 12, Q) 6 mt_240_6 [(0, .long v0), (2, .ref a1), (3, .int v3), (4, .ref a3), (5, .ref a4), (6, .long s2.1), (8, .int s2.2.1)] [] false (mz_k S R s2.2.2 b t)) (hx1 : ∀ z, C1 (.inr z) → C0 z) (hp : cd_240_6 a1 n1 a3 n3 a4 n4 v0 v3 s) (hC : C1 (cq_240_6 a1 n1 a3 n3 a4 n4 v0 v3 s)) : mz_G (d, mz_X0 L xs, some .boolean, [], mk_240, 12, Q) 6 mt_240_6 [(0, .long v0), (2, .ref a1), (3, .int v3), (4, .ref a3), (5, .ref a4), (6, .long s.1), (8, .int s.2.1)] [] false (mz_k S R s.2.2 b t) := by
  unfold cq_240_6 at hC
  unfold cd_240_6 at hp
  refine g_iload rfl (g_iload_n rfl ?_)
  refine g_icge (tg := 33) rfl ms_240_33 hC (fun h1 hC => ?_) (fun h1 hC => ?_)
  · have hp := hp.1 h1
    refine g_lload rfl (g_aload_n rfl (g_iload rfl ?_))
    obtain ⟨h2, hp⟩ := hp
    refine g_lald hs1 h2 (g_ladd (g_lstore (Nat.le_of_ble_eq_true rfl) rfl rfl (g_aload rfl (g_iload rfl (g_lconst mzl_0 ?_)))))
    have h3 := hp
    refine g_last hs3 h3 (g_iinc rfl mzi_1 (Nat.le_of_ble_eq_true rfl) rfl (g_goto (tg := 6) rfl ms_240_6 ?_))
    refine g_weak ?_ (g_cl (hc1 ((s.1 + (mz_gL s.2.2 a1 s.2.1)), (s.2.1 + 1), mz_wL s.2.2 a3 s.2.1 0) hC))
    exact ⟨rfl, rfl, rfl, rfl, rfl, rfl, rfl, trivial⟩
  · have hp := hp.2 h1
    refine g_lload rfl (g_lconst mzl_0 (g_lcmp ?_))
    refine g_lgt (tg := 42) rfl ms_240_42 hC (fun h4 hC => ?_) (fun h4 hC => ?_)
    · have hp := hp.1 h4
      refine g_lload_n rfl (g_lstore (Nat.le_of_ble_eq_true rfl) rfl rfl (g_iconst mzi_0 (g_istore (Nat.le_of_ble_eq_true rfl) rfl ?_)))
      refine g_weak ?_ (g_cl (cg_240_48 hd hS hR a1 n1 a3 n3 a4 n4 hs1 hs3 hs4 v0 v3 s.1 v0 0 s.2.2 hr hp (hx1 _ hC)))
      exact ⟨rfl, rfl, rfl, rfl, rfl, rfl, rfl, rfl, trivial⟩
    · have hp := hp.2 h4
      refine g_iconst mzi_0 ?_
      exact g_zret (z := false) rfl (hr _ _ (hx1 _ hC))
theorem cg_240_6 (hd : 1 ≤ d) (hS : mz_extR S 232) (hR : mz_rok R 232) (a1 : Nat) (n1 : Nat) (a3 : Nat) (n3 : Nat) (a4 : Nat) (n4 : Nat) (hs1 : S[a1]? = some (1, n1, [])) (hs3 : S[a3]? = some (1, n3, [])) (hs4 : S[a4]? = some (1, n4, [])) (v0 : Int64) (v3 : Int32) (v6 : Int64) (v8 : Int32) (N : mz_N) {C0 : (Bool × mz_N) → Prop} (hr : ∀ (w : Bool) (N2 : mz_N), C0 (w, N2) → Q (.inl (some (.int (mz_b01 w)))) (mz_k S R N2 b t)) (hp : cp_240_6 a1 n1 a3 n3 a4 n4 v0 v3 v6 v8 N) (hC : C0 (cf_240_6 a1 n1 a3 n3 a4 n4 v0 v3 v6 v8 N)) : mz_G (d, mz_X0 L xs, some .boolean, [], mk_240, 12, Q) 6 mt_240_6 [(0, .long v0), (2, .ref a1), (3, .int v3), (4, .ref a3), (5, .ref a4), (6, .long v6), (8, .int v8)] [] false (mz_k S R N b t) := by
  obtain ⟨n, hn⟩ := hp
  exact g_loop (G := fun s => mz_G (d, mz_X0 L xs, some .boolean, [], mk_240, 12, Q) 6 mt_240_6 [(0, .long v0), (2, .ref a1), (3, .int v3), (4, .ref a3), (5, .ref a4), (6, .long s.1), (8, .int s.2.1)] [] false (mz_k S R s.2.2 b t)) (C := C0) (fun C2 hc hx s hP hC => cb_240_6 hd hS hR a1 n1 a3 n3 a4 n4 hs1 hs3 hs4 v0 v3 s hr hc hx hP hC) n (v6, v8, N) hn hC
theorem cg_240_0 (hd : 1 ≤ d) (hS : mz_extR S 232) (hR : mz_rok R 232) (a1 : Nat) (n1 : Nat) (a3 : Nat) (n3 : Nat) (a4 : Nat) (n4 : Nat) (hs1 : S[a1]? = some (1, n1, [])) (hs3 : S[a3]? = some (1, n3, [])) (hs4 : S[a4]? = some (1, n4, [])) (v0 : Int64) (v3 : Int32) (N : mz_N) {C0 : (Bool × mz_N) → Prop} (hr : ∀ (w : Bool) (N2 : mz_N), C0 (w, N2) → Q (.inl (some (.int (mz_b01 w)))) (mz_k S R N2 b t)) (hp : cp_240_0 a1 n1 a3 n3 a4 n4 v0 v3 N) (hC : C0 (cf_240_0 a1 n1 a3 n3 a4 n4 v0 v3 N)) : mz_G (d, mz_X0 L xs, some .boolean, [], mk_240, 12, Q) 0 mk_240 [(0, .long v0), (2, .ref a1), (3, .int v3), (4, .ref a3), (5, .ref a4)] [] true (mz_k S R N b t) := by
  unfold cf_240_0 at hC
  unfold cp_240_0 at hp
  refine g_lconst mzl_0 (g_lstore (Nat.le_of_ble_eq_true rfl) rfl rfl (g_iconst mzi_0 (g_istore (Nat.le_of_ble_eq_true rfl) rfl ?_)))
  refine g_weak ?_ (g_cl (cg_240_6 hd hS hR a1 n1 a3 n3 a4 n4 hs1 hs3 hs4 v0 v3 0 0 N hr hp hC))
  exact ⟨rfl, rfl, rfl, rfl, rfl, rfl, rfl, trivial⟩
theorem cs_240 (hd : 2 ≤ d) (hS : mz_extR S 232) (hR : mz_rok R 232) (a1 : Nat) (n1 : Nat) (a3 : Nat) (n3 : Nat) (a4 : Nat) (n4 : Nat) (hs1 : S[a1]? = some (1, n1, [])) (hs3 : S[a3]? = some (1, n3, [])) (hs4 : S[a4]? = some (1, n4, [])) (v0 : Int64) (v3 : Int32) (N : mz_N) (hp : cp_240_0 a1 n1 a3 n3 a4 n4 v0 v3 N) (hq : Q (.inl (some (.int (mz_b01 ((cf_240_0 a1 n1 a3 n3 a4 n4 v0 v3 N).1))))) (mz_k S R ((cf_240_0 a1 n1 a3 n3 a4 n4 v0 v3 N).2) b t)) : mz_Ed (mz_X0 L xs) d 240 [.long v0, .ref a1, .int v3, .ref a3, .ref a4] (mz_k S R N b t) Q :=
  by
  refine g_in mzq_240 (Nat.le_of_ble_eq_true rfl) (Nat.le_of_ble_eq_true rfl) (Nat.le_trans (Nat.le_of_ble_eq_true rfl) hd) ?_
  refine g_weak ?_ (cg_240_0 (d := d - 1) (by omega) hS hR a1 n1 a3 n3 a4 n4 hs1 hs3 hs4 v0 v3 N (C0 := fun z => Q (.inl (some (.int (mz_b01 z.1)))) (mz_k S R z.2 b t)) (fun _ _ h => h) hp hq)
  exact ⟨rfl, rfl, rfl, rfl, rfl, trivial⟩
/-! 239 KeptHouse$Climate.boil (LKeptHouse$Plan;LKeptHouse$Supply;LKeptHouse$Books;[I)V -/
theorem ms_239_0 : mz_sf mk_239 0 = mk_239 := mz_sf_zero _
theorem ms_239_12 : mz_sf mk_239 12 = mt_239_12 := mz_sf_add ms_239_0 (t := 12) rfl rfl
theorem ms_239_41 : mz_sf mk_239 41 = mt_239_41 := mz_sf_add ms_239_12 (t := 29) rfl rfl
theorem ms_239_63 : mz_sf mk_239 63 = mt_239_63 := mz_sf_add ms_239_41 (t := 22) rfl rfl
theorem ms_239_66 : mz_sf mk_239 66 = mt_239_66 := mz_sf_add ms_239_63 (t := 3) rfl rfl
theorem ms_239_101 : mz_sf mk_239 101 = mt_239_101 := mz_sf_add ms_239_66 (t := 35) rfl rfl
theorem ms_239_119 : mz_sf mk_239 119 = mt_239_119 := mz_sf_add ms_239_101 (t := 18) rfl rfl
theorem ms_239_153 : mz_sf mk_239 153 = mt_239_153 := mz_sf_add ms_239_119 (t := 34) rfl rfl
theorem ms_239_189 : mz_sf mk_239 189 = mt_239_189 := mz_sf_add ms_239_153 (t := 36) rfl rfl
theorem ms_239_192 : mz_sf mk_239 192 = mt_239_192 := mz_sf_add ms_239_189 (t := 3) rfl rfl
theorem ms_239_216 : mz_sf mk_239 216 = mt_239_216 := mz_sf_add ms_239_192 (t := 24) rfl rfl
theorem ms_239_248 : mz_sf mk_239 248 = mt_239_248 := mz_sf_add ms_239_216 (t := 32) rfl rfl
theorem ms_239_254 : mz_sf mk_239 254 = mt_239_254 := mz_sf_add ms_239_248 (t := 6) rfl rfl
theorem ms_239_291 : mz_sf mk_239 291 = mt_239_291 := mz_sf_add ms_239_254 (t := 37) rfl rfl
theorem ms_239_315 : mz_sf mk_239 315 = mt_239_315 := mz_sf_add ms_239_291 (t := 24) rfl rfl
set_option maxRecDepth 100000 in
theorem mzq_239 : mz_PG0 239 = some (3, ⟨"KeptHouse$Climate", "boil", "(LKeptHouse$Plan;LKeptHouse$Supply;LKeptHouse$Books;[I)V"⟩, prog_5_method_16_code, 13, none, [], mk_239, []) := rfl
theorem cg_239_101 (hd : 2 ≤ d) (hS : mz_extR S 232) (hR : mz_rok R 232)  (v5 : Int32) (v6 : Int64) (v8 : Int32) (N : mz_N) {C0 : (mz_N) → Prop} (hr : ∀ (N2 : mz_N), C0 N2 → Q (.inl none) (mz_k S R N2 b t)) {C1 : ((Int64 × Int32 × mz_N) ⊕ (mz_N)) → Prop} (hc1 : ∀ s2, C1 (.inl s2) → mz_G (d, mz_X0 L xs, none, [], mk_239, 13, Q) 12 mt_239_12 [(0, .ref 65), (1, .ref 2), (2, .ref 56), (3, .ref 208), (4, .ref 53), (5, .int v5), (6, .long s2.1), (8, .int s2.2.1)] [] false (mz_k S R s2.2.2 b t)) (hx1 : ∀ z, C1 (.inr z) → C0 z) (hp : cp_239_101 v5 v6 v8 N) (hC : C1 (cf_239_101 v5 v6 v8 N)) : mz_G (d, mz_X0 L xs, none, [], mk_239, 13, Q) 101 mt_239_101 [(0, .ref 65), (1, .ref 2), (2, .ref 56), (3, .ref 208), (4, .ref 53), (5, .int v5), (6, .long v6), (8, .int v8)] [] false (mz_k S R N b t) := by
  unfold cf_239_101 at hC
  unfold cp_239_101 at hp
  refine g_lload rfl (g_aload_n rfl (g_getR (mz_at hS (Nat.le_of_ble_eq_true rfl) mzcS_65) mzcf_3_11 (mz_rb hR (Nat.le_of_ble_eq_true rfl) rfl mzcR_65_11) (g_iload rfl ?_)))
  have h1 := hp
  refine g_lald (mz_at hS (Nat.le_of_ble_eq_true rfl) mzcS_76) h1 (g_ladd (g_lstore (Nat.le_of_ble_eq_true rfl) rfl rfl (g_iinc rfl mzi_1 (Nat.le_of_ble_eq_true rfl) rfl (g_goto (tg := 12) rfl ms_239_12 ?_))))
  refine g_weak ?_ (g_cl (hc1 ((v6 + (mz_gL N 76 v8)), (v8 + 1), N) hC))
  exact ⟨rfl, rfl, rfl, rfl, rfl, rfl, rfl, rfl, trivial⟩
theorem cg_239_66 (hd : 2 ≤ d) (hS : mz_extR S 232) (hR : mz_rok R 232)  (s0 : Int64) (s1 : Int32) (v5 : Int32) (v6 : Int64) (v8 : Int32) (v9 : Int32) (N : mz_N) {C0 : (mz_N) → Prop} (hr : ∀ (N2 : mz_N), C0 N2 → Q (.inl none) (mz_k S R N2 b t)) {C1 : ((Int64 × Int32 × mz_N) ⊕ (mz_N)) → Prop} (hc1 : ∀ s2, C1 (.inl s2) → mz_G (d, mz_X0 L xs, none, [], mk_239, 13, Q) 12 mt_239_12 [(0, .ref 65), (1, .ref 2), (2, .ref 56), (3, .ref 208), (4, .ref 53), (5, .int v5), (6, .long s2.1), (8, .int s2.2.1)] [] false (mz_k S R s2.2.2 b t)) (hx1 : ∀ z, C1 (.inr z) → C0 z) (hp : cp_239_66 s0 s1 v5 v6 v8 v9 N) (hC : C1 (cf_239_66 s0 s1 v5 v6 v8 v9 N)) : mz_G (d, mz_X0 L xs, none, [], mk_239, 13, Q) 66 mt_239_66 [(0, .ref 65), (1, .ref 2), (2, .ref 56), (3, .ref 208), (4, .ref 53), (5, .int v5), (6, .long v6), (8, .int v8), (9, .int v9)] [.int s1, .long s0] false (mz_k S R N b t) := by
  unfold cf_239_66 at hC
  unfold cp_239_66 at hp
  refine g_i2l (g_lmul (g_aload_n rfl (g_getR (mz_at hS (Nat.le_of_ble_eq_true rfl) mzcS_65) mzcf_3_9 (mz_rb hR (Nat.le_of_ble_eq_true rfl) rfl mzcR_65_9) (g_iload rfl ?_))))
  obtain ⟨h1, hp⟩ := hp
  refine g_lald (mz_at hS (Nat.le_of_ble_eq_true rfl) mzcS_74) h1 (g_lsub (g_lstore (Nat.le_of_ble_eq_true rfl) rfl rfl (g_aload_n rfl (g_getR (mz_at hS (Nat.le_of_ble_eq_true rfl) mzcS_65) mzcf_3_11 (mz_rb hR (Nat.le_of_ble_eq_true rfl) rfl mzcR_65_11) (g_iload rfl (g_con3 (g_iload rfl ?_)))))))
  refine g_i2l (g_lmul (g_lconst mzl_0 (g_lload rfl (g_lmax (Nat.le_of_ble_eq_true rfl) (g_lmin (Nat.le_of_ble_eq_true rfl) ?_)))))
  obtain ⟨h2, hp⟩ := hp
  refine g_last (mz_at hS (Nat.le_of_ble_eq_true rfl) mzcS_76) h2 ?_
  refine g_weak ?_ (g_cl (cg_239_101 hd hS hR v5 v6 v8 (mz_wL N 76 v8 (mz_lmin (60 * v9.toInt64) (mz_lmax 0 ((s0 * s1.toInt64) - (mz_gL N 74 v8))))) hr hc1 hx1 hp hC))
  exact ⟨rfl, rfl, rfl, rfl, rfl, rfl, rfl, rfl, trivial⟩
theorem cg_239_248 (hd : 2 ≤ d) (hS : mz_extR S 232) (hR : mz_rok R 232)  (v5 : Int32) (v8 : Int64) (v10 : Int32) (N : mz_N) {C0 : (mz_N) → Prop} (hr : ∀ (N2 : mz_N), C0 N2 → Q (.inl none) (mz_k S R N2 b t)) {C1 : ((Int32 × mz_N) ⊕ (mz_N)) → Prop} (hc1 : ∀ s2, C1 (.inl s2) → mz_G (d, mz_X0 L xs, none, [], mk_239, 13, Q) 192 mt_239_192 [(0, .ref 65), (1, .ref 2), (2, .ref 56), (3, .ref 208), (5, .int v5), (8, .long v8), (10, .int s2.1)] [] false (mz_k S R s2.2 b t)) (hx1 : ∀ z, C1 (.inr z) → C0 z) (hp : cp_239_248 v5 v8 v10 N) (hC : C1 (cf_239_248 v5 v8 v10 N)) : mz_G (d, mz_X0 L xs, none, [], mk_239, 13, Q) 248 mt_239_248 [(0, .ref 65), (1, .ref 2), (2, .ref 56), (3, .ref 208), (5, .int v5), (8, .long v8), (10, .int v10)] [] false (mz_k S R N b t) := by
  unfold cf_239_248 at hC
  unfold cp_239_248 at hp
  refine g_iinc rfl mzi_1 (Nat.le_of_ble_eq_true rfl) rfl (g_goto (tg := 192) rfl ms_239_192 ?_)
  refine g_weak ?_ (g_cl (hc1 ((v10 + 1), N) hC))
  exact ⟨rfl, rfl, rfl, rfl, rfl, rfl, rfl, trivial⟩
theorem cg_239_291 (hd : 2 ≤ d) (hS : mz_extR S 232) (hR : mz_rok R 232)  (v8 : Int64) (N : mz_N) {C0 : (mz_N) → Prop} (hr : ∀ (N2 : mz_N), C0 N2 → Q (.inl none) (mz_k S R N2 b t)) (hp : cp_239_291 v8 N) (hC : C0 (cf_239_291 v8 N)) : mz_G (d, mz_X0 L xs, none, [], mk_239, 13, Q) 291 mt_239_291 [(2, .ref 56), (3, .ref 208), (8, .long v8)] [] false (mz_k S R N b t) := by
  unfold cf_239_291 at hC
  unfold cp_239_291 at hp
  refine g_aload_n rfl (g_dup rfl (g_getI (mz_at hS (Nat.le_of_ble_eq_true rfl) mzcS_208) mzcf_1_3 (g_con3 (g_lload rfl (g_lmul (g_con3 (g_ladd ?_)))))))
  refine g_con3 (g_ldiv (by decide) (g_l2i (g_iadd (g_putI (mz_at hS (Nat.le_of_ble_eq_true rfl) mzcS_208) mzcf_1_3 (g_aload_n rfl (g_lload rfl (g_l2i ?_)))))))
  refine g_putI (mz_at hS (Nat.le_of_ble_eq_true rfl) mzcS_56) mzcf_9_13 ?_
  exact g_vret rfl (hr _ hC)
theorem cb_239_192 (hd : 2 ≤ d) (hS : mz_extR S 232) (hR : mz_rok R 232)  (v5 : Int32) (v8 : Int64) (s : Int32 × mz_N) {C0 : (mz_N) → Prop} (hr : ∀ (N2 : mz_N), C0 N2 → Q (.inl none) (mz_k S R N2 b t)) {C1 : ((Int32 × mz_N) ⊕ (mz_N)) → Prop} (hc1 : ∀ s2, C1 (.inl s2) → mz_G (d, mz_X0 L xs, none, [], mk_239, 13, Q) 192 mt_239_192 [(0, .ref 65), (1, .ref 2), (2, .ref 56), (3, .ref 208), (5, .int v5), (8, .long v8), (10, .int s2.1)] [] false (mz_k S R s2.2 b t)) (hx1 : ∀ z, C1 (.inr z) → C0 z) (hp : cd_239_192 v5 v8 s) (hC : C1 (cq_239_192 v5 v8 s)) : mz_G (d, mz_X0 L xs, none, [], mk_239, 13, Q) 192 mt_239_192 [(0, .ref 65), (1, .ref 2), (2, .ref 56), (3, .ref 208), (5, .int v5), (8, .long v8), (10, .int s.1)] [] false (mz_k S R s.2 b t) := by
  unfold cq_239_192 at hC
  unfold cd_239_192 at hp
  refine g_iload rfl (g_iload rfl ?_)
  refine g_icge (tg := 254) rfl ms_239_254 hC (fun h1 hC => ?_) (fun h1 hC => ?_)
  · have hp := hp.1 h1
    refine g_aload_n rfl (g_getR (mz_at hS (Nat.le_of_ble_eq_true rfl) mzcS_65) mzcf_3_9 (mz_rb hR (Nat.le_of_ble_eq_true rfl) rfl mzcR_65_9) (g_iload rfl (g_dup2 rfl rfl ?_)))
    obtain ⟨h2, hp⟩ := hp
    refine g_lald (mz_at hS (Nat.le_of_ble_eq_true rfl) mzcS_74) h2 (g_aload_n rfl (g_getR (mz_at hS (Nat.le_of_ble_eq_true rfl) mzcS_65) mzcf_3_12 (mz_rb hR (Nat.le_of_ble_eq_true rfl) rfl mzcR_65_12) (g_iload rfl ?_)))
    obtain ⟨h3, hp⟩ := hp
    refine g_lald (mz_at hS (Nat.le_of_ble_eq_true rfl) mzcS_77) h3 (g_ladd ?_)
    obtain ⟨h4, hp⟩ := hp
    refine g_last (mz_at hS (Nat.le_of_ble_eq_true rfl) mzcS_74) h4 (g_aload_n rfl (g_getR (mz_at hS (Nat.le_of_ble_eq_true rfl) mzcS_208) mzcf_1_5 (mz_rb hR (Nat.le_of_ble_eq_true rfl) rfl mzcR_208_5) (g_iconst mzi_0 (g_aald4 (m := 210) (mz_at hS (Nat.le_of_ble_eq_true rfl) mzcS_209) (mz_ibd (by decide)) (mz_rb hR (Nat.le_of_ble_eq_true rfl) rfl mzcRr_209_0) (g_aload_n rfl (g_getR (mz_at hS (Nat.le_of_ble_eq_true rfl) mzcS_2) mzcf_5_9 (mz_rb hR (Nat.le_of_ble_eq_true rfl) rfl mzcR_2_9) (g_iconst mzi_3 ?_)))))))
    refine g_aald4 (m := 20) (mz_at hS (Nat.le_of_ble_eq_true rfl) mzcS_16) (mz_ibd (by decide)) (mz_rb hR (Nat.le_of_ble_eq_true rfl) rfl mzcRr_16_3) (g_iload rfl ?_)
    obtain ⟨h5, hp⟩ := hp
    refine g_iald hS.1 (mz_at hS (Nat.le_of_ble_eq_true rfl) mzcS_20) h5 (g_bipush mzb_10 (g_imin (Nat.le_of_ble_eq_true rfl) (g_dup2 rfl rfl ?_)))
    obtain ⟨h6, hp⟩ := hp
    refine g_iald hS.1 (mz_at hS (Nat.le_of_ble_eq_true rfl) mzcS_210) h6 (g_aload_n rfl (g_getR (mz_at hS (Nat.le_of_ble_eq_true rfl) mzcS_65) mzcf_3_12 (mz_rb hR (Nat.le_of_ble_eq_true rfl) rfl mzcR_65_12) (g_iload rfl ?_)))
    obtain ⟨h7, hp⟩ := hp
    refine g_lald (mz_at hS (Nat.le_of_ble_eq_true rfl) mzcS_77) h7 (g_l2i (g_iadd ?_))
    obtain ⟨h8, hp⟩ := hp
    refine g_iast (mz_at hS (Nat.le_of_ble_eq_true rfl) mzcS_210) h8 ?_
    refine g_weak ?_ (g_cl (cg_239_248 hd hS hR v5 v8 s.1 (mz_wI (mz_wL s.2 74 s.1 ((mz_gL s.2 74 s.1) + (mz_gL s.2 77 s.1))) 210 (mz_imin (mz_gI (mz_wL s.2 74 s.1 ((mz_gL s.2 74 s.1) + (mz_gL s.2 77 s.1))) 20 s.1) 10) ((mz_gI (mz_wL s.2 74 s.1 ((mz_gL s.2 74 s.1) + (mz_gL s.2 77 s.1))) 210 (mz_imin (mz_gI (mz_wL s.2 74 s.1 ((mz_gL s.2 74 s.1) + (mz_gL s.2 77 s.1))) 20 s.1) 10)) + ((mz_gL (mz_wL s.2 74 s.1 ((mz_gL s.2 74 s.1) + (mz_gL s.2 77 s.1))) 77 s.1).toInt32))) hr hc1 hx1 hp hC))
    exact ⟨rfl, rfl, rfl, rfl, rfl, rfl, rfl, trivial⟩
  · have hp := hp.2 h1
    refine g_aload_n rfl (g_dup rfl (g_getI (mz_at hS (Nat.le_of_ble_eq_true rfl) mzcS_56) mzcf_9_11 (g_aload_n rfl (g_getR (mz_at hS (Nat.le_of_ble_eq_true rfl) mzcS_65) mzcf_3_12 (mz_rb hR (Nat.le_of_ble_eq_true rfl) rfl mzcR_65_12) (g_iload rfl ?_)))))
    obtain ⟨h9, hp⟩ := hp
    refine g_lald (mz_at hS (Nat.le_of_ble_eq_true rfl) mzcS_77) h9 (g_l2i (g_iadd (g_putI (mz_at hS (Nat.le_of_ble_eq_true rfl) mzcS_56) mzcf_9_11 (g_aload_n rfl (g_getR (mz_at hS (Nat.le_of_ble_eq_true rfl) mzcS_208) mzcf_1_5 (mz_rb hR (Nat.le_of_ble_eq_true rfl) rfl mzcR_208_5) (g_iconst mzi_0 (g_aald4 (m := 210) (mz_at hS (Nat.le_of_ble_eq_true rfl) mzcS_209) (mz_ibd (by decide)) (mz_rb hR (Nat.le_of_ble_eq_true rfl) rfl mzcRr_209_0) ?_)))))))
    refine g_bipush mzb_10 (g_dup2 rfl rfl (g_iald hS.1 (mz_at hS (Nat.le_of_ble_eq_true rfl) mzcS_210) (mz_ibd (by decide)) (g_aload_n rfl (g_getR (mz_at hS (Nat.le_of_ble_eq_true rfl) mzcS_65) mzcf_3_12 (mz_rb hR (Nat.le_of_ble_eq_true rfl) rfl mzcR_65_12) (g_iload rfl ?_)))))
    obtain ⟨h10, hp⟩ := hp
    refine g_lald (mz_at hS (Nat.le_of_ble_eq_true rfl) mzcS_77) h10 (g_l2i (g_iadd (g_iast (mz_at hS (Nat.le_of_ble_eq_true rfl) mzcS_210) (mz_ibd (by decide)) ?_)))
    refine g_weak ?_ (g_cl (cg_239_291 hd hS hR v8 (mz_wI (mz_pI s.2 56 11 ((s.2.1 56 11) + ((mz_gL s.2 77 v5).toInt32))) 210 10 ((mz_gI (mz_pI s.2 56 11 ((s.2.1 56 11) + ((mz_gL s.2 77 v5).toInt32))) 210 10) + ((mz_gL (mz_pI s.2 56 11 ((s.2.1 56 11) + ((mz_gL s.2 77 v5).toInt32))) 77 v5).toInt32))) hr hp (hx1 _ hC)))
    exact ⟨rfl, rfl, rfl, trivial⟩
theorem cg_239_192 (hd : 2 ≤ d) (hS : mz_extR S 232) (hR : mz_rok R 232)  (v5 : Int32) (v8 : Int64) (v10 : Int32) (N : mz_N) {C0 : (mz_N) → Prop} (hr : ∀ (N2 : mz_N), C0 N2 → Q (.inl none) (mz_k S R N2 b t)) (hp : cp_239_192 v5 v8 v10 N) (hC : C0 (cf_239_192 v5 v8 v10 N)) : mz_G (d, mz_X0 L xs, none, [], mk_239, 13, Q) 192 mt_239_192 [(0, .ref 65), (1, .ref 2), (2, .ref 56), (3, .ref 208), (5, .int v5), (8, .long v8), (10, .int v10)] [] false (mz_k S R N b t) := by
  obtain ⟨n, hn⟩ := hp
  exact g_loop (G := fun s => mz_G (d, mz_X0 L xs, none, [], mk_239, 13, Q) 192 mt_239_192 [(0, .ref 65), (1, .ref 2), (2, .ref 56), (3, .ref 208), (5, .int v5), (8, .long v8), (10, .int s.1)] [] false (mz_k S R s.2 b t)) (C := C0) (fun C2 hc hx s hP hC => cb_239_192 hd hS hR v5 v8 s hr hc hx hP hC) n (v10, N) hn hC
theorem cg_239_189 (hd : 2 ≤ d) (hS : mz_extR S 232) (hR : mz_rok R 232)  (v5 : Int32) (v8 : Int64) (N : mz_N) {C0 : (mz_N) → Prop} (hr : ∀ (N2 : mz_N), C0 N2 → Q (.inl none) (mz_k S R N2 b t)) (hp : cp_239_189 v5 v8 N) (hC : C0 (cf_239_189 v5 v8 N)) : mz_G (d, mz_X0 L xs, none, [], mk_239, 13, Q) 189 mt_239_189 [(0, .ref 65), (1, .ref 2), (2, .ref 56), (3, .ref 208), (5, .int v5), (8, .long v8)] [] false (mz_k S R N b t) := by
  unfold cf_239_189 at hC
  unfold cp_239_189 at hp
  refine g_iconst mzi_0 (g_istore (Nat.le_of_ble_eq_true rfl) rfl ?_)
  refine g_weak ?_ (g_cl (cg_239_192 hd hS hR v5 v8 0 N hr hp hC))
  exact ⟨rfl, rfl, rfl, rfl, rfl, rfl, rfl, trivial⟩
theorem cb_239_12 (hd : 2 ≤ d) (hS : mz_extR S 232) (hR : mz_rok R 232)  (v5 : Int32) (s : Int64 × Int32 × mz_N) {C0 : (mz_N) → Prop} (hr : ∀ (N2 : mz_N), C0 N2 → Q (.inl none) (mz_k S R N2 b t)) {C1 : ((Int64 × Int32 × mz_N) ⊕ (mz_N)) → Prop} (hc1 : ∀ s2, C1 (.inl s2) → mz_G (d, mz_X0 L xs, none, [], mk_239, 13, Q) 12 mt_239_12 [(0, .ref 65), (1, .ref 2), (2, .ref 56), (3, .ref 208), (4, .ref 53), (5, .int v5), (6, .long s2.1), (8, .int s2.2.1)] [] false (mz_k S R s2.2.2 b t)) (hx1 : ∀ z, C1 (.inr z) → C0 z) (hp : cd_239_12 v5 s) (hC : C1 (cq_239_12 v5 s)) : mz_G (d, mz_X0 L xs, none, [], mk_239, 13, Q) 12 mt_239_12 [(0, .ref 65), (1, .ref 2), (2, .ref 56), (3, .ref 208), (4, .ref 53), (5, .int v5), (6, .long s.1), (8, .int s.2.1)] [] false (mz_k S R s.2.2 b t) := by
  unfold cq_239_12 at hC
  unfold cd_239_12 at hp
  refine g_iload rfl (g_iload rfl ?_)
  refine g_icge (tg := 119) rfl ms_239_119 hC (fun h1 hC => ?_) (fun h1 hC => ?_)
  · have hp := hp.1 h1
    refine g_aload_n rfl (g_getR (mz_at hS (Nat.le_of_ble_eq_true rfl) mzcS_2) mzcf_5_9 (mz_rb hR (Nat.le_of_ble_eq_true rfl) rfl mzcR_2_9) (g_iconst mzi_2 (g_aald4 (m := 19) (mz_at hS (Nat.le_of_ble_eq_true rfl) mzcS_16) (mz_ibd (by decide)) (mz_rb hR (Nat.le_of_ble_eq_true rfl) rfl mzcRr_16_2) (g_iload rfl ?_))))
    obtain ⟨h2, hp⟩ := hp
    refine g_iald hS.1 (mz_at hS (Nat.le_of_ble_eq_true rfl) mzcS_19) h2 (g_istore (Nat.le_of_ble_eq_true rfl) rfl (g_aload_n rfl (g_getR (mz_at hS (Nat.le_of_ble_eq_true rfl) mzcS_2) mzcf_5_9 (mz_rb hR (Nat.le_of_ble_eq_true rfl) rfl mzcR_2_9) (g_iconst mzi_3 (g_aald4 (m := 20) (mz_at hS (Nat.le_of_ble_eq_true rfl) mzcS_16) (mz_ibd (by decide)) (mz_rb hR (Nat.le_of_ble_eq_true rfl) rfl mzcRr_16_3) (g_iload rfl ?_))))))
    obtain ⟨h3, hp⟩ := hp
    refine g_iald hS.1 (mz_at hS (Nat.le_of_ble_eq_true rfl) mzcS_20) h3 (g_istore (Nat.le_of_ble_eq_true rfl) rfl (g_con3 (g_iload rfl (g_i2l (g_lmul (g_iload rfl (g_bipush mzb_10 ?_)))))))
    refine g_icge (tg := 63) rfl ms_239_63 hC (fun h4 hC => ?_) (fun h4 hC => ?_)
    · have hp := hp.1 h4
      refine g_aload rfl (g_iload rfl ?_)
      obtain ⟨h5, hp⟩ := hp
      refine g_iald hS.1 (mz_at hS (Nat.le_of_ble_eq_true rfl) mzcS_53) h5 (g_goto (tg := 66) rfl ms_239_66 ?_)
      refine g_weak ?_ (g_cl (cg_239_66 hd hS hR (100 * ((mz_gI s.2.2 19 s.2.1).toInt64)) (mz_gI s.2.2 53 (mz_gI s.2.2 20 s.2.1)) v5 s.1 s.2.1 (mz_gI s.2.2 19 s.2.1) s.2.2 hr hc1 hx1 hp hC))
      exact ⟨rfl, rfl, rfl, rfl, rfl, rfl, rfl, rfl, rfl, trivial⟩
    · have hp := hp.2 h4
      refine g_sipush mzs_150 ?_
      refine g_weak ?_ (g_cl (cg_239_66 hd hS hR (100 * ((mz_gI s.2.2 19 s.2.1).toInt64)) 150 v5 s.1 s.2.1 (mz_gI s.2.2 19 s.2.1) s.2.2 hr hc1 hx1 hp hC))
      exact ⟨rfl, rfl, rfl, rfl, rfl, rfl, rfl, rfl, rfl, trivial⟩
  · have hp := hp.2 h1
    refine g_aload_n rfl (g_getR (mz_at hS (Nat.le_of_ble_eq_true rfl) mzcS_65) mzcf_3_11 (mz_rb hR (Nat.le_of_ble_eq_true rfl) rfl mzcR_65_11) (g_iload rfl (g_sipush mzs_300 (g_sipush mzs_20000 (g_aload_n rfl (g_getI (mz_at hS (Nat.le_of_ble_eq_true rfl) mzcS_56) mzcf_9_11 (g_isub ?_)))))))
    refine g_imin (Nat.le_of_ble_eq_true rfl) (g_i2l ?_)
    obtain ⟨h6, hp⟩ := hp
    refine g_last (mz_at hS (Nat.le_of_ble_eq_true rfl) mzcS_76) h6 (g_lload rfl (g_aload_n rfl (g_getR (mz_at hS (Nat.le_of_ble_eq_true rfl) mzcS_65) mzcf_3_11 (mz_rb hR (Nat.le_of_ble_eq_true rfl) rfl mzcR_65_11) (g_iload rfl ?_))))
    obtain ⟨h7, hp⟩ := hp
    refine g_lald (mz_at hS (Nat.le_of_ble_eq_true rfl) mzcS_76) h7 (g_ladd (g_lstore (Nat.le_of_ble_eq_true rfl) rfl rfl (g_aload_n rfl (g_getR (mz_at hS (Nat.le_of_ble_eq_true rfl) mzcS_208) mzcf_1_8 (mz_rb hR (Nat.le_of_ble_eq_true rfl) rfl mzcR_208_8) (g_iconst mzi_0 (g_iald hS.1 (mz_at hS (Nat.le_of_ble_eq_true rfl) mzcS_215) (mz_ibd (by decide)) (g_i2l ?_)))))))
    refine g_lload rfl (g_lmin (Nat.le_of_ble_eq_true rfl) (g_lstore (Nat.le_of_ble_eq_true rfl) rfl rfl (g_lload rfl (g_aload_n rfl (g_getR (mz_at hS (Nat.le_of_ble_eq_true rfl) mzcS_65) mzcf_3_11 (mz_rb hR (Nat.le_of_ble_eq_true rfl) rfl mzcR_65_11) (g_iload rfl (g_iconst mzi_1 ?_)))))))
    refine g_iadd (g_aload_n rfl (g_getR (mz_at hS (Nat.le_of_ble_eq_true rfl) mzcS_65) mzcf_3_12 (mz_rb hR (Nat.le_of_ble_eq_true rfl) rfl mzcR_65_12) (g_aload_n rfl (g_getR (mz_at hS (Nat.le_of_ble_eq_true rfl) mzcS_65) mzcf_3_13 (mz_rb hR (Nat.le_of_ble_eq_true rfl) rfl mzcR_65_13) ?_))))
    obtain ⟨h8, hp⟩ := hp
    refine g_s5v (Nat.le_of_ble_eq_true rfl) (fun _ hq => cs_240 (Nat.le_trans (Nat.le_of_ble_eq_true rfl) hd) (hS.le (Nat.le_of_ble_eq_true rfl)) (hR.le (Nat.le_of_ble_eq_true rfl)) 76 41 77 41 78 41 (mz_at hS (Nat.le_of_ble_eq_true rfl) mzcS_76) (mz_at hS (Nat.le_of_ble_eq_true rfl) mzcS_77) (mz_at hS (Nat.le_of_ble_eq_true rfl) mzcS_78) (mz_lmin ((mz_gI (mz_wL s.2.2 76 v5 ((mz_imin 300 (20000 - (s.2.2.1 56 11))).toInt64)) 215 0).toInt64) (s.1 + (mz_gL (mz_wL s.2.2 76 v5 ((mz_imin 300 (20000 - (s.2.2.1 56 11))).toInt64)) 76 v5))) (v5 + 1) (mz_wL s.2.2 76 v5 ((mz_imin 300 (20000 - (s.2.2.1 56 11))).toInt64)) h8 hq) (g_pop rfl ?_)
    refine g_weak ?_ (g_cl (cg_239_189 hd hS hR v5 (mz_lmin ((mz_gI (mz_wL s.2.2 76 v5 ((mz_imin 300 (20000 - (s.2.2.1 56 11))).toInt64)) 215 0).toInt64) (s.1 + (mz_gL (mz_wL s.2.2 76 v5 ((mz_imin 300 (20000 - (s.2.2.1 56 11))).toInt64)) 76 v5))) ((cf_240_0 76 41 77 41 78 41 (mz_lmin ((mz_gI (mz_wL s.2.2 76 v5 ((mz_imin 300 (20000 - (s.2.2.1 56 11))).toInt64)) 215 0).toInt64) (s.1 + (mz_gL (mz_wL s.2.2 76 v5 ((mz_imin 300 (20000 - (s.2.2.1 56 11))).toInt64)) 76 v5))) (v5 + 1) (mz_wL s.2.2 76 v5 ((mz_imin 300 (20000 - (s.2.2.1 56 11))).toInt64))).2) hr hp (hx1 _ hC)))
    exact ⟨rfl, rfl, rfl, rfl, rfl, rfl, trivial⟩
theorem cg_239_12 (hd : 2 ≤ d) (hS : mz_extR S 232) (hR : mz_rok R 232)  (v5 : Int32) (v6 : Int64) (v8 : Int32) (N : mz_N) {C0 : (mz_N) → Prop} (hr : ∀ (N2 : mz_N), C0 N2 → Q (.inl none) (mz_k S R N2 b t)) (hp : cp_239_12 v5 v6 v8 N) (hC : C0 (cf_239_12 v5 v6 v8 N)) : mz_G (d, mz_X0 L xs, none, [], mk_239, 13, Q) 12 mt_239_12 [(0, .ref 65), (1, .ref 2), (2, .ref 56), (3, .ref 208), (4, .ref 53), (5, .int v5), (6, .long v6), (8, .int v8)] [] false (mz_k S R N b t) := by
  obtain ⟨n, hn⟩ := hp
  exact g_loop (G := fun s => mz_G (d, mz_X0 L xs, none, [], mk_239, 13, Q) 12 mt_239_12 [(0, .ref 65), (1, .ref 2), (2, .ref 56), (3, .ref 208), (4, .ref 53), (5, .int v5), (6, .long s.1), (8, .int s.2.1)] [] false (mz_k S R s.2.2 b t)) (C := C0) (fun C2 hc hx s hP hC => cb_239_12 hd hS hR v5 s hr hc hx hP hC) n (v6, v8, N) hn hC
theorem cg_239_0 (hd : 2 ≤ d) (hS : mz_extR S 232) (hR : mz_rok R 232)  (N : mz_N) {C0 : (mz_N) → Prop} (hr : ∀ (N2 : mz_N), C0 N2 → Q (.inl none) (mz_k S R N2 b t)) (hp : cp_239_0 N) (hC : C0 (cf_239_0 N)) : mz_G (d, mz_X0 L xs, none, [], mk_239, 13, Q) 0 mk_239 [(0, .ref 65), (1, .ref 2), (2, .ref 56), (3, .ref 208), (4, .ref 53)] [] true (mz_k S R N b t) := by
  unfold cf_239_0 at hC
  unfold cp_239_0 at hp
  refine g_aload_n rfl (g_getI (mz_at hS (Nat.le_of_ble_eq_true rfl) mzcS_2) mzcf_5_7 (g_istore (Nat.le_of_ble_eq_true rfl) rfl (g_lconst mzl_0 (g_lstore (Nat.le_of_ble_eq_true rfl) rfl rfl (g_iconst mzi_0 (g_istore (Nat.le_of_ble_eq_true rfl) rfl ?_))))))
  refine g_weak ?_ (g_cl (cg_239_12 hd hS hR (N.1 2 7) 0 0 N hr hp hC))
  exact ⟨rfl, rfl, rfl, rfl, rfl, rfl, rfl, rfl, trivial⟩
theorem cs_239 (hd : 3 ≤ d) (hS : mz_extR S 232) (hR : mz_rok R 232)  (N : mz_N) (hp : cp_239_0 N) (hq : Q (.inl none) (mz_k S R (cf_239_0 N) b t)) : mz_Ed (mz_X0 L xs) d 239 [.ref 65, .ref 2, .ref 56, .ref 208, .ref 53] (mz_k S R N b t) Q :=
  by
  refine g_in mzq_239 (Nat.le_of_ble_eq_true rfl) (Nat.le_of_ble_eq_true rfl) (Nat.le_trans (Nat.le_of_ble_eq_true rfl) hd) ?_
  refine g_weak ?_ (cg_239_0 (d := d - 1) (by omega) hS hR N (C0 := fun z => Q (.inl none) (mz_k S R z b t)) (fun _ h => h) hp hq)
  exact ⟨rfl, rfl, rfl, rfl, rfl, trivial⟩
/-! 243 KeptHouse$Climate.spread (LKeptHouse$Plan;[J)V -/
theorem ms_243_0 : mz_sf mk_243 0 = mk_243 := mz_sf_zero _
theorem ms_243_2 : mz_sf mk_243 2 = mt_243_2 := mz_sf_add ms_243_0 (t := 2) rfl rfl
theorem ms_243_31 : mz_sf mk_243 31 = mt_243_31 := mz_sf_add ms_243_2 (t := 29) rfl rfl
theorem ms_243_60 : mz_sf mk_243 60 = mt_243_60 := mz_sf_add ms_243_31 (t := 29) rfl rfl
theorem ms_243_63 : mz_sf mk_243 63 = mt_243_63 := mz_sf_add ms_243_60 (t := 3) rfl rfl
theorem ms_243_97 : mz_sf mk_243 97 = mt_243_97 := mz_sf_add ms_243_63 (t := 34) rfl rfl
theorem ms_243_99 : mz_sf mk_243 99 = mt_243_99 := mz_sf_add ms_243_97 (t := 2) rfl rfl
theorem ms_243_106 : mz_sf mk_243 106 = mt_243_106 := mz_sf_add ms_243_99 (t := 7) rfl rfl
theorem ms_243_112 : mz_sf mk_243 112 = mt_243_112 := mz_sf_add ms_243_106 (t := 6) rfl rfl
set_option maxRecDepth 100000 in
theorem mzq_243 : mz_PG0 243 = some (3, ⟨"KeptHouse$Climate", "spread", "(LKeptHouse$Plan;[J)V"⟩, prog_5_method_12_code, 11, none, [], mk_243, []) := rfl
theorem cg_243_99 (hd : 2 ≤ d) (hS : mz_extR S 232) (hR : mz_rok R 232) (a2 : Nat) (hs2 : S[a2]? = some (1, 240, [])) (s1 : Int32) (s2 : Int64) (v3 : Int32) (v4 : Int32) (v5 : Int32) (v6 : Int64) (v8 : Int64) (v10 : Int32) (N : mz_N) {C0 : (mz_N) → Prop} (hr : ∀ (N2 : mz_N), C0 N2 → Q (.inl none) (mz_k S R N2 b t)) {C1 : ((Int32 × mz_N) ⊕ (mz_N)) → Prop} (hc1 : ∀ s2, C1 (.inl s2) → mz_G (d, mz_X0 L xs, none, [], mk_243, 11, Q) 2 mt_243_2 [(0, .ref 65), (1, .ref 2), (2, .ref a2), (3, .int s2.1)] [] false (mz_k S R s2.2 b t)) (hx1 : ∀ z, C1 (.inr z) → C0 z) {C2 : ((Int32 × mz_N) ⊕ ((Int32 × mz_N) ⊕ (mz_N))) → Prop} (hc2 : ∀ s2, C2 (.inl s2) → mz_G (d, mz_X0 L xs, none, [], mk_243, 11, Q) 63 mt_243_63 [(0, .ref 65), (1, .ref 2), (2, .ref a2), (3, .int v3), (4, .int v4), (5, .int v5), (6, .long v6), (8, .long v8), (10, .int s2.1)] [] false (mz_k S R s2.2 b t)) (hx2 : ∀ z, C2 (.inr z) → C1 z) (hp : cp_243_99 a2 s1 s2 v3 v4 v5 v6 v8 v10 N) (hC : C2 (cf_243_99 a2 s1 s2 v3 v4 v5 v6 v8 v10 N)) : mz_G (d, mz_X0 L xs, none, [], mk_243, 11, Q) 99 mt_243_99 [(0, .ref 65), (1, .ref 2), (2, .ref a2), (3, .int v3), (4, .int v4), (5, .int v5), (6, .long v6), (8, .long v8), (10, .int v10)] [.long s2, .int s1, .ref a2] false (mz_k S R N b t) := by
  unfold cf_243_99 at hC
  unfold cp_243_99 at hp
  have h1 := hp
  refine g_last hs2 h1 (g_iinc rfl mzi_1 (Nat.le_of_ble_eq_true rfl) rfl (g_goto (tg := 63) rfl ms_243_63 ?_))
  refine g_weak ?_ (g_cl (hc2 ((v10 + 1), mz_wL N a2 s1 s2) hC))
  exact ⟨rfl, rfl, rfl, rfl, rfl, rfl, rfl, rfl, rfl, trivial⟩
theorem cb_243_63 (hd : 2 ≤ d) (hS : mz_extR S 232) (hR : mz_rok R 232) (a2 : Nat) (hs2 : S[a2]? = some (1, 240, [])) (v3 : Int32) (v4 : Int32) (v5 : Int32) (v6 : Int64) (v8 : Int64) (s : Int32 × mz_N) {C0 : (mz_N) → Prop} (hr : ∀ (N2 : mz_N), C0 N2 → Q (.inl none) (mz_k S R N2 b t)) {C1 : ((Int32 × mz_N) ⊕ (mz_N)) → Prop} (hc1 : ∀ s2, C1 (.inl s2) → mz_G (d, mz_X0 L xs, none, [], mk_243, 11, Q) 2 mt_243_2 [(0, .ref 65), (1, .ref 2), (2, .ref a2), (3, .int s2.1)] [] false (mz_k S R s2.2 b t)) (hx1 : ∀ z, C1 (.inr z) → C0 z) {C2 : ((Int32 × mz_N) ⊕ ((Int32 × mz_N) ⊕ (mz_N))) → Prop} (hc2 : ∀ s2, C2 (.inl s2) → mz_G (d, mz_X0 L xs, none, [], mk_243, 11, Q) 63 mt_243_63 [(0, .ref 65), (1, .ref 2), (2, .ref a2), (3, .int v3), (4, .int v4), (5, .int v5), (6, .long v6), (8, .long v8), (10, .int s2.1)] [] false (mz_k S R s2.2 b t)) (hx2 : ∀ z, C2 (.inr z) → C1 z) (hp : cd_243_63 a2 v3 v4 v5 v6 v8 s) (hC : C2 (cq_243_63 a2 v3 v4 v5 v6 v8 s)) : mz_G (d, mz_X0 L xs, none, [], mk_243, 11, Q) 63 mt_243_63 [(0, .ref 65), (1, .ref 2), (2, .ref a2), (3, .int v3), (4, .int v4), (5, .int v5), (6, .long v6), (8, .long v8), (10, .int s.1)] [] false (mz_k S R s.2 b t) := by
  unfold cq_243_63 at hC
  unfold cd_243_63 at hp
  refine g_iload rfl (g_iload rfl ?_)
  refine g_icge (tg := 106) rfl ms_243_106 hC (fun h1 hC => ?_) (fun h1 hC => ?_)
  · have hp := hp.1 h1
    refine g_aload_n rfl (g_aload_n rfl (g_getR (mz_at hS (Nat.le_of_ble_eq_true rfl) mzcS_2) mzcf_5_10 (mz_rb hR (Nat.le_of_ble_eq_true rfl) rfl mzcR_2_10) (g_iload rfl (g_iload rfl (g_iadd ?_)))))
    obtain ⟨h2, hp⟩ := hp
    refine g_iald hS.1 (mz_at hS (Nat.le_of_ble_eq_true rfl) mzcS_30) h2 (g_iload rfl (g_i2l (g_lload rfl (g_lcmp ?_))))
    refine g_lge (tg := 97) rfl ms_243_97 hC (fun h3 hC => ?_) (fun h3 hC => ?_)
    · have hp := hp.1 h3
      refine g_lload rfl (g_lconst mzl_1 (g_ladd (g_goto (tg := 99) rfl ms_243_99 ?_)))
      refine g_weak ?_ (g_cl (cg_243_99 hd hS hR a2 hs2 (mz_gI s.2 30 (v5 + s.1)) (v6 + 1) v3 v4 v5 v6 v8 s.1 s.2 hr hc1 hx1 hc2 hx2 hp hC))
      exact ⟨rfl, rfl, rfl, rfl, rfl, rfl, rfl, rfl, rfl, trivial⟩
    · have hp := hp.2 h3
      refine g_lload rfl ?_
      refine g_weak ?_ (g_cl (cg_243_99 hd hS hR a2 hs2 (mz_gI s.2 30 (v5 + s.1)) v6 v3 v4 v5 v6 v8 s.1 s.2 hr hc1 hx1 hc2 hx2 hp hC))
      exact ⟨rfl, rfl, rfl, rfl, rfl, rfl, rfl, rfl, rfl, trivial⟩
  · have hp := hp.2 h1
    refine g_iinc rfl mzi_1 (Nat.le_of_ble_eq_true rfl) rfl (g_goto (tg := 2) rfl ms_243_2 ?_)
    refine g_weak ?_ (g_cl (hc1 ((v3 + 1), s.2) (hx2 _ hC)))
    exact ⟨rfl, rfl, rfl, rfl, trivial⟩
theorem cg_243_63 (hd : 2 ≤ d) (hS : mz_extR S 232) (hR : mz_rok R 232) (a2 : Nat) (hs2 : S[a2]? = some (1, 240, [])) (v3 : Int32) (v4 : Int32) (v5 : Int32) (v6 : Int64) (v8 : Int64) (v10 : Int32) (N : mz_N) {C0 : (mz_N) → Prop} (hr : ∀ (N2 : mz_N), C0 N2 → Q (.inl none) (mz_k S R N2 b t)) {C1 : ((Int32 × mz_N) ⊕ (mz_N)) → Prop} (hc1 : ∀ s2, C1 (.inl s2) → mz_G (d, mz_X0 L xs, none, [], mk_243, 11, Q) 2 mt_243_2 [(0, .ref 65), (1, .ref 2), (2, .ref a2), (3, .int s2.1)] [] false (mz_k S R s2.2 b t)) (hx1 : ∀ z, C1 (.inr z) → C0 z) (hp : cp_243_63 a2 v3 v4 v5 v6 v8 v10 N) (hC : C1 (cf_243_63 a2 v3 v4 v5 v6 v8 v10 N)) : mz_G (d, mz_X0 L xs, none, [], mk_243, 11, Q) 63 mt_243_63 [(0, .ref 65), (1, .ref 2), (2, .ref a2), (3, .int v3), (4, .int v4), (5, .int v5), (6, .long v6), (8, .long v8), (10, .int v10)] [] false (mz_k S R N b t) := by
  obtain ⟨n, hn⟩ := hp
  exact g_loop (G := fun s => mz_G (d, mz_X0 L xs, none, [], mk_243, 11, Q) 63 mt_243_63 [(0, .ref 65), (1, .ref 2), (2, .ref a2), (3, .int v3), (4, .int v4), (5, .int v5), (6, .long v6), (8, .long v8), (10, .int s.1)] [] false (mz_k S R s.2 b t)) (C := C1) (fun C2 hc hx s hP hC => cb_243_63 hd hS hR a2 hs2 v3 v4 v5 v6 v8 s hr hc1 hx1 hc hx hP hC) n (v10, N) hn hC
theorem cb_243_2 (hd : 2 ≤ d) (hS : mz_extR S 232) (hR : mz_rok R 232) (a2 : Nat) (hs2 : S[a2]? = some (1, 240, []))  (s : Int32 × mz_N) {C0 : (mz_N) → Prop} (hr : ∀ (N2 : mz_N), C0 N2 → Q (.inl none) (mz_k S R N2 b t)) {C1 : ((Int32 × mz_N) ⊕ (mz_N)) → Prop} (hc1 : ∀ s2, C1 (.inl s2) → mz_G (d, mz_X0 L xs, none, [], mk_243, 11, Q) 2 mt_243_2 [(0, .ref 65), (1, .ref 2), (2, .ref a2), (3, .int s2.1)] [] false (mz_k S R s2.2 b t)) (hx1 : ∀ z, C1 (.inr z) → C0 z) (hp : cd_243_2 a2 s) (hC : C1 (cq_243_2 a2 s)) : mz_G (d, mz_X0 L xs, none, [], mk_243, 11, Q) 2 mt_243_2 [(0, .ref 65), (1, .ref 2), (2, .ref a2), (3, .int s.1)] [] false (mz_k S R s.2 b t) := by
  unfold cq_243_2 at hC
  unfold cd_243_2 at hp
  refine g_iload_n rfl (g_aload_n rfl (g_getI (mz_at hS (Nat.le_of_ble_eq_true rfl) mzcS_2) mzcf_5_7 ?_))
  refine g_icge (tg := 112) rfl ms_243_112 hC (fun h1 hC => ?_) (fun h1 hC => ?_)
  · have hp := hp.1 h1
    refine g_aload_n rfl (g_getR (mz_at hS (Nat.le_of_ble_eq_true rfl) mzcS_2) mzcf_5_9 (mz_rb hR (Nat.le_of_ble_eq_true rfl) rfl mzcR_2_9) (g_iconst mzi_2 (g_aald4 (m := 19) (mz_at hS (Nat.le_of_ble_eq_true rfl) mzcS_16) (mz_ibd (by decide)) (mz_rb hR (Nat.le_of_ble_eq_true rfl) rfl mzcRr_16_2) (g_iload_n rfl ?_))))
    obtain ⟨h2, hp⟩ := hp
    refine g_iald hS.1 (mz_at hS (Nat.le_of_ble_eq_true rfl) mzcS_19) h2 (g_istore (Nat.le_of_ble_eq_true rfl) rfl (g_aload_n rfl (g_getR (mz_at hS (Nat.le_of_ble_eq_true rfl) mzcS_2) mzcf_5_9 (mz_rb hR (Nat.le_of_ble_eq_true rfl) rfl mzcR_2_9) (g_bipush mzb_11 (g_aald4 (m := 28) (mz_at hS (Nat.le_of_ble_eq_true rfl) mzcS_16) (mz_ibd (by decide)) (mz_rb hR (Nat.le_of_ble_eq_true rfl) rfl mzcRr_16_11) (g_iload_n rfl ?_))))))
    obtain ⟨h3, hp⟩ := hp
    refine g_iald hS.1 (mz_at hS (Nat.le_of_ble_eq_true rfl) mzcS_28) h3 (g_istore (Nat.le_of_ble_eq_true rfl) rfl (g_aload_n rfl (g_getR (mz_at hS (Nat.le_of_ble_eq_true rfl) mzcS_65) mzcf_3_9 (mz_rb hR (Nat.le_of_ble_eq_true rfl) rfl mzcR_65_9) (g_iload_n rfl ?_))))
    obtain ⟨h4, hp⟩ := hp
    refine g_lald (mz_at hS (Nat.le_of_ble_eq_true rfl) mzcS_74) h4 (g_iconst mzi_1 (g_iload rfl ?_))
    obtain ⟨h5, hp⟩ := hp
    refine g_s3v (Nat.le_of_ble_eq_true rfl) (fun _ hq => cs_159 (Nat.le_trans (Nat.le_of_ble_eq_true rfl) hd) (hS.le (Nat.le_of_ble_eq_true rfl)) (hR.le (Nat.le_of_ble_eq_true rfl))  (mz_gL s.2 74 s.1) 1 (mz_gI s.2 19 s.1) h5 hq) (g_lstore (Nat.le_of_ble_eq_true rfl) rfl rfl (g_aload_n rfl (g_getR (mz_at hS (Nat.le_of_ble_eq_true rfl) mzcS_65) mzcf_3_9 (mz_rb hR (Nat.le_of_ble_eq_true rfl) rfl mzcR_65_9) (g_iload_n rfl ?_))))
    obtain ⟨h6, hp⟩ := hp
    refine g_lald (mz_at hS (Nat.le_of_ble_eq_true rfl) mzcS_74) h6 (g_lload rfl (g_iload rfl (g_i2l (g_lmul (g_lsub (g_lstore (Nat.le_of_ble_eq_true rfl) rfl rfl (g_iconst mzi_0 ?_)))))))
    refine g_istore (Nat.le_of_ble_eq_true rfl) rfl ?_
    refine g_weak ?_ (g_cl (cg_243_63 hd hS hR a2 hs2 s.1 (mz_gI s.2 19 s.1) (mz_gI s.2 28 s.1) (cf_159_0 (mz_gL s.2 74 s.1) 1 (mz_gI s.2 19 s.1)) ((mz_gL s.2 74 s.1) - ((cf_159_0 (mz_gL s.2 74 s.1) 1 (mz_gI s.2 19 s.1)) * ((mz_gI s.2 19 s.1).toInt64))) 0 s.2 hr hc1 hx1 hp hC))
    exact ⟨rfl, rfl, rfl, rfl, rfl, rfl, rfl, rfl, rfl, trivial⟩
  · have hp := hp.2 h1
    exact g_vret rfl (hr _ (hx1 _ hC))
theorem cg_243_2 (hd : 2 ≤ d) (hS : mz_extR S 232) (hR : mz_rok R 232) (a2 : Nat) (hs2 : S[a2]? = some (1, 240, [])) (v3 : Int32) (N : mz_N) {C0 : (mz_N) → Prop} (hr : ∀ (N2 : mz_N), C0 N2 → Q (.inl none) (mz_k S R N2 b t)) (hp : cp_243_2 a2 v3 N) (hC : C0 (cf_243_2 a2 v3 N)) : mz_G (d, mz_X0 L xs, none, [], mk_243, 11, Q) 2 mt_243_2 [(0, .ref 65), (1, .ref 2), (2, .ref a2), (3, .int v3)] [] false (mz_k S R N b t) := by
  obtain ⟨n, hn⟩ := hp
  exact g_loop (G := fun s => mz_G (d, mz_X0 L xs, none, [], mk_243, 11, Q) 2 mt_243_2 [(0, .ref 65), (1, .ref 2), (2, .ref a2), (3, .int s.1)] [] false (mz_k S R s.2 b t)) (C := C0) (fun C2 hc hx s hP hC => cb_243_2 hd hS hR a2 hs2 s hr hc hx hP hC) n (v3, N) hn hC
theorem cg_243_0 (hd : 2 ≤ d) (hS : mz_extR S 232) (hR : mz_rok R 232) (a2 : Nat) (hs2 : S[a2]? = some (1, 240, [])) (N : mz_N) {C0 : (mz_N) → Prop} (hr : ∀ (N2 : mz_N), C0 N2 → Q (.inl none) (mz_k S R N2 b t)) (hp : cp_243_0 a2 N) (hC : C0 (cf_243_0 a2 N)) : mz_G (d, mz_X0 L xs, none, [], mk_243, 11, Q) 0 mk_243 [(0, .ref 65), (1, .ref 2), (2, .ref a2)] [] true (mz_k S R N b t) := by
  unfold cf_243_0 at hC
  unfold cp_243_0 at hp
  refine g_iconst mzi_0 (g_istore_n (Nat.le_of_ble_eq_true rfl) rfl ?_)
  refine g_weak ?_ (g_cl (cg_243_2 hd hS hR a2 hs2 0 N hr hp hC))
  exact ⟨rfl, rfl, rfl, rfl, trivial⟩
theorem cs_243 (hd : 3 ≤ d) (hS : mz_extR S 232) (hR : mz_rok R 232) (a2 : Nat) (hs2 : S[a2]? = some (1, 240, [])) (N : mz_N) (hp : cp_243_0 a2 N) (hq : Q (.inl none) (mz_k S R (cf_243_0 a2 N) b t)) : mz_Ed (mz_X0 L xs) d 243 [.ref 65, .ref 2, .ref a2] (mz_k S R N b t) Q :=
  by
  refine g_in mzq_243 (Nat.le_of_ble_eq_true rfl) (Nat.le_of_ble_eq_true rfl) (Nat.le_trans (Nat.le_of_ble_eq_true rfl) hd) ?_
  refine g_weak ?_ (cg_243_0 (d := d - 1) (by omega) hS hR a2 hs2 N (C0 := fun z => Q (.inl none) (mz_k S R z b t)) (fun _ h => h) hp hq)
  exact ⟨rfl, rfl, rfl, trivial⟩
/-! 242 KeptHouse$Climate.settleHeat (LKeptHouse$Plan;)V -/
theorem ms_242_0 : mz_sf mk_242 0 = mk_242 := mz_sf_zero _
set_option maxRecDepth 100000 in
theorem mzq_242 : mz_PG0 242 = some (3, ⟨"KeptHouse$Climate", "settleHeat", "(LKeptHouse$Plan;)V"⟩, prog_5_method_17_code, 2, none, [], mk_242, []) := rfl
theorem cg_242_0 (hd : 3 ≤ d) (hS : mz_extR S 232) (hR : mz_rok R 232)  (N : mz_N) {C0 : (mz_N) → Prop} (hr : ∀ (N2 : mz_N), C0 N2 → Q (.inl none) (mz_k S R N2 b t)) (hp : cp_242_0 N) (hC : C0 (cf_242_0 N)) : mz_G (d, mz_X0 L xs, none, [], mk_242, 2, Q) 0 mk_242 [(0, .ref 65), (1, .ref 2)] [] true (mz_k S R N b t) := by
  unfold cf_242_0 at hC
  unfold cp_242_0 at hp
  refine g_aload_n rfl (g_aload_n rfl ?_)
  obtain ⟨h1, hp⟩ := hp
  refine g_v2n (Nat.le_of_ble_eq_true rfl) (mz_at hS (Nat.le_of_ble_eq_true rfl) mzcS_65) (fun _ hq => cs_236 (Nat.le_trans (Nat.le_of_ble_eq_true rfl) hd) (hS.le (Nat.le_of_ble_eq_true rfl)) (hR.le (Nat.le_of_ble_eq_true rfl))  N h1 hq) (g_aload_n rfl (g_aload_n rfl (g_aload_n rfl (g_getR (mz_at hS (Nat.le_of_ble_eq_true rfl) mzcS_65) mzcf_3_2 (mz_rb hR (Nat.le_of_ble_eq_true rfl) rfl mzcR_65_2) ?_))))
  have h2 := hp
  refine g_v3n (Nat.le_of_ble_eq_true rfl) (mz_at hS (Nat.le_of_ble_eq_true rfl) mzcS_65) (fun _ hq => cs_243 (Nat.le_trans (Nat.le_of_ble_eq_true rfl) hd) (hS.le (Nat.le_of_ble_eq_true rfl)) (hR.le (Nat.le_of_ble_eq_true rfl)) 68 (mz_at hS (Nat.le_of_ble_eq_true rfl) mzcS_68) (cf_236_0 N) h2 hq) ?_
  exact g_vret rfl (hr _ hC)
theorem cs_242 (hd : 4 ≤ d) (hS : mz_extR S 232) (hR : mz_rok R 232)  (N : mz_N) (hp : cp_242_0 N) (hq : Q (.inl none) (mz_k S R (cf_242_0 N) b t)) : mz_Ed (mz_X0 L xs) d 242 [.ref 65, .ref 2] (mz_k S R N b t) Q :=
  by
  refine g_in mzq_242 (Nat.le_of_ble_eq_true rfl) (Nat.le_of_ble_eq_true rfl) (Nat.le_trans (Nat.le_of_ble_eq_true rfl) hd) ?_
  refine g_weak ?_ (cg_242_0 (d := d - 1) (by omega) hS hR N (C0 := fun z => Q (.inl none) (mz_k S R z b t)) (fun _ h => h) hp hq)
  exact ⟨rfl, rfl, trivial⟩
/-! 233 KeptHouse.warm (I)V -/
theorem ms_233_0 : mz_sf mk_233 0 = mk_233 := mz_sf_zero _
theorem ms_233_28 : mz_sf mk_233 28 = mt_233_28 := mz_sf_add ms_233_0 (t := 28) rfl rfl
theorem ms_233_57 : mz_sf mk_233 57 = mt_233_57 := mz_sf_add ms_233_28 (t := 29) rfl rfl
theorem ms_233_91 : mz_sf mk_233 91 = mt_233_91 := mz_sf_add ms_233_57 (t := 34) rfl rfl
set_option maxRecDepth 100000 in
theorem mzq_233 : mz_PG0 233 = some (11, ⟨"KeptHouse", "warm", "(I)V"⟩, prog_1_method_79_code, 2, none, [], mk_233, []) := rfl
theorem cg_233_91 (hd : 4 ≤ d) (hS : mz_extR S 232) (hR : mz_rok R 232)  (N : mz_N) {C0 : (mz_N) → Prop} (hr : ∀ (N2 : mz_N), C0 N2 → Q (.inl none) (mz_k S R N2 b t)) (hp : cp_233_91 N) (hC : C0 (cf_233_91 N)) : mz_G (d, mz_X0 L xs, none, [], mk_233, 2, Q) 91 mt_233_91 [(0, .ref 0)] [] false (mz_k S R N b t) := by
  unfold cf_233_91 at hC
  unfold cp_233_91 at hp
  refine g_aload_n rfl (g_getR (mz_at hS (Nat.le_of_ble_eq_true rfl) mzcS_0) mzcf_11_4 (mz_rb hR (Nat.le_of_ble_eq_true rfl) rfl mzcR_0_4) (g_aload_n rfl (g_getR (mz_at hS (Nat.le_of_ble_eq_true rfl) mzcS_0) mzcf_11_1 (mz_rb hR (Nat.le_of_ble_eq_true rfl) rfl mzcR_0_1) ?_)))
  have h1 := hp
  refine g_v2n (Nat.le_of_ble_eq_true rfl) (mz_at hS (Nat.le_of_ble_eq_true rfl) mzcS_65) (fun _ hq => cs_242 (Nat.le_trans (Nat.le_of_ble_eq_true rfl) hd) (hS.le (Nat.le_of_ble_eq_true rfl)) (hR.le (Nat.le_of_ble_eq_true rfl))  N h1 hq) ?_
  exact g_vret rfl (hr _ hC)
theorem cg_233_0 (hd : 4 ≤ d) (hS : mz_extR S 232) (hR : mz_rok R 232)  (v1 : Int32) (N : mz_N) {C0 : (mz_N) → Prop} (hr : ∀ (N2 : mz_N), C0 N2 → Q (.inl none) (mz_k S R N2 b t)) (hp : cp_233_0 v1 N) (hC : C0 (cf_233_0 v1 N)) : mz_G (d, mz_X0 L xs, none, [], mk_233, 2, Q) 0 mk_233 [(0, .ref 0), (1, .int v1)] [] true (mz_k S R N b t) := by
  unfold cf_233_0 at hC
  unfold cp_233_0 at hp
  refine g_aload_n rfl (g_getR (mz_at hS (Nat.le_of_ble_eq_true rfl) mzcS_0) mzcf_11_4 (mz_rb hR (Nat.le_of_ble_eq_true rfl) rfl mzcR_0_4) (g_aload_n rfl (g_getR (mz_at hS (Nat.le_of_ble_eq_true rfl) mzcS_0) mzcf_11_1 (mz_rb hR (Nat.le_of_ble_eq_true rfl) rfl mzcR_0_1) (g_iload_n rfl ?_))))
  obtain ⟨h1, hp⟩ := hp
  refine g_v3n (Nat.le_of_ble_eq_true rfl) (mz_at hS (Nat.le_of_ble_eq_true rfl) mzcS_65) (fun _ hq => cs_234 (Nat.le_trans (Nat.le_of_ble_eq_true rfl) hd) (hS.le (Nat.le_of_ble_eq_true rfl)) (hR.le (Nat.le_of_ble_eq_true rfl))  v1 N h1 hq) (g_aload_n rfl (g_getR (mz_at hS (Nat.le_of_ble_eq_true rfl) mzcS_0) mzcf_11_4 (mz_rb hR (Nat.le_of_ble_eq_true rfl) rfl mzcR_0_4) (g_aload_n rfl (g_getR (mz_at hS (Nat.le_of_ble_eq_true rfl) mzcS_0) mzcf_11_1 (mz_rb hR (Nat.le_of_ble_eq_true rfl) rfl mzcR_0_1) (g_aload_n rfl (g_getR (mz_at hS (Nat.le_of_ble_eq_true rfl) mzcS_0) mzcf_11_3 (mz_rb hR (Nat.le_of_ble_eq_true rfl) rfl mzcR_0_3) (g_iload_n rfl ?_)))))))
  obtain ⟨h2, hp⟩ := hp
  refine g_v4n (Nat.le_of_ble_eq_true rfl) (mz_at hS (Nat.le_of_ble_eq_true rfl) mzcS_65) (fun _ hq => cs_237 (Nat.le_trans (Nat.le_of_ble_eq_true rfl) hd) (hS.le (Nat.le_of_ble_eq_true rfl)) (hR.le (Nat.le_of_ble_eq_true rfl))  v1 (cf_234_0 v1 N) h2 hq) (g_aload_n rfl (g_getR (mz_at hS (Nat.le_of_ble_eq_true rfl) mzcS_0) mzcf_11_3 (mz_rb hR (Nat.le_of_ble_eq_true rfl) rfl mzcR_0_3) (g_iconst mzi_0 (g_putI (mz_at hS (Nat.le_of_ble_eq_true rfl) mzcS_56) mzcf_9_13 (g_aload_n rfl (g_getR (mz_at hS (Nat.le_of_ble_eq_true rfl) mzcS_0) mzcf_11_10 (mz_rb hR (Nat.le_of_ble_eq_true rfl) rfl mzcR_0_10) (g_bipush mzb_11 ?_)))))))
  refine g_iald hS.1 (mz_at hS (Nat.le_of_ble_eq_true rfl) mzcS_53) (mz_ibd (by decide)) (g_iconst mzi_1 ?_)
  refine g_icne (tg := 91) rfl ms_233_91 hC (fun h3 hC => ?_) (fun h3 hC => ?_)
  · have hp := hp.1 h3
    refine g_aload_n rfl (g_getR (mz_at hS (Nat.le_of_ble_eq_true rfl) mzcS_0) mzcf_11_3 (mz_rb hR (Nat.le_of_ble_eq_true rfl) rfl mzcR_0_3) ?_)
    obtain ⟨h4, hp⟩ := hp
    refine g_getZ (mz_at hS (Nat.le_of_ble_eq_true rfl) mzcS_56) mzcf_9_6 h4 ?_
    refine g_zeq (tg := 91) rfl ms_233_91 hC (fun h5 hC => ?_) (fun h5 hC => ?_)
    · have hp := hp.1 h5
      refine g_aload_n rfl (g_getR (mz_at hS (Nat.le_of_ble_eq_true rfl) mzcS_0) mzcf_11_7 (mz_rb hR (Nat.le_of_ble_eq_true rfl) rfl mzcR_0_7) (g_iconst mzi_0 ?_))
      obtain ⟨h6, hp⟩ := hp
      refine g_v2v (Nat.le_of_ble_eq_true rfl) (mz_at hS (Nat.le_of_ble_eq_true rfl) mzcS_115) (fun _ hq => cs_224 (Nat.le_trans (Nat.le_of_ble_eq_true rfl) hd) (hS.le (Nat.le_of_ble_eq_true rfl)) (hR.le (Nat.le_of_ble_eq_true rfl))  0 (mz_pI (cf_237_0 v1 (cf_234_0 v1 N)) 56 13 0) h6 hq) ?_
      refine g_zeq (tg := 91) rfl ms_233_91 hC (fun h7 hC => ?_) (fun h7 hC => ?_)
      · have hp := hp.1 h7
        refine g_aload_n rfl (g_getR (mz_at hS (Nat.le_of_ble_eq_true rfl) mzcS_0) mzcf_11_4 (mz_rb hR (Nat.le_of_ble_eq_true rfl) rfl mzcR_0_4) (g_aload_n rfl (g_getR (mz_at hS (Nat.le_of_ble_eq_true rfl) mzcS_0) mzcf_11_1 (mz_rb hR (Nat.le_of_ble_eq_true rfl) rfl mzcR_0_1) (g_aload_n rfl (g_getR (mz_at hS (Nat.le_of_ble_eq_true rfl) mzcS_0) mzcf_11_3 (mz_rb hR (Nat.le_of_ble_eq_true rfl) rfl mzcR_0_3) (g_aload_n rfl (g_getR (mz_at hS (Nat.le_of_ble_eq_true rfl) mzcS_0) mzcf_11_8 (mz_rb hR (Nat.le_of_ble_eq_true rfl) rfl mzcR_0_8) ?_)))))))
        refine g_aload_n rfl (g_getR (mz_at hS (Nat.le_of_ble_eq_true rfl) mzcS_0) mzcf_11_10 (mz_rb hR (Nat.le_of_ble_eq_true rfl) rfl mzcR_0_10) ?_)
        obtain ⟨h8, hp⟩ := hp
        refine g_v5n (Nat.le_of_ble_eq_true rfl) (mz_at hS (Nat.le_of_ble_eq_true rfl) mzcS_65) (fun _ hq => cs_239 (Nat.le_trans (Nat.le_of_ble_eq_true rfl) hd) (hS.le (Nat.le_of_ble_eq_true rfl)) (hR.le (Nat.le_of_ble_eq_true rfl))  (mz_pI (cf_237_0 v1 (cf_234_0 v1 N)) 56 13 0) h8 hq) ?_
        refine g_weak ?_ (g_cl (cg_233_91 hd hS hR (cf_239_0 (mz_pI (cf_237_0 v1 (cf_234_0 v1 N)) 56 13 0)) hr hp hC))
        exact ⟨rfl, trivial⟩
      · have hp := hp.2 h7
        refine g_weak ?_ (g_cl (cg_233_91 hd hS hR (mz_pI (cf_237_0 v1 (cf_234_0 v1 N)) 56 13 0) hr hp hC))
        exact ⟨rfl, trivial⟩
    · have hp := hp.2 h5
      refine g_weak ?_ (g_cl (cg_233_91 hd hS hR (mz_pI (cf_237_0 v1 (cf_234_0 v1 N)) 56 13 0) hr hp hC))
      exact ⟨rfl, trivial⟩
  · have hp := hp.2 h3
    refine g_weak ?_ (g_cl (cg_233_91 hd hS hR (mz_pI (cf_237_0 v1 (cf_234_0 v1 N)) 56 13 0) hr hp hC))
    exact ⟨rfl, trivial⟩
theorem cs_233 (hd : 5 ≤ d) (hS : mz_extR S 232) (hR : mz_rok R 232)  (v1 : Int32) (N : mz_N) (hp : cp_233_0 v1 N) (hq : Q (.inl none) (mz_k S R (cf_233_0 v1 N) b t)) : mz_Ed (mz_X0 L xs) d 233 [.ref 0, .int v1] (mz_k S R N b t) Q :=
  by
  refine g_in mzq_233 (Nat.le_of_ble_eq_true rfl) (Nat.le_of_ble_eq_true rfl) (Nat.le_trans (Nat.le_of_ble_eq_true rfl) hd) ?_
  refine g_weak ?_ (cg_233_0 (d := d - 1) (by omega) hS hR v1 N (C0 := fun z => Q (.inl none) (mz_k S R z b t)) (fun _ h => h) hp hq)
  exact ⟨rfl, rfl, trivial⟩
/-! 245 KeptHouse$Climate.ventilate (LKeptHouse$Plan;I)V -/
theorem ms_245_0 : mz_sf mk_245 0 = mk_245 := mz_sf_zero _
theorem ms_245_2 : mz_sf mk_245 2 = mt_245_2 := mz_sf_add ms_245_0 (t := 2) rfl rfl
theorem ms_245_43 : mz_sf mk_245 43 = mt_245_43 := mz_sf_add ms_245_2 (t := 41) rfl rfl
theorem ms_245_49 : mz_sf mk_245 49 = mt_245_49 := mz_sf_add ms_245_43 (t := 6) rfl rfl
set_option maxRecDepth 100000 in
theorem mzq_245 : mz_PG0 245 = some (3, ⟨"KeptHouse$Climate", "ventilate", "(LKeptHouse$Plan;I)V"⟩, prog_5_method_19_code, 4, none, [], mk_245, []) := rfl
theorem cg_245_43 (hd : 0 ≤ d) (hS : mz_extR S 232) (hR : mz_rok R 232)  (v2 : Int32) (v3 : Int32) (N : mz_N) {C0 : (mz_N) → Prop} (hr : ∀ (N2 : mz_N), C0 N2 → Q (.inl none) (mz_k S R N2 b t)) {C1 : ((Int32 × mz_N) ⊕ (mz_N)) → Prop} (hc1 : ∀ s2, C1 (.inl s2) → mz_G (d, mz_X0 L xs, none, [], mk_245, 4, Q) 2 mt_245_2 [(0, .ref 65), (1, .ref 2), (2, .int v2), (3, .int s2.1)] [] false (mz_k S R s2.2 b t)) (hx1 : ∀ z, C1 (.inr z) → C0 z) (hp : cp_245_43 v2 v3 N) (hC : C1 (cf_245_43 v2 v3 N)) : mz_G (d, mz_X0 L xs, none, [], mk_245, 4, Q) 43 mt_245_43 [(0, .ref 65), (1, .ref 2), (2, .int v2), (3, .int v3)] [] false (mz_k S R N b t) := by
  unfold cf_245_43 at hC
  unfold cp_245_43 at hp
  refine g_iinc rfl mzi_1 (Nat.le_of_ble_eq_true rfl) rfl (g_goto (tg := 2) rfl ms_245_2 ?_)
  refine g_weak ?_ (g_cl (hc1 ((v3 + 1), N) hC))
  exact ⟨rfl, rfl, rfl, rfl, trivial⟩
theorem cb_245_2 (hd : 0 ≤ d) (hS : mz_extR S 232) (hR : mz_rok R 232)  (v2 : Int32) (s : Int32 × mz_N) {C0 : (mz_N) → Prop} (hr : ∀ (N2 : mz_N), C0 N2 → Q (.inl none) (mz_k S R N2 b t)) {C1 : ((Int32 × mz_N) ⊕ (mz_N)) → Prop} (hc1 : ∀ s2, C1 (.inl s2) → mz_G (d, mz_X0 L xs, none, [], mk_245, 4, Q) 2 mt_245_2 [(0, .ref 65), (1, .ref 2), (2, .int v2), (3, .int s2.1)] [] false (mz_k S R s2.2 b t)) (hx1 : ∀ z, C1 (.inr z) → C0 z) (hp : cd_245_2 v2 s) (hC : C1 (cq_245_2 v2 s)) : mz_G (d, mz_X0 L xs, none, [], mk_245, 4, Q) 2 mt_245_2 [(0, .ref 65), (1, .ref 2), (2, .int v2), (3, .int s.1)] [] false (mz_k S R s.2 b t) := by
  unfold cq_245_2 at hC
  unfold cd_245_2 at hp
  refine g_iload_n rfl (g_aload_n rfl (g_getI (mz_at hS (Nat.le_of_ble_eq_true rfl) mzcS_2) mzcf_5_7 ?_))
  refine g_icge (tg := 49) rfl ms_245_49 hC (fun h1 hC => ?_) (fun h1 hC => ?_)
  · have hp := hp.1 h1
    refine g_aload_n rfl (g_getR (mz_at hS (Nat.le_of_ble_eq_true rfl) mzcS_65) mzcf_3_9 (mz_rb hR (Nat.le_of_ble_eq_true rfl) rfl mzcR_65_9) (g_iload_n rfl (g_dup2 rfl rfl ?_)))
    obtain ⟨h2, hp⟩ := hp
    refine g_lald (mz_at hS (Nat.le_of_ble_eq_true rfl) mzcS_74) h2 (g_aload_n rfl (g_getR (mz_at hS (Nat.le_of_ble_eq_true rfl) mzcS_65) mzcf_3_9 (mz_rb hR (Nat.le_of_ble_eq_true rfl) rfl mzcR_65_9) (g_iload_n rfl ?_)))
    obtain ⟨h3, hp⟩ := hp
    refine g_lald (mz_at hS (Nat.le_of_ble_eq_true rfl) mzcS_74) h3 (g_iconst mzi_2 (g_aload_n rfl (g_getR (mz_at hS (Nat.le_of_ble_eq_true rfl) mzcS_2) mzcf_5_9 (mz_rb hR (Nat.le_of_ble_eq_true rfl) rfl mzcR_2_9) (g_iconst mzi_5 (g_aald4 (m := 22) (mz_at hS (Nat.le_of_ble_eq_true rfl) mzcS_16) (mz_ibd (by decide)) (mz_rb hR (Nat.le_of_ble_eq_true rfl) rfl mzcRr_16_5) (g_iload_n rfl ?_))))))
    obtain ⟨h4, hp⟩ := hp
    refine g_iald hS.1 (mz_at hS (Nat.le_of_ble_eq_true rfl) mzcS_22) h4 (g_imul (g_iload_n rfl (g_iadd (g_i2l (g_lmul (g_con3 (g_ldiv (by decide) ?_)))))))
    refine g_lsub ?_
    obtain ⟨h5, hp⟩ := hp
    refine g_last (mz_at hS (Nat.le_of_ble_eq_true rfl) mzcS_74) h5 ?_
    refine g_weak ?_ (g_cl (cg_245_43 hd hS hR v2 s.1 (mz_wL s.2 74 s.1 ((mz_gL s.2 74 s.1) - (((mz_gL s.2 74 s.1) * (((2 * (mz_gI s.2 22 s.1)) + v2).toInt64)) / 1000))) hr hc1 hx1 hp hC))
    exact ⟨rfl, rfl, rfl, rfl, trivial⟩
  · have hp := hp.2 h1
    exact g_vret rfl (hr _ (hx1 _ hC))
theorem cg_245_2 (hd : 0 ≤ d) (hS : mz_extR S 232) (hR : mz_rok R 232)  (v2 : Int32) (v3 : Int32) (N : mz_N) {C0 : (mz_N) → Prop} (hr : ∀ (N2 : mz_N), C0 N2 → Q (.inl none) (mz_k S R N2 b t)) (hp : cp_245_2 v2 v3 N) (hC : C0 (cf_245_2 v2 v3 N)) : mz_G (d, mz_X0 L xs, none, [], mk_245, 4, Q) 2 mt_245_2 [(0, .ref 65), (1, .ref 2), (2, .int v2), (3, .int v3)] [] false (mz_k S R N b t) := by
  obtain ⟨n, hn⟩ := hp
  exact g_loop (G := fun s => mz_G (d, mz_X0 L xs, none, [], mk_245, 4, Q) 2 mt_245_2 [(0, .ref 65), (1, .ref 2), (2, .int v2), (3, .int s.1)] [] false (mz_k S R s.2 b t)) (C := C0) (fun C2 hc hx s hP hC => cb_245_2 hd hS hR v2 s hr hc hx hP hC) n (v3, N) hn hC
theorem cg_245_0 (hd : 0 ≤ d) (hS : mz_extR S 232) (hR : mz_rok R 232)  (v2 : Int32) (N : mz_N) {C0 : (mz_N) → Prop} (hr : ∀ (N2 : mz_N), C0 N2 → Q (.inl none) (mz_k S R N2 b t)) (hp : cp_245_0 v2 N) (hC : C0 (cf_245_0 v2 N)) : mz_G (d, mz_X0 L xs, none, [], mk_245, 4, Q) 0 mk_245 [(0, .ref 65), (1, .ref 2), (2, .int v2)] [] true (mz_k S R N b t) := by
  unfold cf_245_0 at hC
  unfold cp_245_0 at hp
  refine g_iconst mzi_0 (g_istore_n (Nat.le_of_ble_eq_true rfl) rfl ?_)
  refine g_weak ?_ (g_cl (cg_245_2 hd hS hR v2 0 N hr hp hC))
  exact ⟨rfl, rfl, rfl, rfl, trivial⟩
theorem cs_245 (hd : 1 ≤ d) (hS : mz_extR S 232) (hR : mz_rok R 232)  (v2 : Int32) (N : mz_N) (hp : cp_245_0 v2 N) (hq : Q (.inl none) (mz_k S R (cf_245_0 v2 N) b t)) : mz_Ed (mz_X0 L xs) d 245 [.ref 65, .ref 2, .int v2] (mz_k S R N b t) Q :=
  by
  refine g_in mzq_245 (Nat.le_of_ble_eq_true rfl) (Nat.le_of_ble_eq_true rfl) (Nat.le_trans (Nat.le_of_ble_eq_true rfl) hd) ?_
  refine g_weak ?_ (cg_245_0 (d := d - 1) (by omega) hS hR v2 N (C0 := fun z => Q (.inl none) (mz_k S R z b t)) (fun _ h => h) hp hq)
  exact ⟨rfl, rfl, rfl, trivial⟩
/-! 246 KeptHouse$Climate.growMould (LKeptHouse$Plan;)V -/
theorem ms_246_0 : mz_sf mk_246 0 = mk_246 := mz_sf_zero _
theorem ms_246_2 : mz_sf mk_246 2 = mt_246_2 := mz_sf_add ms_246_0 (t := 2) rfl rfl
theorem ms_246_37 : mz_sf mk_246 37 = mt_246_37 := mz_sf_add ms_246_2 (t := 35) rfl rfl
theorem ms_246_54 : mz_sf mk_246 54 = mt_246_54 := mz_sf_add ms_246_37 (t := 17) rfl rfl
theorem ms_246_55 : mz_sf mk_246 55 = mt_246_55 := mz_sf_add ms_246_54 (t := 1) rfl rfl
theorem ms_246_82 : mz_sf mk_246 82 = mt_246_82 := mz_sf_add ms_246_55 (t := 27) rfl rfl
theorem ms_246_94 : mz_sf mk_246 94 = mt_246_94 := mz_sf_add ms_246_82 (t := 12) rfl rfl
theorem ms_246_95 : mz_sf mk_246 95 = mt_246_95 := mz_sf_add ms_246_94 (t := 1) rfl rfl
theorem ms_246_101 : mz_sf mk_246 101 = mt_246_101 := mz_sf_add ms_246_95 (t := 6) rfl rfl
set_option maxRecDepth 100000 in
theorem mzq_246 : mz_PG0 246 = some (3, ⟨"KeptHouse$Climate", "growMould", "(LKeptHouse$Plan;)V"⟩, prog_5_method_20_code, 4, none, [], mk_246, []) := rfl
theorem cg_246_95 (hd : 0 ≤ d) (hS : mz_extR S 232) (hR : mz_rok R 232)  (v2 : Int32) (N : mz_N) {C0 : (mz_N) → Prop} (hr : ∀ (N2 : mz_N), C0 N2 → Q (.inl none) (mz_k S R N2 b t)) {C1 : ((Int32 × mz_N) ⊕ (mz_N)) → Prop} (hc1 : ∀ s2, C1 (.inl s2) → mz_G (d, mz_X0 L xs, none, [], mk_246, 4, Q) 2 mt_246_2 [(0, .ref 65), (1, .ref 2), (2, .int s2.1)] [] false (mz_k S R s2.2 b t)) (hx1 : ∀ z, C1 (.inr z) → C0 z) (hp : cp_246_95 v2 N) (hC : C1 (cf_246_95 v2 N)) : mz_G (d, mz_X0 L xs, none, [], mk_246, 4, Q) 95 mt_246_95 [(0, .ref 65), (1, .ref 2), (2, .int v2)] [] false (mz_k S R N b t) := by
  unfold cf_246_95 at hC
  unfold cp_246_95 at hp
  refine g_iinc rfl mzi_1 (Nat.le_of_ble_eq_true rfl) rfl (g_goto (tg := 2) rfl ms_246_2 ?_)
  refine g_weak ?_ (g_cl (hc1 ((v2 + 1), N) hC))
  exact ⟨rfl, rfl, rfl, trivial⟩
theorem cg_246_94 (hd : 0 ≤ d) (hS : mz_extR S 232) (hR : mz_rok R 232)  (s1 : Int32) (s2 : Int32) (v2 : Int32) (N : mz_N) {C0 : (mz_N) → Prop} (hr : ∀ (N2 : mz_N), C0 N2 → Q (.inl none) (mz_k S R N2 b t)) {C1 : ((Int32 × mz_N) ⊕ (mz_N)) → Prop} (hc1 : ∀ s2, C1 (.inl s2) → mz_G (d, mz_X0 L xs, none, [], mk_246, 4, Q) 2 mt_246_2 [(0, .ref 65), (1, .ref 2), (2, .int s2.1)] [] false (mz_k S R s2.2 b t)) (hx1 : ∀ z, C1 (.inr z) → C0 z) (hp : cp_246_94 s1 s2 v2 N) (hC : C1 (cf_246_94 s1 s2 v2 N)) : mz_G (d, mz_X0 L xs, none, [], mk_246, 4, Q) 94 mt_246_94 [(0, .ref 65), (1, .ref 2), (2, .int v2)] [.int s2, .int s1, .ref 72] false (mz_k S R N b t) := by
  unfold cf_246_94 at hC
  unfold cp_246_94 at hp
  obtain ⟨h1, hp⟩ := hp
  refine g_iast (mz_at hS (Nat.le_of_ble_eq_true rfl) mzcS_72) h1 ?_
  refine g_weak ?_ (g_cl (cg_246_95 hd hS hR v2 (mz_wI N 72 s1 s2) hr hc1 hx1 hp hC))
  exact ⟨rfl, rfl, rfl, trivial⟩
theorem cg_246_55 (hd : 0 ≤ d) (hS : mz_extR S 232) (hR : mz_rok R 232)  (s0 : Bool) (v2 : Int32) (N : mz_N) {C0 : (mz_N) → Prop} (hr : ∀ (N2 : mz_N), C0 N2 → Q (.inl none) (mz_k S R N2 b t)) {C1 : ((Int32 × mz_N) ⊕ (mz_N)) → Prop} (hc1 : ∀ s2, C1 (.inl s2) → mz_G (d, mz_X0 L xs, none, [], mk_246, 4, Q) 2 mt_246_2 [(0, .ref 65), (1, .ref 2), (2, .int s2.1)] [] false (mz_k S R s2.2 b t)) (hx1 : ∀ z, C1 (.inr z) → C0 z) (hp : cp_246_55 s0 v2 N) (hC : C1 (cf_246_55 s0 v2 N)) : mz_G (d, mz_X0 L xs, none, [], mk_246, 4, Q) 55 mt_246_55 [(0, .ref 65), (1, .ref 2), (2, .int v2)] [.int (mz_b01 s0)] false (mz_k S R N b t) := by
  unfold cf_246_55 at hC
  unfold cp_246_55 at hp
  refine g_istore_n (Nat.le_of_ble_eq_true rfl) rfl (g_aload_n rfl (g_getR (mz_at hS (Nat.le_of_ble_eq_true rfl) mzcS_65) mzcf_3_6 (mz_rb hR (Nat.le_of_ble_eq_true rfl) rfl mzcR_65_6) (g_iload_n rfl (g_iload_n rfl ?_))))
  refine g_zeq (tg := 82) rfl ms_246_82 hC (fun h1 hC => ?_) (fun h1 hC => ?_)
  · have hp := hp.1 h1
    refine g_sipush mzs_1000 (g_aload_n rfl (g_getR (mz_at hS (Nat.le_of_ble_eq_true rfl) mzcS_65) mzcf_3_6 (mz_rb hR (Nat.le_of_ble_eq_true rfl) rfl mzcR_65_6) (g_iload_n rfl ?_)))
    obtain ⟨h2, hp⟩ := hp
    refine g_iald hS.1 (mz_at hS (Nat.le_of_ble_eq_true rfl) mzcS_72) h2 (g_iconst mzi_1 (g_iadd (g_imin (Nat.le_of_ble_eq_true rfl) (g_goto (tg := 94) rfl ms_246_94 ?_))))
    refine g_weak ?_ (g_cl (cg_246_94 hd hS hR v2 (mz_imin 1000 ((mz_gI N 72 v2) + 1)) v2 N hr hc1 hx1 hp hC))
    exact ⟨rfl, rfl, rfl, trivial⟩
  · have hp := hp.2 h1
    refine g_iconst mzi_0 (g_aload_n rfl (g_getR (mz_at hS (Nat.le_of_ble_eq_true rfl) mzcS_65) mzcf_3_6 (mz_rb hR (Nat.le_of_ble_eq_true rfl) rfl mzcR_65_6) (g_iload_n rfl ?_)))
    obtain ⟨h3, hp⟩ := hp
    refine g_iald hS.1 (mz_at hS (Nat.le_of_ble_eq_true rfl) mzcS_72) h3 (g_iconst mzi_1 (g_isub (g_imax (Nat.le_of_ble_eq_true rfl) ?_)))
    refine g_weak ?_ (g_cl (cg_246_94 hd hS hR v2 (mz_imax 0 ((mz_gI N 72 v2) - 1)) v2 N hr hc1 hx1 hp hC))
    exact ⟨rfl, rfl, rfl, trivial⟩
theorem cg_246_54 (hd : 0 ≤ d) (hS : mz_extR S 232) (hR : mz_rok R 232)  (v2 : Int32) (N : mz_N) {C0 : (mz_N) → Prop} (hr : ∀ (N2 : mz_N), C0 N2 → Q (.inl none) (mz_k S R N2 b t)) {C1 : ((Int32 × mz_N) ⊕ (mz_N)) → Prop} (hc1 : ∀ s2, C1 (.inl s2) → mz_G (d, mz_X0 L xs, none, [], mk_246, 4, Q) 2 mt_246_2 [(0, .ref 65), (1, .ref 2), (2, .int s2.1)] [] false (mz_k S R s2.2 b t)) (hx1 : ∀ z, C1 (.inr z) → C0 z) (hp : cp_246_54 v2 N) (hC : C1 (cf_246_54 v2 N)) : mz_G (d, mz_X0 L xs, none, [], mk_246, 4, Q) 54 mt_246_54 [(0, .ref 65), (1, .ref 2), (2, .int v2)] [] false (mz_k S R N b t) := by
  unfold cf_246_54 at hC
  unfold cp_246_54 at hp
  refine g_iconst mzi_0 ?_
  refine g_weak ?_ (g_cl (cg_246_55 hd hS hR false v2 N hr hc1 hx1 hp hC))
  exact ⟨rfl, rfl, rfl, trivial⟩
theorem cb_246_2 (hd : 0 ≤ d) (hS : mz_extR S 232) (hR : mz_rok R 232)   (s : Int32 × mz_N) {C0 : (mz_N) → Prop} (hr : ∀ (N2 : mz_N), C0 N2 → Q (.inl none) (mz_k S R N2 b t)) {C1 : ((Int32 × mz_N) ⊕ (mz_N)) → Prop} (hc1 : ∀ s2, C1 (.inl s2) → mz_G (d, mz_X0 L xs, none, [], mk_246, 4, Q) 2 mt_246_2 [(0, .ref 65), (1, .ref 2), (2, .int s2.1)] [] false (mz_k S R s2.2 b t)) (hx1 : ∀ z, C1 (.inr z) → C0 z) (hp : cd_246_2  s) (hC : C1 (cq_246_2  s)) : mz_G (d, mz_X0 L xs, none, [], mk_246, 4, Q) 2 mt_246_2 [(0, .ref 65), (1, .ref 2), (2, .int s.1)] [] false (mz_k S R s.2 b t) := by
  unfold cq_246_2 at hC
  unfold cd_246_2 at hp
  refine g_iload_n rfl (g_sipush mzs_240 ?_)
  refine g_icge (tg := 101) rfl ms_246_101 hC (fun h1 hC => ?_) (fun h1 hC => ?_)
  · have hp := hp.1 h1
    refine g_aload_n rfl (g_getR (mz_at hS (Nat.le_of_ble_eq_true rfl) mzcS_2) mzcf_5_14 (mz_rb hR (Nat.le_of_ble_eq_true rfl) rfl mzcR_2_14) (g_iload_n rfl ?_))
    obtain ⟨h2, hp⟩ := hp
    refine g_iald hS.1 (mz_at hS (Nat.le_of_ble_eq_true rfl) mzcS_36) h2 (g_iconst mzi_1 ?_)
    refine g_icne (tg := 95) rfl ms_246_95 hC (fun h3 hC => ?_) (fun h3 hC => ?_)
    · have hp := hp.1 h3
      refine g_aload_n rfl (g_getR (mz_at hS (Nat.le_of_ble_eq_true rfl) mzcS_65) mzcf_3_10 (mz_rb hR (Nat.le_of_ble_eq_true rfl) rfl mzcR_65_10) (g_aload_n rfl (g_getR (mz_at hS (Nat.le_of_ble_eq_true rfl) mzcS_2) mzcf_5_8 (mz_rb hR (Nat.le_of_ble_eq_true rfl) rfl mzcR_2_8) (g_iload_n rfl ?_))))
      obtain ⟨h4, hp⟩ := hp
      refine g_iald hS.1 (mz_at hS (Nat.le_of_ble_eq_true rfl) mzcS_15) h4 ?_
      obtain ⟨h5, hp⟩ := hp
      refine g_lald (mz_at hS (Nat.le_of_ble_eq_true rfl) mzcS_75) h5 (g_con3 (g_lcmp ?_))
      refine g_lge (tg := 54) rfl ms_246_54 hC (fun h6 hC => ?_) (fun h6 hC => ?_)
      · have hp := hp.1 h6
        refine g_aload_n rfl (g_getR (mz_at hS (Nat.le_of_ble_eq_true rfl) mzcS_65) mzcf_3_4 (mz_rb hR (Nat.le_of_ble_eq_true rfl) rfl mzcR_65_4) (g_iload_n rfl ?_))
        obtain ⟨h7, hp⟩ := hp
        refine g_lald (mz_at hS (Nat.le_of_ble_eq_true rfl) mzcS_70) h7 (g_con3 (g_lcmp ?_))
        refine g_lle (tg := 54) rfl ms_246_54 hC (fun h8 hC => ?_) (fun h8 hC => ?_)
        · have hp := hp.1 h8
          refine g_iconst mzi_1 (g_goto (tg := 55) rfl ms_246_55 ?_)
          refine g_weak ?_ (g_cl (cg_246_55 hd hS hR true s.1 s.2 hr hc1 hx1 hp hC))
          exact ⟨rfl, rfl, rfl, trivial⟩
        · have hp := hp.2 h8
          refine g_weak ?_ (g_cl (cg_246_54 hd hS hR s.1 s.2 hr hc1 hx1 hp hC))
          exact ⟨rfl, rfl, rfl, trivial⟩
      · have hp := hp.2 h6
        refine g_weak ?_ (g_cl (cg_246_54 hd hS hR s.1 s.2 hr hc1 hx1 hp hC))
        exact ⟨rfl, rfl, rfl, trivial⟩
    · have hp := hp.2 h3
      refine g_weak ?_ (g_cl (cg_246_95 hd hS hR s.1 s.2 hr hc1 hx1 hp hC))
      exact ⟨rfl, rfl, rfl, trivial⟩
  · have hp := hp.2 h1
    exact g_vret rfl (hr _ (hx1 _ hC))
theorem cg_246_2 (hd : 0 ≤ d) (hS : mz_extR S 232) (hR : mz_rok R 232)  (v2 : Int32) (N : mz_N) {C0 : (mz_N) → Prop} (hr : ∀ (N2 : mz_N), C0 N2 → Q (.inl none) (mz_k S R N2 b t)) (hp : cp_246_2 v2 N) (hC : C0 (cf_246_2 v2 N)) : mz_G (d, mz_X0 L xs, none, [], mk_246, 4, Q) 2 mt_246_2 [(0, .ref 65), (1, .ref 2), (2, .int v2)] [] false (mz_k S R N b t) := by
  obtain ⟨n, hn⟩ := hp
  exact g_loop (G := fun s => mz_G (d, mz_X0 L xs, none, [], mk_246, 4, Q) 2 mt_246_2 [(0, .ref 65), (1, .ref 2), (2, .int s.1)] [] false (mz_k S R s.2 b t)) (C := C0) (fun C2 hc hx s hP hC => cb_246_2 hd hS hR  s hr hc hx hP hC) n (v2, N) hn hC
theorem cg_246_0 (hd : 0 ≤ d) (hS : mz_extR S 232) (hR : mz_rok R 232)  (N : mz_N) {C0 : (mz_N) → Prop} (hr : ∀ (N2 : mz_N), C0 N2 → Q (.inl none) (mz_k S R N2 b t)) (hp : cp_246_0 N) (hC : C0 (cf_246_0 N)) : mz_G (d, mz_X0 L xs, none, [], mk_246, 4, Q) 0 mk_246 [(0, .ref 65), (1, .ref 2)] [] true (mz_k S R N b t) := by
  unfold cf_246_0 at hC
  unfold cp_246_0 at hp
  refine g_iconst mzi_0 (g_istore_n (Nat.le_of_ble_eq_true rfl) rfl ?_)
  refine g_weak ?_ (g_cl (cg_246_2 hd hS hR 0 N hr hp hC))
  exact ⟨rfl, rfl, rfl, trivial⟩
theorem cs_246 (hd : 1 ≤ d) (hS : mz_extR S 232) (hR : mz_rok R 232)  (N : mz_N) (hp : cp_246_0 N) (hq : Q (.inl none) (mz_k S R (cf_246_0 N) b t)) : mz_Ed (mz_X0 L xs) d 246 [.ref 65, .ref 2] (mz_k S R N b t) Q :=
  by
  refine g_in mzq_246 (Nat.le_of_ble_eq_true rfl) (Nat.le_of_ble_eq_true rfl) (Nat.le_trans (Nat.le_of_ble_eq_true rfl) hd) ?_
  refine g_weak ?_ (cg_246_0 (d := d - 1) (by omega) hS hR N (C0 := fun z => Q (.inl none) (mz_k S R z b t)) (fun _ h => h) hp hq)
  exact ⟨rfl, rfl, trivial⟩
end Fn11
