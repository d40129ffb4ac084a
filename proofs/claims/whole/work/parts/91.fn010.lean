/-! THE FUNCTIONS: written by program: each method comes to its function. -/
section Fn10
variable {L : Nat} {xs : Nat → Int32} {d : Nat} {S : mz_S} {R : Nat → Nat → Option Nat} {Q : mz_Q} {N : mz_N} {b : Bool} {t : Nat}
/-! 220 KeptHouse$Supply.setLoads (LKeptHouse$Plan;[II)V -/
theorem ms_220_0 : mz_sf mk_220 0 = mk_220 := mz_sf_zero _
theorem ms_220_12 : mz_sf mk_220 12 = mt_220_12 := mz_sf_add ms_220_0 (t := 12) rfl rfl
theorem ms_220_16 : mz_sf mk_220 16 = mt_220_16 := mz_sf_add ms_220_12 (t := 4) rfl rfl
theorem ms_220_17 : mz_sf mk_220 17 = mt_220_17 := mz_sf_add ms_220_16 (t := 1) rfl rfl
theorem ms_220_22 : mz_sf mk_220 22 = mt_220_22 := mz_sf_add ms_220_17 (t := 5) rfl rfl
theorem ms_220_48 : mz_sf mk_220 48 = mt_220_48 := mz_sf_add ms_220_22 (t := 26) rfl rfl
theorem ms_220_60 : mz_sf mk_220 60 = mt_220_60 := mz_sf_add ms_220_48 (t := 12) rfl rfl
theorem ms_220_61 : mz_sf mk_220 61 = mt_220_61 := mz_sf_add ms_220_60 (t := 1) rfl rfl
theorem ms_220_94 : mz_sf mk_220 94 = mt_220_94 := mz_sf_add ms_220_61 (t := 33) rfl rfl
theorem ms_220_95 : mz_sf mk_220 95 = mt_220_95 := mz_sf_add ms_220_94 (t := 1) rfl rfl
theorem ms_220_103 : mz_sf mk_220 103 = mt_220_103 := mz_sf_add ms_220_95 (t := 8) rfl rfl
theorem ms_220_132 : mz_sf mk_220 132 = mt_220_132 := mz_sf_add ms_220_103 (t := 29) rfl rfl
theorem ms_220_133 : mz_sf mk_220 133 = mt_220_133 := mz_sf_add ms_220_132 (t := 1) rfl rfl
theorem ms_220_146 : mz_sf mk_220 146 = mt_220_146 := mz_sf_add ms_220_133 (t := 13) rfl rfl
theorem ms_220_147 : mz_sf mk_220 147 = mt_220_147 := mz_sf_add ms_220_146 (t := 1) rfl rfl
theorem ms_220_152 : mz_sf mk_220 152 = mt_220_152 := mz_sf_add ms_220_147 (t := 5) rfl rfl
theorem ms_220_182 : mz_sf mk_220 182 = mt_220_182 := mz_sf_add ms_220_152 (t := 30) rfl rfl
theorem ms_220_192 : mz_sf mk_220 192 = mt_220_192 := mz_sf_add ms_220_182 (t := 10) rfl rfl
theorem ms_220_198 : mz_sf mk_220 198 = mt_220_198 := mz_sf_add ms_220_192 (t := 6) rfl rfl
set_option maxRecDepth 100000 in
theorem mzq_220 : mz_PG0 220 = some (9, ⟨"KeptHouse$Supply", "setLoads", "(LKeptHouse$Plan;[II)V"⟩, prog_11_method_3_code, 8, none, [], mk_220, []) := rfl
theorem cg_220_95 (hd : 2 ≤ d) (hS : mz_extR S 232) (hR : mz_rok R 232)  (s1 : Int32) (s2 : Int32) (s3 : Int32) (v3 : Int32) (v4 : Bool) (v5 : Int32) (N : mz_N) {C0 : (mz_N) → Prop} (hr : ∀ (N2 : mz_N), C0 N2 → Q (.inl none) (mz_k S R N2 b t)) {C1 : ((Int32 × mz_N) ⊕ (mz_N)) → Prop} (hc1 : ∀ s2, C1 (.inl s2) → mz_G (d, mz_X0 L xs, none, [], mk_220, 8, Q) 22 mt_220_22 [(0, .ref 56), (1, .ref 2), (2, .ref 53), (3, .int v3), (4, .int (mz_b01 v4)), (5, .int s2.1)] [] false (mz_k S R s2.2 b t)) (hx1 : ∀ z, C1 (.inr z) → C0 z) (hp : cp_220_95 s1 s2 s3 v3 v4 v5 N) (hC : C1 (cf_220_95 s1 s2 s3 v3 v4 v5 N)) : mz_G (d, mz_X0 L xs, none, [], mk_220, 8, Q) 95 mt_220_95 [(0, .ref 56), (1, .ref 2), (2, .ref 53), (3, .int v3), (4, .int (mz_b01 v4)), (5, .int v5)] [.int s3, .int s2, .int s1, .ref 58] false (mz_k S R N b t) := by
  unfold cf_220_95 at hC
  unfold cp_220_95 at hp
  refine g_iadd ?_
  have h1 := hp
  refine g_iast (mz_at hS (Nat.le_of_ble_eq_true rfl) mzcS_58) h1 (g_iinc rfl mzi_1 (Nat.le_of_ble_eq_true rfl) rfl (g_goto (tg := 22) rfl ms_220_22 ?_))
  refine g_weak ?_ (g_cl (hc1 ((v5 + 1), mz_wI N 58 s1 (s2 + s3)) hC))
  exact ⟨rfl, rfl, rfl, rfl, rfl, rfl, trivial⟩
theorem cg_220_61 (hd : 2 ≤ d) (hS : mz_extR S 232) (hR : mz_rok R 232)  (s0 : Bool) (v3 : Int32) (v4 : Bool) (v5 : Int32) (v6 : Int32) (N : mz_N) {C0 : (mz_N) → Prop} (hr : ∀ (N2 : mz_N), C0 N2 → Q (.inl none) (mz_k S R N2 b t)) {C1 : ((Int32 × mz_N) ⊕ (mz_N)) → Prop} (hc1 : ∀ s2, C1 (.inl s2) → mz_G (d, mz_X0 L xs, none, [], mk_220, 8, Q) 22 mt_220_22 [(0, .ref 56), (1, .ref 2), (2, .ref 53), (3, .int v3), (4, .int (mz_b01 v4)), (5, .int s2.1)] [] false (mz_k S R s2.2 b t)) (hx1 : ∀ z, C1 (.inr z) → C0 z) (hp : cp_220_61 s0 v3 v4 v5 v6 N) (hC : C1 (cf_220_61 s0 v3 v4 v5 v6 N)) : mz_G (d, mz_X0 L xs, none, [], mk_220, 8, Q) 61 mt_220_61 [(0, .ref 56), (1, .ref 2), (2, .ref 53), (3, .int v3), (4, .int (mz_b01 v4)), (5, .int v5), (6, .int v6)] [.int (mz_b01 s0)] false (mz_k S R N b t) := by
  unfold cf_220_61 at hC
  unfold cp_220_61 at hp
  refine g_istore (Nat.le_of_ble_eq_true rfl) rfl (g_aload_n rfl (g_getR (mz_at hS (Nat.le_of_ble_eq_true rfl) mzcS_56) mzcf_9_0 (mz_rb hR (Nat.le_of_ble_eq_true rfl) rfl mzcR_56_0) (g_iconst mzi_0 (g_aald4 (m := 58) (mz_at hS (Nat.le_of_ble_eq_true rfl) mzcS_57) (mz_ibd (by decide)) (mz_rb hR (Nat.le_of_ble_eq_true rfl) rfl mzcRr_57_0) (g_iload rfl (g_bipush mzb_15 (g_iload rfl ?_)))))))
  refine g_imul (g_iload rfl ?_)
  refine g_zeq (tg := 94) rfl ms_220_94 hC (fun h1 hC => ?_) (fun h1 hC => ?_)
  · have hp := hp.1 h1
    refine g_bipush mzb_6 (g_aload_n rfl (g_getR (mz_at hS (Nat.le_of_ble_eq_true rfl) mzcS_2) mzcf_5_17 (mz_rb hR (Nat.le_of_ble_eq_true rfl) rfl mzcR_2_17) (g_iload rfl ?_)))
    obtain ⟨h2, hp⟩ := hp
    refine g_iald hS.1 (mz_at hS (Nat.le_of_ble_eq_true rfl) mzcS_39) h2 (g_imul (g_goto (tg := 95) rfl ms_220_95 ?_))
    refine g_weak ?_ (g_cl (cg_220_95 hd hS hR v5 (15 * v6) (6 * (mz_gI N 39 v5)) v3 v4 v5 N hr hc1 hx1 hp hC))
    exact ⟨rfl, rfl, rfl, rfl, rfl, rfl, trivial⟩
  · have hp := hp.2 h1
    refine g_iconst mzi_0 ?_
    refine g_weak ?_ (g_cl (cg_220_95 hd hS hR v5 (15 * v6) 0 v3 v4 v5 N hr hc1 hx1 hp hC))
    exact ⟨rfl, rfl, rfl, rfl, rfl, rfl, trivial⟩
theorem cg_220_60 (hd : 2 ≤ d) (hS : mz_extR S 232) (hR : mz_rok R 232)  (v3 : Int32) (v4 : Bool) (v5 : Int32) (v6 : Int32) (N : mz_N) {C0 : (mz_N) → Prop} (hr : ∀ (N2 : mz_N), C0 N2 → Q (.inl none) (mz_k S R N2 b t)) {C1 : ((Int32 × mz_N) ⊕ (mz_N)) → Prop} (hc1 : ∀ s2, C1 (.inl s2) → mz_G (d, mz_X0 L xs, none, [], mk_220, 8, Q) 22 mt_220_22 [(0, .ref 56), (1, .ref 2), (2, .ref 53), (3, .int v3), (4, .int (mz_b01 v4)), (5, .int s2.1)] [] false (mz_k S R s2.2 b t)) (hx1 : ∀ z, C1 (.inr z) → C0 z) (hp : cp_220_60 v3 v4 v5 v6 N) (hC : C1 (cf_220_60 v3 v4 v5 v6 N)) : mz_G (d, mz_X0 L xs, none, [], mk_220, 8, Q) 60 mt_220_60 [(0, .ref 56), (1, .ref 2), (2, .ref 53), (3, .int v3), (4, .int (mz_b01 v4)), (5, .int v5), (6, .int v6)] [] false (mz_k S R N b t) := by
  unfold cf_220_60 at hC
  unfold cp_220_60 at hp
  refine g_iconst mzi_0 ?_
  refine g_weak ?_ (g_cl (cg_220_61 hd hS hR false v3 v4 v5 v6 N hr hc1 hx1 hp hC))
  exact ⟨rfl, rfl, rfl, rfl, rfl, rfl, rfl, trivial⟩
theorem cg_220_192 (hd : 2 ≤ d) (hS : mz_extR S 232) (hR : mz_rok R 232)  (v5 : Int32) (N : mz_N) {C0 : (mz_N) → Prop} (hr : ∀ (N2 : mz_N), C0 N2 → Q (.inl none) (mz_k S R N2 b t)) {C1 : ((Int32 × mz_N) ⊕ (mz_N)) → Prop} (hc1 : ∀ s2, C1 (.inl s2) → mz_G (d, mz_X0 L xs, none, [], mk_220, 8, Q) 152 mt_220_152 [(0, .ref 56), (5, .int s2.1)] [] false (mz_k S R s2.2 b t)) (hx1 : ∀ z, C1 (.inr z) → C0 z) (hp : cp_220_192 v5 N) (hC : C1 (cf_220_192 v5 N)) : mz_G (d, mz_X0 L xs, none, [], mk_220, 8, Q) 192 mt_220_192 [(0, .ref 56), (5, .int v5)] [] false (mz_k S R N b t) := by
  unfold cf_220_192 at hC
  unfold cp_220_192 at hp
  refine g_iinc rfl mzi_1 (Nat.le_of_ble_eq_true rfl) rfl (g_goto (tg := 152) rfl ms_220_152 ?_)
  refine g_weak ?_ (g_cl (hc1 ((v5 + 1), N) hC))
  exact ⟨rfl, rfl, trivial⟩
theorem cb_220_152 (hd : 2 ≤ d) (hS : mz_extR S 232) (hR : mz_rok R 232)   (s : Int32 × mz_N) {C0 : (mz_N) → Prop} (hr : ∀ (N2 : mz_N), C0 N2 → Q (.inl none) (mz_k S R N2 b t)) {C1 : ((Int32 × mz_N) ⊕ (mz_N)) → Prop} (hc1 : ∀ s2, C1 (.inl s2) → mz_G (d, mz_X0 L xs, none, [], mk_220, 8, Q) 152 mt_220_152 [(0, .ref 56), (5, .int s2.1)] [] false (mz_k S R s2.2 b t)) (hx1 : ∀ z, C1 (.inr z) → C0 z) (hp : cd_220_152  s) (hC : C1 (cq_220_152  s)) : mz_G (d, mz_X0 L xs, none, [], mk_220, 8, Q) 152 mt_220_152 [(0, .ref 56), (5, .int s.1)] [] false (mz_k S R s.2 b t) := by
  unfold cq_220_152 at hC
  unfold cd_220_152 at hp
  refine g_iload rfl (g_bipush mzb_11 ?_)
  refine g_icge (tg := 198) rfl ms_220_198 hC (fun h1 hC => ?_) (fun h1 hC => ?_)
  · have hp := hp.1 h1
    refine g_aload_n rfl (g_getR (mz_at hS (Nat.le_of_ble_eq_true rfl) mzcS_56) mzcf_9_0 (mz_rb hR (Nat.le_of_ble_eq_true rfl) rfl mzcR_56_0) (g_iconst mzi_3 (g_aald4 (m := 61) (mz_at hS (Nat.le_of_ble_eq_true rfl) mzcS_57) (mz_ibd (by decide)) (mz_rb hR (Nat.le_of_ble_eq_true rfl) rfl mzcRr_57_3) (g_iload rfl (g_iconst mzi_0 ?_)))))
    obtain ⟨h2, hp⟩ := hp
    refine g_iast (mz_at hS (Nat.le_of_ble_eq_true rfl) mzcS_61) h2 (g_aload_n rfl (g_getR (mz_at hS (Nat.le_of_ble_eq_true rfl) mzcS_56) mzcf_9_0 (mz_rb hR (Nat.le_of_ble_eq_true rfl) rfl mzcR_56_0) (g_iconst mzi_2 (g_aald4 (m := 60) (mz_at hS (Nat.le_of_ble_eq_true rfl) mzcS_57) (mz_ibd (by decide)) (mz_rb hR (Nat.le_of_ble_eq_true rfl) rfl mzcRr_57_2) (g_iload rfl ?_)))))
    obtain ⟨h3, hp⟩ := hp
    refine g_iald hS.1 (mz_at hS (Nat.le_of_ble_eq_true rfl) mzcS_60) h3 (g_iconst mzi_1 ?_)
    refine g_icne (tg := 192) rfl ms_220_192 hC (fun h4 hC => ?_) (fun h4 hC => ?_)
    · have hp := hp.1 h4
      refine g_aload_n rfl (g_getR (mz_at hS (Nat.le_of_ble_eq_true rfl) mzcS_56) mzcf_9_0 (mz_rb hR (Nat.le_of_ble_eq_true rfl) rfl mzcR_56_0) (g_iconst mzi_0 (g_aald4 (m := 58) (mz_at hS (Nat.le_of_ble_eq_true rfl) mzcS_57) (mz_ibd (by decide)) (mz_rb hR (Nat.le_of_ble_eq_true rfl) rfl mzcRr_57_0) (g_iload rfl (g_iconst mzi_0 ?_)))))
      obtain ⟨h5, hp⟩ := hp
      refine g_iast (mz_at hS (Nat.le_of_ble_eq_true rfl) mzcS_58) h5 ?_
      refine g_weak ?_ (g_cl (cg_220_192 hd hS hR s.1 (mz_wI (mz_wI s.2 61 s.1 0) 58 s.1 0) hr hc1 hx1 hp hC))
      exact ⟨rfl, rfl, trivial⟩
    · have hp := hp.2 h4
      refine g_weak ?_ (g_cl (cg_220_192 hd hS hR s.1 (mz_wI s.2 61 s.1 0) hr hc1 hx1 hp hC))
      exact ⟨rfl, rfl, trivial⟩
  · have hp := hp.2 h1
    exact g_vret rfl (hr _ (hx1 _ hC))
theorem cg_220_152 (hd : 2 ≤ d) (hS : mz_extR S 232) (hR : mz_rok R 232)  (v5 : Int32) (N : mz_N) {C0 : (mz_N) → Prop} (hr : ∀ (N2 : mz_N), C0 N2 → Q (.inl none) (mz_k S R N2 b t)) (hp : cp_220_152 v5 N) (hC : C0 (cf_220_152 v5 N)) : mz_G (d, mz_X0 L xs, none, [], mk_220, 8, Q) 152 mt_220_152 [(0, .ref 56), (5, .int v5)] [] false (mz_k S R N b t) := by
  obtain ⟨n, hn⟩ := hp
  exact g_loop (G := fun s => mz_G (d, mz_X0 L xs, none, [], mk_220, 8, Q) 152 mt_220_152 [(0, .ref 56), (5, .int s.1)] [] false (mz_k S R s.2 b t)) (C := C0) (fun C2 hc hx s hP hC => cb_220_152 hd hS hR  s hr hc hx hP hC) n (v5, N) hn hC
theorem cg_220_147 (hd : 2 ≤ d) (hS : mz_extR S 232) (hR : mz_rok R 232)  (s1 : Int32) (s2 : Int32) (s3 : Int32) (N : mz_N) {C0 : (mz_N) → Prop} (hr : ∀ (N2 : mz_N), C0 N2 → Q (.inl none) (mz_k S R N2 b t)) (hp : cp_220_147 s1 s2 s3 N) (hC : C0 (cf_220_147 s1 s2 s3 N)) : mz_G (d, mz_X0 L xs, none, [], mk_220, 8, Q) 147 mt_220_147 [(0, .ref 56)] [.int s3, .int s2, .int s1, .ref 58] false (mz_k S R N b t) := by
  unfold cf_220_147 at hC
  unfold cp_220_147 at hp
  refine g_iadd ?_
  obtain ⟨h1, hp⟩ := hp
  refine g_iast (mz_at hS (Nat.le_of_ble_eq_true rfl) mzcS_58) h1 (g_iconst mzi_0 (g_istore (Nat.le_of_ble_eq_true rfl) rfl ?_))
  refine g_weak ?_ (g_cl (cg_220_152 hd hS hR 0 (mz_wI N 58 s1 (s2 + s3)) hr hp hC))
  exact ⟨rfl, rfl, trivial⟩
theorem cg_220_133 (hd : 2 ≤ d) (hS : mz_extR S 232) (hR : mz_rok R 232)  (s1 : Int32) (s2 : Int32) (s3 : Int32) (N : mz_N) {C0 : (mz_N) → Prop} (hr : ∀ (N2 : mz_N), C0 N2 → Q (.inl none) (mz_k S R N2 b t)) (hp : cp_220_133 s1 s2 s3 N) (hC : C0 (cf_220_133 s1 s2 s3 N)) : mz_G (d, mz_X0 L xs, none, [], mk_220, 8, Q) 133 mt_220_133 [(0, .ref 56)] [.int s3, .int s2, .int s1, .ref 58] false (mz_k S R N b t) := by
  unfold cf_220_133 at hC
  unfold cp_220_133 at hp
  refine g_iadd (g_aload_n rfl ?_)
  obtain ⟨h1, hp⟩ := hp
  refine g_getZ (mz_at hS (Nat.le_of_ble_eq_true rfl) mzcS_56) mzcf_9_9 h1 ?_
  refine g_zeq (tg := 146) rfl ms_220_146 hC (fun h2 hC => ?_) (fun h2 hC => ?_)
  · have hp := hp.1 h2
    refine g_bipush mzb_40 (g_goto (tg := 147) rfl ms_220_147 ?_)
    refine g_weak ?_ (g_cl (cg_220_147 hd hS hR s1 (s2 + s3) 40 N hr hp hC))
    exact ⟨rfl, trivial⟩
  · have hp := hp.2 h2
    refine g_iconst mzi_0 ?_
    refine g_weak ?_ (g_cl (cg_220_147 hd hS hR s1 (s2 + s3) 0 N hr hp hC))
    exact ⟨rfl, trivial⟩
theorem cb_220_22 (hd : 2 ≤ d) (hS : mz_extR S 232) (hR : mz_rok R 232)  (v3 : Int32) (v4 : Bool) (s : Int32 × mz_N) {C0 : (mz_N) → Prop} (hr : ∀ (N2 : mz_N), C0 N2 → Q (.inl none) (mz_k S R N2 b t)) {C1 : ((Int32 × mz_N) ⊕ (mz_N)) → Prop} (hc1 : ∀ s2, C1 (.inl s2) → mz_G (d, mz_X0 L xs, none, [], mk_220, 8, Q) 22 mt_220_22 [(0, .ref 56), (1, .ref 2), (2, .ref 53), (3, .int v3), (4, .int (mz_b01 v4)), (5, .int s2.1)] [] false (mz_k S R s2.2 b t)) (hx1 : ∀ z, C1 (.inr z) → C0 z) (hp : cd_220_22 v3 v4 s) (hC : C1 (cq_220_22 v3 v4 s)) : mz_G (d, mz_X0 L xs, none, [], mk_220, 8, Q) 22 mt_220_22 [(0, .ref 56), (1, .ref 2), (2, .ref 53), (3, .int v3), (4, .int (mz_b01 v4)), (5, .int s.1)] [] false (mz_k S R s.2 b t) := by
  unfold cq_220_22 at hC
  unfold cd_220_22 at hp
  refine g_iload rfl (g_bipush mzb_10 ?_)
  refine g_icge (tg := 103) rfl ms_220_103 hC (fun h1 hC => ?_) (fun h1 hC => ?_)
  · have hp := hp.1 h1
    refine g_aload_n rfl (g_iload rfl (g_iload_n rfl ?_))
    obtain ⟨h2, hp⟩ := hp
    refine g_v3v (Nat.le_of_ble_eq_true rfl) (mz_at hS (Nat.le_of_ble_eq_true rfl) mzcS_2) (fun _ hq => cs_221 (Nat.le_trans (Nat.le_of_ble_eq_true rfl) hd) (hS.le (Nat.le_of_ble_eq_true rfl)) (hR.le (Nat.le_of_ble_eq_true rfl))  s.1 v3 s.2 h2 hq) (g_istore (Nat.le_of_ble_eq_true rfl) rfl (g_iload rfl ?_))
    refine g_ifle (tg := 60) rfl ms_220_60 hC (fun h3 hC => ?_) (fun h3 hC => ?_)
    · have hp := hp.1 h3
      refine g_iload rfl ?_
      refine g_zeq (tg := 60) rfl ms_220_60 hC (fun h4 hC => ?_) (fun h4 hC => ?_)
      · have hp := hp.1 h4
        refine g_aload_n rfl (g_bipush mzb_10 (g_iald hS.1 (mz_at hS (Nat.le_of_ble_eq_true rfl) mzcS_53) (mz_ibd (by decide)) (g_iconst mzi_1 ?_)))
        refine g_icne (tg := 60) rfl ms_220_60 hC (fun h5 hC => ?_) (fun h5 hC => ?_)
        · have hp := hp.1 h5
          refine g_iconst mzi_1 (g_goto (tg := 61) rfl ms_220_61 ?_)
          refine g_weak ?_ (g_cl (cg_220_61 hd hS hR true v3 v4 s.1 (cf_221_0 s.1 v3 s.2) s.2 hr hc1 hx1 hp hC))
          exact ⟨rfl, rfl, rfl, rfl, rfl, rfl, rfl, trivial⟩
        · have hp := hp.2 h5
          refine g_weak ?_ (g_cl (cg_220_60 hd hS hR v3 v4 s.1 (cf_221_0 s.1 v3 s.2) s.2 hr hc1 hx1 hp hC))
          exact ⟨rfl, rfl, rfl, rfl, rfl, rfl, rfl, trivial⟩
      · have hp := hp.2 h4
        refine g_weak ?_ (g_cl (cg_220_60 hd hS hR v3 v4 s.1 (cf_221_0 s.1 v3 s.2) s.2 hr hc1 hx1 hp hC))
        exact ⟨rfl, rfl, rfl, rfl, rfl, rfl, rfl, trivial⟩
    · have hp := hp.2 h3
      refine g_weak ?_ (g_cl (cg_220_60 hd hS hR v3 v4 s.1 (cf_221_0 s.1 v3 s.2) s.2 hr hc1 hx1 hp hC))
      exact ⟨rfl, rfl, rfl, rfl, rfl, rfl, rfl, trivial⟩
  · have hp := hp.2 h1
    refine g_aload_n rfl (g_getR (mz_at hS (Nat.le_of_ble_eq_true rfl) mzcS_56) mzcf_9_0 (mz_rb hR (Nat.le_of_ble_eq_true rfl) rfl mzcR_56_0) (g_iconst mzi_0 (g_aald4 (m := 58) (mz_at hS (Nat.le_of_ble_eq_true rfl) mzcS_57) (mz_ibd (by decide)) (mz_rb hR (Nat.le_of_ble_eq_true rfl) rfl mzcRr_57_0) (g_bipush mzb_10 (g_bipush mzb_20 (g_iconst mzi_5 (g_aload_n rfl ?_)))))))
    refine g_bipush mzb_13 (g_iald hS.1 (mz_at hS (Nat.le_of_ble_eq_true rfl) mzcS_53) (mz_ibd (by decide)) (g_imul (g_iadd (g_aload_n rfl (g_getI (mz_at hS (Nat.le_of_ble_eq_true rfl) mzcS_56) mzcf_9_13 ?_)))))
    refine g_ifle (tg := 132) rfl ms_220_132 hC (fun h6 hC => ?_) (fun h6 hC => ?_)
    · have hp := hp.1 h6
      refine g_bipush mzb_30 (g_goto (tg := 133) rfl ms_220_133 ?_)
      refine g_weak ?_ (g_cl (cg_220_133 hd hS hR 10 (20 + (5 * (mz_gI s.2 53 13))) 30 s.2 hr hp (hx1 _ hC)))
      exact ⟨rfl, trivial⟩
    · have hp := hp.2 h6
      refine g_iconst mzi_0 ?_
      refine g_weak ?_ (g_cl (cg_220_133 hd hS hR 10 (20 + (5 * (mz_gI s.2 53 13))) 0 s.2 hr hp (hx1 _ hC)))
      exact ⟨rfl, trivial⟩
theorem cg_220_22 (hd : 2 ≤ d) (hS : mz_extR S 232) (hR : mz_rok R 232)  (v3 : Int32) (v4 : Bool) (v5 : Int32) (N : mz_N) {C0 : (mz_N) → Prop} (hr : ∀ (N2 : mz_N), C0 N2 → Q (.inl none) (mz_k S R N2 b t)) (hp : cp_220_22 v3 v4 v5 N) (hC : C0 (cf_220_22 v3 v4 v5 N)) : mz_G (d, mz_X0 L xs, none, [], mk_220, 8, Q) 22 mt_220_22 [(0, .ref 56), (1, .ref 2), (2, .ref 53), (3, .int v3), (4, .int (mz_b01 v4)), (5, .int v5)] [] false (mz_k S R N b t) := by
  obtain ⟨n, hn⟩ := hp
  exact g_loop (G := fun s => mz_G (d, mz_X0 L xs, none, [], mk_220, 8, Q) 22 mt_220_22 [(0, .ref 56), (1, .ref 2), (2, .ref 53), (3, .int v3), (4, .int (mz_b01 v4)), (5, .int s.1)] [] false (mz_k S R s.2 b t)) (C := C0) (fun C2 hc hx s hP hC => cb_220_22 hd hS hR v3 v4 s hr hc hx hP hC) n (v5, N) hn hC
theorem cg_220_17 (hd : 2 ≤ d) (hS : mz_extR S 232) (hR : mz_rok R 232)  (s0 : Bool) (v3 : Int32) (N : mz_N) {C0 : (mz_N) → Prop} (hr : ∀ (N2 : mz_N), C0 N2 → Q (.inl none) (mz_k S R N2 b t)) (hp : cp_220_17 s0 v3 N) (hC : C0 (cf_220_17 s0 v3 N)) : mz_G (d, mz_X0 L xs, none, [], mk_220, 8, Q) 17 mt_220_17 [(0, .ref 56), (1, .ref 2), (2, .ref 53), (3, .int v3)] [.int (mz_b01 s0)] true (mz_k S R N b t) := by
  unfold cf_220_17 at hC
  unfold cp_220_17 at hp
  refine g_istore (Nat.le_of_ble_eq_true rfl) rfl (g_iconst mzi_0 (g_istore (Nat.le_of_ble_eq_true rfl) rfl ?_))
  refine g_weak ?_ (g_cl (cg_220_22 hd hS hR v3 s0 0 N hr hp hC))
  exact ⟨rfl, rfl, rfl, rfl, rfl, rfl, trivial⟩
theorem cg_220_12 (hd : 2 ≤ d) (hS : mz_extR S 232) (hR : mz_rok R 232)  (v3 : Int32) (N : mz_N) {C0 : (mz_N) → Prop} (hr : ∀ (N2 : mz_N), C0 N2 → Q (.inl none) (mz_k S R N2 b t)) (hp : cp_220_12 v3 N) (hC : C0 (cf_220_12 v3 N)) : mz_G (d, mz_X0 L xs, none, [], mk_220, 8, Q) 12 mt_220_12 [(0, .ref 56), (1, .ref 2), (2, .ref 53), (3, .int v3)] [] true (mz_k S R N b t) := by
  unfold cf_220_12 at hC
  unfold cp_220_12 at hp
  refine g_iconst mzi_1 (g_goto (tg := 17) rfl ms_220_17 ?_)
  refine g_weak ?_ (cg_220_17 hd hS hR true v3 N hr hp hC)
  exact ⟨rfl, rfl, rfl, rfl, trivial⟩
theorem cg_220_0 (hd : 2 ≤ d) (hS : mz_extR S 232) (hR : mz_rok R 232)  (v3 : Int32) (N : mz_N) {C0 : (mz_N) → Prop} (hr : ∀ (N2 : mz_N), C0 N2 → Q (.inl none) (mz_k S R N2 b t)) (hp : cp_220_0 v3 N) (hC : C0 (cf_220_0 v3 N)) : mz_G (d, mz_X0 L xs, none, [], mk_220, 8, Q) 0 mk_220 [(0, .ref 56), (1, .ref 2), (2, .ref 53), (3, .int v3)] [] true (mz_k S R N b t) := by
  unfold cf_220_0 at hC
  unfold cp_220_0 at hp
  refine g_iload_n rfl (g_bipush mzb_7 ?_)
  refine g_iclt (tg := 12) rfl ms_220_12 hC (fun h1 hC => ?_) (fun h1 hC => ?_)
  · have hp := hp.1 h1
    refine g_weak ?_ (cg_220_12 hd hS hR v3 N hr hp hC)
    exact ⟨rfl, rfl, rfl, rfl, trivial⟩
  · have hp := hp.2 h1
    refine g_iload_n rfl (g_bipush mzb_18 ?_)
    refine g_iclt (tg := 16) rfl ms_220_16 hC (fun h2 hC => ?_) (fun h2 hC => ?_)
    · have hp := hp.1 h2
      refine g_iconst mzi_0 ?_
      refine g_weak ?_ (cg_220_17 hd hS hR false v3 N hr hp hC)
      exact ⟨rfl, rfl, rfl, rfl, trivial⟩
    · have hp := hp.2 h2
      refine g_weak ?_ (cg_220_12 hd hS hR v3 N hr hp hC)
      exact ⟨rfl, rfl, rfl, rfl, trivial⟩
theorem cs_220 (hd : 3 ≤ d) (hS : mz_extR S 232) (hR : mz_rok R 232)  (v3 : Int32) (N : mz_N) (hp : cp_220_0 v3 N) (hq : Q (.inl none) (mz_k S R (cf_220_0 v3 N) b t)) : mz_Ed (mz_X0 L xs) d 220 [.ref 56, .ref 2, .ref 53, .int v3] (mz_k S R N b t) Q :=
  by
  refine g_in mzq_220 (Nat.le_of_ble_eq_true rfl) (Nat.le_of_ble_eq_true rfl) (Nat.le_trans (Nat.le_of_ble_eq_true rfl) hd) ?_
  refine g_weak ?_ (cg_220_0 (d := d - 1) (by omega) hS hR v3 N (C0 := fun z => Q (.inl none) (mz_k S R z b t)) (fun _ h => h) hp hq)
  exact ⟨rfl, rfl, rfl, rfl, trivial⟩
/-! 223 KeptHouse$Supply.chargeUp ()V -/
theorem ms_223_0 : mz_sf mk_223 0 = mk_223 := mz_sf_zero _
theorem ms_223_27 : mz_sf mk_223 27 = mt_223_27 := mz_sf_add ms_223_0 (t := 27) rfl rfl
set_option maxRecDepth 100000 in
theorem mzq_223 : mz_PG0 223 = some (9, ⟨"KeptHouse$Supply", "chargeUp", "()V"⟩, prog_11_method_6_code, 1, none, [], mk_223, []) := rfl
theorem cg_223_27 (hd : 0 ≤ d) (hS : mz_extR S 232) (hR : mz_rok R 232)  (N : mz_N) {C0 : (mz_N) → Prop} (hr : ∀ (N2 : mz_N), C0 N2 → Q (.inl none) (mz_k S R N2 b t)) (hp : cp_223_27 N) (hC : C0 (cf_223_27 N)) : mz_G (d, mz_X0 L xs, none, [], mk_223, 1, Q) 27 mt_223_27 [] [] false (mz_k S R N b t) := by
  unfold cf_223_27 at hC
  unfold cp_223_27 at hp
  exact g_vret rfl (hr _ hC)
theorem cg_223_0 (hd : 0 ≤ d) (hS : mz_extR S 232) (hR : mz_rok R 232)  (N : mz_N) {C0 : (mz_N) → Prop} (hr : ∀ (N2 : mz_N), C0 N2 → Q (.inl none) (mz_k S R N2 b t)) (hp : cp_223_0 N) (hC : C0 (cf_223_0 N)) : mz_G (d, mz_X0 L xs, none, [], mk_223, 1, Q) 0 mk_223 [(0, .ref 56)] [] true (mz_k S R N b t) := by
  unfold cf_223_0 at hC
  unfold cp_223_0 at hp
  refine g_aload_n rfl (g_iconst mzi_0 (g_putZ (z := false) (mz_at hS (Nat.le_of_ble_eq_true rfl) mzcS_56) mzcf_9_5 (g_aload_n rfl (g_sipush mzs_3000 (g_aload_n rfl (g_getI (mz_at hS (Nat.le_of_ble_eq_true rfl) mzcS_56) mzcf_9_1 (g_bipush mzb_30 ?_)))))))
  refine g_iadd (g_imin (Nat.le_of_ble_eq_true rfl) (g_putI (mz_at hS (Nat.le_of_ble_eq_true rfl) mzcS_56) mzcf_9_1 (g_aload_n rfl (g_iconst mzi_0 (g_putI (mz_at hS (Nat.le_of_ble_eq_true rfl) mzcS_56) mzcf_9_3 ?_)))))
  refine g_weak ?_ (g_cl (cg_223_27 hd hS hR (mz_pI (mz_pI (mz_pI N 56 5 (mz_b01 false)) 56 1 (mz_imin 3000 (((mz_pI N 56 5 (mz_b01 false)).1 56 1) + 30))) 56 3 0) hr hp hC))
  exact trivial
theorem cs_223 (hd : 1 ≤ d) (hS : mz_extR S 232) (hR : mz_rok R 232)  (N : mz_N) (hp : cp_223_0 N) (hq : Q (.inl none) (mz_k S R (cf_223_0 N) b t)) : mz_Ed (mz_X0 L xs) d 223 [.ref 56] (mz_k S R N b t) Q :=
  by
  refine g_in mzq_223 (Nat.le_of_ble_eq_true rfl) (Nat.le_of_ble_eq_true rfl) (Nat.le_trans (Nat.le_of_ble_eq_true rfl) hd) ?_
  refine g_weak ?_ (cg_223_0 (d := d - 1) (by omega) hS hR N (C0 := fun z => Q (.inl none) (mz_k S R z b t)) (fun _ h => h) hp hq)
  exact ⟨rfl, trivial⟩
/-! 224 KeptHouse$Care.isFit (I)Z -/
theorem ms_224_0 : mz_sf mk_224 0 = mk_224 := mz_sf_zero _
theorem ms_224_15 : mz_sf mk_224 15 = mt_224_15 := mz_sf_add ms_224_0 (t := 15) rfl rfl
theorem ms_224_16 : mz_sf mk_224 16 = mt_224_16 := mz_sf_add ms_224_15 (t := 1) rfl rfl
set_option maxRecDepth 100000 in
theorem mzq_224 : mz_PG0 224 = some (2, ⟨"KeptHouse$Care", "isFit", "(I)Z"⟩, prog_4_method_25_code, 2, some .boolean, [], mk_224, []) := rfl
theorem cg_224_0 (hd : 0 ≤ d) (hS : mz_extR S 232) (hR : mz_rok R 232)  (v1 : Int32) (N : mz_N) {C0 : (Bool) → Prop} (hr : ∀ (w : Bool), C0 w → Q (.inl (some (.int (mz_b01 w)))) (mz_k S R N b t)) (hp : cp_224_0 v1 N) (hC : C0 (cf_224_0 v1 N)) : mz_G (d, mz_X0 L xs, some .boolean, [], mk_224, 2, Q) 0 mk_224 [(0, .ref 115), (1, .int v1)] [] true (mz_k S R N b t) := by
  unfold cf_224_0 at hC
  unfold cp_224_0 at hp
  refine g_aload_n rfl (g_getR (mz_at hS (Nat.le_of_ble_eq_true rfl) mzcS_115) mzcf_2_3 (mz_rb hR (Nat.le_of_ble_eq_true rfl) rfl mzcR_115_3) (g_iconst mzi_3 (g_aald4 (m := 128) (mz_at hS (Nat.le_of_ble_eq_true rfl) mzcS_124) (mz_ibd (by decide)) (mz_rb hR (Nat.le_of_ble_eq_true rfl) rfl mzcRr_124_3) (g_iload_n rfl ?_))))
  have h1 := hp
  refine g_iald hS.1 (mz_at hS (Nat.le_of_ble_eq_true rfl) mzcS_128) h1 ?_
  refine g_ifne (tg := 15) rfl ms_224_15 hC (fun h2 hC => ?_) (fun h2 hC => ?_)
  · refine g_iconst mzi_1 (g_goto (tg := 16) rfl ms_224_16 ?_)
    exact g_zret (z := true) rfl (hr _ hC)
  · refine g_iconst mzi_0 ?_
    exact g_zret (z := false) rfl (hr _ hC)
theorem cs_224 (hd : 1 ≤ d) (hS : mz_extR S 232) (hR : mz_rok R 232)  (v1 : Int32) (N : mz_N) (hp : cp_224_0 v1 N) (hq : Q (.inl (some (.int (mz_b01 (cf_224_0 v1 N))))) (mz_k S R N b t)) : mz_Ed (mz_X0 L xs) d 224 [.ref 115, .int v1] (mz_k S R N b t) Q :=
  by
  refine g_in mzq_224 (Nat.le_of_ble_eq_true rfl) (Nat.le_of_ble_eq_true rfl) (Nat.le_trans (Nat.le_of_ble_eq_true rfl) hd) ?_
  refine g_weak ?_ (cg_224_0 (d := d - 1) (by omega) hS hR v1 N (C0 := fun z => Q (.inl (some (.int (mz_b01 z)))) (mz_k S R N b t)) (fun _ h => h) hp hq)
  exact ⟨rfl, rfl, trivial⟩
/-! 226 KeptHouse$Supply.shedOne ()V -/
theorem ms_226_0 : mz_sf mk_226 0 = mk_226 := mz_sf_zero _
theorem ms_226_4 : mz_sf mk_226 4 = mt_226_4 := mz_sf_add ms_226_0 (t := 4) rfl rfl
theorem ms_226_26 : mz_sf mk_226 26 = mt_226_26 := mz_sf_add ms_226_4 (t := 22) rfl rfl
theorem ms_226_45 : mz_sf mk_226 45 = mt_226_45 := mz_sf_add ms_226_26 (t := 19) rfl rfl
theorem ms_226_47 : mz_sf mk_226 47 = mt_226_47 := mz_sf_add ms_226_45 (t := 2) rfl rfl
theorem ms_226_53 : mz_sf mk_226 53 = mt_226_53 := mz_sf_add ms_226_47 (t := 6) rfl rfl
theorem ms_226_76 : mz_sf mk_226 76 = mt_226_76 := mz_sf_add ms_226_53 (t := 23) rfl rfl
set_option maxRecDepth 100000 in
theorem mzq_226 : mz_PG0 226 = some (9, ⟨"KeptHouse$Supply", "shedOne", "()V"⟩, prog_11_method_8_code, 3, none, [], mk_226, []) := rfl
theorem cg_226_47 (hd : 0 ≤ d) (hS : mz_extR S 232) (hR : mz_rok R 232)  (v1 : Int32) (v2 : Int32) (N : mz_N) {C0 : (mz_N) → Prop} (hr : ∀ (N2 : mz_N), C0 N2 → Q (.inl none) (mz_k S R N2 b t)) {C1 : ((Int32 × Int32) ⊕ (mz_N)) → Prop} (hc1 : ∀ s2, C1 (.inl s2) → mz_G (d, mz_X0 L xs, none, [], mk_226, 3, Q) 4 mt_226_4 [(0, .ref 56), (1, .int s2.1), (2, .int s2.2)] [] false (mz_k S R N b t)) (hx1 : ∀ z, C1 (.inr z) → C0 z) (hp : cp_226_47 v1 v2 N) (hC : C1 (cf_226_47 v1 v2 N)) : mz_G (d, mz_X0 L xs, none, [], mk_226, 3, Q) 47 mt_226_47 [(0, .ref 56), (1, .int v1), (2, .int v2)] [] false (mz_k S R N b t) := by
  unfold cf_226_47 at hC
  unfold cp_226_47 at hp
  refine g_iinc rfl mzi_1 (Nat.le_of_ble_eq_true rfl) rfl (g_goto (tg := 4) rfl ms_226_4 ?_)
  refine g_weak ?_ (g_cl (hc1 (v1, (v2 + 1)) hC))
  exact ⟨rfl, rfl, rfl, trivial⟩
theorem cg_226_45 (hd : 0 ≤ d) (hS : mz_extR S 232) (hR : mz_rok R 232)  (v2 : Int32) (N : mz_N) {C0 : (mz_N) → Prop} (hr : ∀ (N2 : mz_N), C0 N2 → Q (.inl none) (mz_k S R N2 b t)) {C1 : ((Int32 × Int32) ⊕ (mz_N)) → Prop} (hc1 : ∀ s2, C1 (.inl s2) → mz_G (d, mz_X0 L xs, none, [], mk_226, 3, Q) 4 mt_226_4 [(0, .ref 56), (1, .int s2.1), (2, .int s2.2)] [] false (mz_k S R N b t)) (hx1 : ∀ z, C1 (.inr z) → C0 z) (hp : cp_226_45 v2 N) (hC : C1 (cf_226_45 v2 N)) : mz_G (d, mz_X0 L xs, none, [], mk_226, 3, Q) 45 mt_226_45 [(0, .ref 56), (2, .int v2)] [] false (mz_k S R N b t) := by
  unfold cf_226_45 at hC
  unfold cp_226_45 at hp
  refine g_iload_n rfl (g_istore_n (Nat.le_of_ble_eq_true rfl) rfl ?_)
  refine g_weak ?_ (g_cl (cg_226_47 hd hS hR v2 v2 N hr hc1 hx1 hp hC))
  exact ⟨rfl, rfl, rfl, trivial⟩
theorem cb_226_4 (hd : 0 ≤ d) (hS : mz_extR S 232) (hR : mz_rok R 232)  (N : mz_N) (s : Int32 × Int32) {C0 : (mz_N) → Prop} (hr : ∀ (N2 : mz_N), C0 N2 → Q (.inl none) (mz_k S R N2 b t)) {C1 : ((Int32 × Int32) ⊕ (mz_N)) → Prop} (hc1 : ∀ s2, C1 (.inl s2) → mz_G (d, mz_X0 L xs, none, [], mk_226, 3, Q) 4 mt_226_4 [(0, .ref 56), (1, .int s2.1), (2, .int s2.2)] [] false (mz_k S R N b t)) (hx1 : ∀ z, C1 (.inr z) → C0 z) (hp : cd_226_4 N s) (hC : C1 (cq_226_4 N s)) : mz_G (d, mz_X0 L xs, none, [], mk_226, 3, Q) 4 mt_226_4 [(0, .ref 56), (1, .int s.1), (2, .int s.2)] [] false (mz_k S R N b t) := by
  unfold cq_226_4 at hC
  unfold cd_226_4 at hp
  refine g_iload_n rfl (g_bipush mzb_11 ?_)
  refine g_icge (tg := 53) rfl ms_226_53 hC (fun h1 hC => ?_) (fun h1 hC => ?_)
  · have hp := hp.1 h1
    refine g_aload_n rfl (g_getR (mz_at hS (Nat.le_of_ble_eq_true rfl) mzcS_56) mzcf_9_0 (mz_rb hR (Nat.le_of_ble_eq_true rfl) rfl mzcR_56_0) (g_iconst mzi_0 (g_aald4 (m := 58) (mz_at hS (Nat.le_of_ble_eq_true rfl) mzcS_57) (mz_ibd (by decide)) (mz_rb hR (Nat.le_of_ble_eq_true rfl) rfl mzcRr_57_0) (g_iload_n rfl ?_))))
    obtain ⟨h2, hp⟩ := hp
    refine g_iald hS.1 (mz_at hS (Nat.le_of_ble_eq_true rfl) mzcS_58) h2 ?_
    refine g_ifle (tg := 47) rfl ms_226_47 hC (fun h3 hC => ?_) (fun h3 hC => ?_)
    · have hp := hp.1 h3
      refine g_iload_n rfl (g_iconst mzi_m1 ?_)
      refine g_iceq (tg := 45) rfl ms_226_45 hC (fun h4 hC => ?_) (fun h4 hC => ?_)
      · have hp := hp.1 h4
        refine g_weak ?_ (g_cl (cg_226_45 hd hS hR s.2 N hr hc1 hx1 hp hC))
        exact ⟨rfl, rfl, trivial⟩
      · have hp := hp.2 h4
        refine g_aload_n rfl (g_getR (mz_at hS (Nat.le_of_ble_eq_true rfl) mzcS_56) mzcf_9_0 (mz_rb hR (Nat.le_of_ble_eq_true rfl) rfl mzcR_56_0) (g_iconst mzi_5 (g_aald4 (m := 63) (mz_at hS (Nat.le_of_ble_eq_true rfl) mzcS_57) (mz_ibd (by decide)) (mz_rb hR (Nat.le_of_ble_eq_true rfl) rfl mzcRr_57_5) (g_iload_n rfl ?_))))
        obtain ⟨h5, hp⟩ := hp
        refine g_iald hS.1 (mz_at hS (Nat.le_of_ble_eq_true rfl) mzcS_63) h5 (g_aload_n rfl (g_getR (mz_at hS (Nat.le_of_ble_eq_true rfl) mzcS_56) mzcf_9_0 (mz_rb hR (Nat.le_of_ble_eq_true rfl) rfl mzcR_56_0) (g_iconst mzi_5 (g_aald4 (m := 63) (mz_at hS (Nat.le_of_ble_eq_true rfl) mzcS_57) (mz_ibd (by decide)) (mz_rb hR (Nat.le_of_ble_eq_true rfl) rfl mzcRr_57_5) (g_iload_n rfl ?_)))))
        obtain ⟨h6, hp⟩ := hp
        refine g_iald hS.1 (mz_at hS (Nat.le_of_ble_eq_true rfl) mzcS_63) h6 ?_
        refine g_iclt (tg := 47) rfl ms_226_47 hC (fun h7 hC => ?_) (fun h7 hC => ?_)
        · have hp := hp.1 h7
          refine g_weak ?_ (g_cl (cg_226_47 hd hS hR s.1 s.2 N hr hc1 hx1 hp hC))
          exact ⟨rfl, rfl, rfl, trivial⟩
        · have hp := hp.2 h7
          refine g_weak ?_ (g_cl (cg_226_45 hd hS hR s.2 N hr hc1 hx1 hp hC))
          exact ⟨rfl, rfl, trivial⟩
    · have hp := hp.2 h3
      refine g_weak ?_ (g_cl (cg_226_47 hd hS hR s.1 s.2 N hr hc1 hx1 hp hC))
      exact ⟨rfl, rfl, rfl, trivial⟩
  · have hp := hp.2 h1
    refine g_iload_n rfl (g_iconst mzi_m1 ?_)
    refine g_iceq (tg := 76) rfl ms_226_76 hC (fun h8 hC => ?_) (fun h8 hC => ?_)
    · have hp := hp.1 h8
      exact g_vret rfl (hr _ (hx1 _ hC))
    · have hp := hp.2 h8
      refine g_aload_n rfl (g_getR (mz_at hS (Nat.le_of_ble_eq_true rfl) mzcS_56) mzcf_9_0 (mz_rb hR (Nat.le_of_ble_eq_true rfl) rfl mzcR_56_0) (g_iconst mzi_0 (g_aald4 (m := 58) (mz_at hS (Nat.le_of_ble_eq_true rfl) mzcS_57) (mz_ibd (by decide)) (mz_rb hR (Nat.le_of_ble_eq_true rfl) rfl mzcRr_57_0) (g_iload_n rfl (g_iconst mzi_0 ?_)))))
      obtain ⟨h9, hp⟩ := hp
      refine g_iast (mz_at hS (Nat.le_of_ble_eq_true rfl) mzcS_58) h9 (g_aload_n rfl (g_getR (mz_at hS (Nat.le_of_ble_eq_true rfl) mzcS_56) mzcf_9_0 (mz_rb hR (Nat.le_of_ble_eq_true rfl) rfl mzcR_56_0) (g_iconst mzi_3 (g_aald4 (m := 61) (mz_at hS (Nat.le_of_ble_eq_true rfl) mzcS_57) (mz_ibd (by decide)) (mz_rb hR (Nat.le_of_ble_eq_true rfl) rfl mzcRr_57_3) (g_iload_n rfl (g_iconst mzi_1 ?_))))))
      have h10 := hp
      refine g_iast (mz_at hS (Nat.le_of_ble_eq_true rfl) mzcS_61) h10 ?_
      exact g_vret rfl (hr _ (hx1 _ hC))
theorem cg_226_4 (hd : 0 ≤ d) (hS : mz_extR S 232) (hR : mz_rok R 232)  (v1 : Int32) (v2 : Int32) (N : mz_N) {C0 : (mz_N) → Prop} (hr : ∀ (N2 : mz_N), C0 N2 → Q (.inl none) (mz_k S R N2 b t)) (hp : cp_226_4 v1 v2 N) (hC : C0 (cf_226_4 v1 v2 N)) : mz_G (d, mz_X0 L xs, none, [], mk_226, 3, Q) 4 mt_226_4 [(0, .ref 56), (1, .int v1), (2, .int v2)] [] false (mz_k S R N b t) := by
  obtain ⟨n, hn⟩ := hp
  exact g_loop (G := fun s => mz_G (d, mz_X0 L xs, none, [], mk_226, 3, Q) 4 mt_226_4 [(0, .ref 56), (1, .int s.1), (2, .int s.2)] [] false (mz_k S R N b t)) (C := C0) (fun C2 hc hx s hP hC => cb_226_4 hd hS hR N s hr hc hx hP hC) n (v1, v2) hn hC
theorem cg_226_0 (hd : 0 ≤ d) (hS : mz_extR S 232) (hR : mz_rok R 232)  (N : mz_N) {C0 : (mz_N) → Prop} (hr : ∀ (N2 : mz_N), C0 N2 → Q (.inl none) (mz_k S R N2 b t)) (hp : cp_226_0 N) (hC : C0 (cf_226_0 N)) : mz_G (d, mz_X0 L xs, none, [], mk_226, 3, Q) 0 mk_226 [(0, .ref 56)] [] true (mz_k S R N b t) := by
  unfold cf_226_0 at hC
  unfold cp_226_0 at hp
  refine g_iconst mzi_m1 (g_istore_n (Nat.le_of_ble_eq_true rfl) rfl (g_iconst mzi_0 (g_istore_n (Nat.le_of_ble_eq_true rfl) rfl ?_)))
  refine g_weak ?_ (g_cl (cg_226_4 hd hS hR (-1) 0 N hr hp hC))
  exact ⟨rfl, rfl, rfl, trivial⟩
theorem cs_226 (hd : 1 ≤ d) (hS : mz_extR S 232) (hR : mz_rok R 232)  (N : mz_N) (hp : cp_226_0 N) (hq : Q (.inl none) (mz_k S R (cf_226_0 N) b t)) : mz_Ed (mz_X0 L xs) d 226 [.ref 56] (mz_k S R N b t) Q :=
  by
  refine g_in mzq_226 (Nat.le_of_ble_eq_true rfl) (Nat.le_of_ble_eq_true rfl) (Nat.le_trans (Nat.le_of_ble_eq_true rfl) hd) ?_
  refine g_weak ?_ (cg_226_0 (d := d - 1) (by omega) hS hR N (C0 := fun z => Q (.inl none) (mz_k S R z b t)) (fun _ h => h) hp hq)
  exact ⟨rfl, trivial⟩
/-! 225 KeptHouse$Supply.liveOnCharge (Z)V -/
theorem ms_225_0 : mz_sf mk_225 0 = mk_225 := mz_sf_zero _
theorem ms_225_24 : mz_sf mk_225 24 = mt_225_24 := mz_sf_add ms_225_0 (t := 24) rfl rfl
theorem ms_225_25 : mz_sf mk_225 25 = mt_225_25 := mz_sf_add ms_225_24 (t := 1) rfl rfl
theorem ms_225_41 : mz_sf mk_225 41 = mt_225_41 := mz_sf_add ms_225_25 (t := 16) rfl rfl
theorem ms_225_42 : mz_sf mk_225 42 = mt_225_42 := mz_sf_add ms_225_41 (t := 1) rfl rfl
theorem ms_225_60 : mz_sf mk_225 60 = mt_225_60 := mz_sf_add ms_225_42 (t := 18) rfl rfl
theorem ms_225_72 : mz_sf mk_225 72 = mt_225_72 := mz_sf_add ms_225_60 (t := 12) rfl rfl
theorem ms_225_95 : mz_sf mk_225 95 = mt_225_95 := mz_sf_add ms_225_72 (t := 23) rfl rfl
theorem ms_225_101 : mz_sf mk_225 101 = mt_225_101 := mz_sf_add ms_225_95 (t := 6) rfl rfl
set_option maxRecDepth 100000 in
theorem mzq_225 : mz_PG0 225 = some (9, ⟨"KeptHouse$Supply", "liveOnCharge", "(Z)V"⟩, prog_11_method_7_code, 4, none, [], mk_225, []) := rfl
theorem cg_225_101 (hd : 1 ≤ d) (hS : mz_extR S 232) (hR : mz_rok R 232)  (v2 : Int32) (N : mz_N) {C0 : (mz_N) → Prop} (hr : ∀ (N2 : mz_N), C0 N2 → Q (.inl none) (mz_k S R N2 b t)) (hp : cp_225_101 v2 N) (hC : C0 (cf_225_101 v2 N)) : mz_G (d, mz_X0 L xs, none, [], mk_225, 4, Q) 101 mt_225_101 [(0, .ref 56), (2, .int v2)] [] false (mz_k S R N b t) := by
  unfold cf_225_101 at hC
  unfold cp_225_101 at hp
  refine g_aload_n rfl (g_dup rfl (g_getI (mz_at hS (Nat.le_of_ble_eq_true rfl) mzcS_56) mzcf_9_1 (g_iconst mzi_0 (g_aload_n rfl ?_))))
  have h1 := hp
  refine g_v1v (Nat.le_of_ble_eq_true rfl) (mz_at hS (Nat.le_of_ble_eq_true rfl) mzcS_56) (fun _ hq => cs_212 (Nat.le_trans (Nat.le_of_ble_eq_true rfl) hd) (hS.le (Nat.le_of_ble_eq_true rfl)) (hR.le (Nat.le_of_ble_eq_true rfl))  N h1 hq) (g_iload_n rfl (g_isub (g_imax (Nat.le_of_ble_eq_true rfl) (g_isub (g_putI (mz_at hS (Nat.le_of_ble_eq_true rfl) mzcS_56) mzcf_9_1 ?_)))))
  exact g_vret rfl (hr _ hC)
theorem cb_225_72 (hd : 1 ≤ d) (hS : mz_extR S 232) (hR : mz_rok R 232)  (v2 : Int32) (s : Int32 × mz_N) {C0 : (mz_N) → Prop} (hr : ∀ (N2 : mz_N), C0 N2 → Q (.inl none) (mz_k S R N2 b t)) {C1 : ((Int32 × mz_N) ⊕ (mz_N)) → Prop} (hc1 : ∀ s2, C1 (.inl s2) → mz_G (d, mz_X0 L xs, none, [], mk_225, 4, Q) 72 mt_225_72 [(0, .ref 56), (2, .int v2), (3, .int s2.1)] [] false (mz_k S R s2.2 b t)) (hx1 : ∀ z, C1 (.inr z) → C0 z) (hp : cd_225_72 v2 s) (hC : C1 (cq_225_72 v2 s)) : mz_G (d, mz_X0 L xs, none, [], mk_225, 4, Q) 72 mt_225_72 [(0, .ref 56), (2, .int v2), (3, .int s.1)] [] false (mz_k S R s.2 b t) := by
  unfold cq_225_72 at hC
  unfold cd_225_72 at hp
  refine g_iload_n rfl (g_bipush mzb_11 ?_)
  refine g_icge (tg := 101) rfl ms_225_101 hC (fun h1 hC => ?_) (fun h1 hC => ?_)
  · have hp := hp.1 h1
    refine g_aload_n rfl ?_
    obtain ⟨h2, hp⟩ := hp
    refine g_v1v (Nat.le_of_ble_eq_true rfl) (mz_at hS (Nat.le_of_ble_eq_true rfl) mzcS_56) (fun _ hq => cs_212 (Nat.le_trans (Nat.le_of_ble_eq_true rfl) hd) (hS.le (Nat.le_of_ble_eq_true rfl)) (hR.le (Nat.le_of_ble_eq_true rfl))  s.2 h2 hq) (g_iload_n rfl (g_aload_n rfl (g_getI (mz_at hS (Nat.le_of_ble_eq_true rfl) mzcS_56) mzcf_9_1 (g_iadd ?_))))
    refine g_icle (tg := 101) rfl ms_225_101 hC (fun h3 hC => ?_) (fun h3 hC => ?_)
    · have hp := hp.1 h3
      refine g_aload_n rfl ?_
      have h4 := hp
      refine g_v1n (Nat.le_of_ble_eq_true rfl) (mz_at hS (Nat.le_of_ble_eq_true rfl) mzcS_56) (fun _ hq => cs_226 (Nat.le_trans (Nat.le_of_ble_eq_true rfl) hd) (hS.le (Nat.le_of_ble_eq_true rfl)) (hR.le (Nat.le_of_ble_eq_true rfl))  s.2 h4 hq) (g_iinc rfl mzi_1 (Nat.le_of_ble_eq_true rfl) rfl (g_goto (tg := 72) rfl ms_225_72 ?_))
      refine g_weak ?_ (g_cl (hc1 ((s.1 + 1), (cf_226_0 s.2)) hC))
      exact ⟨rfl, rfl, rfl, trivial⟩
    · have hp := hp.2 h3
      refine g_weak ?_ (g_cl (cg_225_101 hd hS hR v2 s.2 hr hp (hx1 _ hC)))
      exact ⟨rfl, rfl, trivial⟩
  · have hp := hp.2 h1
    refine g_weak ?_ (g_cl (cg_225_101 hd hS hR v2 s.2 hr hp (hx1 _ hC)))
    exact ⟨rfl, rfl, trivial⟩
theorem cg_225_72 (hd : 1 ≤ d) (hS : mz_extR S 232) (hR : mz_rok R 232)  (v2 : Int32) (v3 : Int32) (N : mz_N) {C0 : (mz_N) → Prop} (hr : ∀ (N2 : mz_N), C0 N2 → Q (.inl none) (mz_k S R N2 b t)) (hp : cp_225_72 v2 v3 N) (hC : C0 (cf_225_72 v2 v3 N)) : mz_G (d, mz_X0 L xs, none, [], mk_225, 4, Q) 72 mt_225_72 [(0, .ref 56), (2, .int v2), (3, .int v3)] [] false (mz_k S R N b t) := by
  obtain ⟨n, hn⟩ := hp
  exact g_loop (G := fun s => mz_G (d, mz_X0 L xs, none, [], mk_225, 4, Q) 72 mt_225_72 [(0, .ref 56), (2, .int v2), (3, .int s.1)] [] false (mz_k S R s.2 b t)) (C := C0) (fun C2 hc hx s hP hC => cb_225_72 hd hS hR v2 s hr hc hx hP hC) n (v3, N) hn hC
theorem cg_225_60 (hd : 1 ≤ d) (hS : mz_extR S 232) (hR : mz_rok R 232)  (v2 : Int32) (N : mz_N) {C0 : (mz_N) → Prop} (hr : ∀ (N2 : mz_N), C0 N2 → Q (.inl none) (mz_k S R N2 b t)) (hp : cp_225_60 v2 N) (hC : C0 (cf_225_60 v2 N)) : mz_G (d, mz_X0 L xs, none, [], mk_225, 4, Q) 60 mt_225_60 [(0, .ref 56), (2, .int v2)] [] false (mz_k S R N b t) := by
  unfold cf_225_60 at hC
  unfold cp_225_60 at hp
  refine g_aload_n rfl (g_dup rfl (g_getI (mz_at hS (Nat.le_of_ble_eq_true rfl) mzcS_56) mzcf_9_3 (g_iconst mzi_1 (g_iadd (g_putI (mz_at hS (Nat.le_of_ble_eq_true rfl) mzcS_56) mzcf_9_3 (g_iconst mzi_0 (g_istore_n (Nat.le_of_ble_eq_true rfl) rfl ?_)))))))
  refine g_weak ?_ (g_cl (cg_225_72 hd hS hR v2 0 (mz_pI N 56 3 ((N.1 56 3) + 1)) hr hp hC))
  exact ⟨rfl, rfl, rfl, trivial⟩
theorem cg_225_42 (hd : 1 ≤ d) (hS : mz_extR S 232) (hR : mz_rok R 232)  (s0 : Int32) (N : mz_N) {C0 : (mz_N) → Prop} (hr : ∀ (N2 : mz_N), C0 N2 → Q (.inl none) (mz_k S R N2 b t)) (hp : cp_225_42 s0 N) (hC : C0 (cf_225_42 s0 N)) : mz_G (d, mz_X0 L xs, none, [], mk_225, 4, Q) 42 mt_225_42 [(0, .ref 56)] [.int s0] false (mz_k S R N b t) := by
  unfold cf_225_42 at hC
  unfold cp_225_42 at hp
  refine g_istore_n (Nat.le_of_ble_eq_true rfl) rfl (g_aload_n rfl ?_)
  obtain ⟨h1, hp⟩ := hp
  refine g_getZ (mz_at hS (Nat.le_of_ble_eq_true rfl) mzcS_56) mzcf_9_5 h1 ?_
  refine g_zeq (tg := 60) rfl ms_225_60 hC (fun h2 hC => ?_) (fun h2 hC => ?_)
  · have hp := hp.1 h2
    refine g_aload_n rfl (g_dup rfl (g_getI (mz_at hS (Nat.le_of_ble_eq_true rfl) mzcS_56) mzcf_9_2 (g_iconst mzi_1 (g_isub (g_putI (mz_at hS (Nat.le_of_ble_eq_true rfl) mzcS_56) mzcf_9_2 ?_)))))
    refine g_weak ?_ (g_cl (cg_225_60 hd hS hR s0 (mz_pI N 56 2 ((N.1 56 2) - 1)) hr hp hC))
    exact ⟨rfl, rfl, trivial⟩
  · have hp := hp.2 h2
    refine g_weak ?_ (g_cl (cg_225_60 hd hS hR s0 N hr hp hC))
    exact ⟨rfl, rfl, trivial⟩
theorem cg_225_25 (hd : 1 ≤ d) (hS : mz_extR S 232) (hR : mz_rok R 232)  (s1 : Bool) (N : mz_N) {C0 : (mz_N) → Prop} (hr : ∀ (N2 : mz_N), C0 N2 → Q (.inl none) (mz_k S R N2 b t)) (hp : cp_225_25 s1 N) (hC : C0 (cf_225_25 s1 N)) : mz_G (d, mz_X0 L xs, none, [], mk_225, 4, Q) 25 mt_225_25 [(0, .ref 56)] [.int (mz_b01 s1), .ref 56] true (mz_k S R N b t) := by
  unfold cf_225_25 at hC
  unfold cp_225_25 at hp
  refine g_putZ (z := s1) (mz_at hS (Nat.le_of_ble_eq_true rfl) mzcS_56) mzcf_9_5 (g_aload_n rfl ?_)
  obtain ⟨h1, hp⟩ := hp
  refine g_getZ (mz_at hS (Nat.le_of_ble_eq_true rfl) mzcS_56) mzcf_9_5 h1 ?_
  refine g_zeq (tg := 41) rfl ms_225_41 hC (fun h2 hC => ?_) (fun h2 hC => ?_)
  · have hp := hp.1 h2
    refine g_sipush mzs_150 (g_goto (tg := 42) rfl ms_225_42 ?_)
    refine g_weak ?_ (g_cl (cg_225_42 hd hS hR 150 (mz_pI N 56 5 (mz_b01 s1)) hr hp hC))
    exact ⟨rfl, trivial⟩
  · have hp := hp.2 h2
    refine g_iconst mzi_0 ?_
    refine g_weak ?_ (g_cl (cg_225_42 hd hS hR 0 (mz_pI N 56 5 (mz_b01 s1)) hr hp hC))
    exact ⟨rfl, trivial⟩
theorem cg_225_24 (hd : 1 ≤ d) (hS : mz_extR S 232) (hR : mz_rok R 232)  (N : mz_N) {C0 : (mz_N) → Prop} (hr : ∀ (N2 : mz_N), C0 N2 → Q (.inl none) (mz_k S R N2 b t)) (hp : cp_225_24 N) (hC : C0 (cf_225_24 N)) : mz_G (d, mz_X0 L xs, none, [], mk_225, 4, Q) 24 mt_225_24 [(0, .ref 56)] [.ref 56] true (mz_k S R N b t) := by
  unfold cf_225_24 at hC
  unfold cp_225_24 at hp
  refine g_iconst mzi_0 ?_
  refine g_weak ?_ (cg_225_25 hd hS hR false N hr hp hC)
  exact ⟨rfl, trivial⟩
theorem cg_225_0 (hd : 1 ≤ d) (hS : mz_extR S 232) (hR : mz_rok R 232)  (v1 : Bool) (N : mz_N) {C0 : (mz_N) → Prop} (hr : ∀ (N2 : mz_N), C0 N2 → Q (.inl none) (mz_k S R N2 b t)) (hp : cp_225_0 v1 N) (hC : C0 (cf_225_0 v1 N)) : mz_G (d, mz_X0 L xs, none, [], mk_225, 4, Q) 0 mk_225 [(0, .ref 56), (1, .int (mz_b01 v1))] [] true (mz_k S R N b t) := by
  unfold cf_225_0 at hC
  unfold cp_225_0 at hp
  refine g_aload_n rfl (g_aload_n rfl (g_getI (mz_at hS (Nat.le_of_ble_eq_true rfl) mzcS_56) mzcf_9_3 (g_iconst mzi_2 ?_)))
  refine g_iclt (tg := 24) rfl ms_225_24 hC (fun h1 hC => ?_) (fun h1 hC => ?_)
  · have hp := hp.1 h1
    refine g_weak ?_ (cg_225_24 hd hS hR N hr hp hC)
    exact ⟨rfl, trivial⟩
  · have hp := hp.2 h1
    refine g_aload_n rfl (g_getI (mz_at hS (Nat.le_of_ble_eq_true rfl) mzcS_56) mzcf_9_2 ?_)
    refine g_ifle (tg := 24) rfl ms_225_24 hC (fun h2 hC => ?_) (fun h2 hC => ?_)
    · have hp := hp.1 h2
      refine g_iload_n rfl ?_
      refine g_zeq (tg := 24) rfl ms_225_24 hC (fun h3 hC => ?_) (fun h3 hC => ?_)
      · have hp := hp.1 h3
        refine g_iconst mzi_1 (g_goto (tg := 25) rfl ms_225_25 ?_)
        refine g_weak ?_ (cg_225_25 hd hS hR true N hr hp hC)
        exact ⟨rfl, trivial⟩
      · have hp := hp.2 h3
        refine g_weak ?_ (cg_225_24 hd hS hR N hr hp hC)
        exact ⟨rfl, trivial⟩
    · have hp := hp.2 h2
      refine g_weak ?_ (cg_225_24 hd hS hR N hr hp hC)
      exact ⟨rfl, trivial⟩
theorem cs_225 (hd : 2 ≤ d) (hS : mz_extR S 232) (hR : mz_rok R 232)  (v1 : Bool) (N : mz_N) (hp : cp_225_0 v1 N) (hq : Q (.inl none) (mz_k S R (cf_225_0 v1 N) b t)) : mz_Ed (mz_X0 L xs) d 225 [.ref 56, .int (mz_b01 v1)] (mz_k S R N b t) Q :=
  by
  refine g_in mzq_225 (Nat.le_of_ble_eq_true rfl) (Nat.le_of_ble_eq_true rfl) (Nat.le_trans (Nat.le_of_ble_eq_true rfl) hd) ?_
  refine g_weak ?_ (cg_225_0 (d := d - 1) (by omega) hS hR v1 N (C0 := fun z => Q (.inl none) (mz_k S R z b t)) (fun _ h => h) hp hq)
  exact ⟨rfl, rfl, trivial⟩
/-! 227 KeptHouse$Supply.isLive (I)Z -/
theorem ms_227_0 : mz_sf mk_227 0 = mk_227 := mz_sf_zero _
theorem ms_227_22 : mz_sf mk_227 22 = mt_227_22 := mz_sf_add ms_227_0 (t := 22) rfl rfl
theorem ms_227_26 : mz_sf mk_227 26 = mt_227_26 := mz_sf_add ms_227_22 (t := 4) rfl rfl
theorem ms_227_27 : mz_sf mk_227 27 = mt_227_27 := mz_sf_add ms_227_26 (t := 1) rfl rfl
set_option maxRecDepth 100000 in
theorem mzq_227 : mz_PG0 227 = some (9, ⟨"KeptHouse$Supply", "isLive", "(I)Z"⟩, prog_11_method_9_code, 2, some .boolean, [], mk_227, []) := rfl
theorem cg_227_0 (hd : 0 ≤ d) (hS : mz_extR S 232) (hR : mz_rok R 232)  (v1 : Int32) (N : mz_N) {C0 : (Bool) → Prop} (hr : ∀ (w : Bool), C0 w → Q (.inl (some (.int (mz_b01 w)))) (mz_k S R N b t)) (hp : cp_227_0 v1 N) (hC : C0 (cf_227_0 v1 N)) : mz_G (d, mz_X0 L xs, some .boolean, [], mk_227, 2, Q) 0 mk_227 [(0, .ref 56), (1, .int v1)] [] true (mz_k S R N b t) := by
  unfold cf_227_0 at hC
  unfold cp_227_0 at hp
  refine g_aload_n rfl (g_getR (mz_at hS (Nat.le_of_ble_eq_true rfl) mzcS_56) mzcf_9_0 (mz_rb hR (Nat.le_of_ble_eq_true rfl) rfl mzcR_56_0) (g_iconst mzi_2 (g_aald4 (m := 60) (mz_at hS (Nat.le_of_ble_eq_true rfl) mzcS_57) (mz_ibd (by decide)) (mz_rb hR (Nat.le_of_ble_eq_true rfl) rfl mzcRr_57_2) (g_iload_n rfl ?_))))
  obtain ⟨h1, hp⟩ := hp
  refine g_iald hS.1 (mz_at hS (Nat.le_of_ble_eq_true rfl) mzcS_60) h1 ?_
  refine g_ifne (tg := 26) rfl ms_227_26 hC (fun h2 hC => ?_) (fun h2 hC => ?_)
  · have hp := hp.1 h2
    refine g_aload_n rfl (g_getR (mz_at hS (Nat.le_of_ble_eq_true rfl) mzcS_56) mzcf_9_0 (mz_rb hR (Nat.le_of_ble_eq_true rfl) rfl mzcR_56_0) (g_iconst mzi_3 (g_aald4 (m := 61) (mz_at hS (Nat.le_of_ble_eq_true rfl) mzcS_57) (mz_ibd (by decide)) (mz_rb hR (Nat.le_of_ble_eq_true rfl) rfl mzcRr_57_3) (g_iload_n rfl ?_))))
    have h3 := hp
    refine g_iald hS.1 (mz_at hS (Nat.le_of_ble_eq_true rfl) mzcS_61) h3 ?_
    refine g_ifne (tg := 26) rfl ms_227_26 hC (fun h4 hC => ?_) (fun h4 hC => ?_)
    · refine g_iconst mzi_1 (g_goto (tg := 27) rfl ms_227_27 ?_)
      exact g_zret (z := true) rfl (hr _ hC)
    · refine g_iconst mzi_0 ?_
      exact g_zret (z := false) rfl (hr _ hC)
  · have hp := hp.2 h2
    refine g_iconst mzi_0 ?_
    exact g_zret (z := false) rfl (hr _ hC)
theorem cs_227 (hd : 1 ≤ d) (hS : mz_extR S 232) (hR : mz_rok R 232)  (v1 : Int32) (N : mz_N) (hp : cp_227_0 v1 N) (hq : Q (.inl (some (.int (mz_b01 (cf_227_0 v1 N))))) (mz_k S R N b t)) : mz_Ed (mz_X0 L xs) d 227 [.ref 56, .int v1] (mz_k S R N b t) Q :=
  by
  refine g_in mzq_227 (Nat.le_of_ble_eq_true rfl) (Nat.le_of_ble_eq_true rfl) (Nat.le_trans (Nat.le_of_ble_eq_true rfl) hd) ?_
  refine g_weak ?_ (cg_227_0 (d := d - 1) (by omega) hS hR v1 N (C0 := fun z => Q (.inl (some (.int (mz_b01 z)))) (mz_k S R N b t)) (fun _ h => h) hp hq)
  exact ⟨rfl, rfl, trivial⟩
/-! 228 KeptHouse$Supply.heatCircuit (I)V -/
theorem ms_228_0 : mz_sf mk_228 0 = mk_228 := mz_sf_zero _
theorem ms_228_18 : mz_sf mk_228 18 = mt_228_18 := mz_sf_add ms_228_0 (t := 18) rfl rfl
theorem ms_228_59 : mz_sf mk_228 59 = mt_228_59 := mz_sf_add ms_228_18 (t := 41) rfl rfl
theorem ms_228_62 : mz_sf mk_228 62 = mt_228_62 := mz_sf_add ms_228_59 (t := 3) rfl rfl
theorem ms_228_84 : mz_sf mk_228 84 = mt_228_84 := mz_sf_add ms_228_62 (t := 22) rfl rfl
theorem ms_228_106 : mz_sf mk_228 106 = mt_228_106 := mz_sf_add ms_228_84 (t := 22) rfl rfl
set_option maxRecDepth 100000 in
theorem mzq_228 : mz_PG0 228 = some (9, ⟨"KeptHouse$Supply", "heatCircuit", "(I)V"⟩, prog_11_method_10_code, 3, none, [], mk_228, []) := rfl
theorem cg_228_84 (hd : 0 ≤ d) (hS : mz_extR S 232) (hR : mz_rok R 232)  (v1 : Int32) (N : mz_N) {C0 : (mz_N) → Prop} (hr : ∀ (N2 : mz_N), C0 N2 → Q (.inl none) (mz_k S R N2 b t)) (hp : cp_228_84 v1 N) (hC : C0 (cf_228_84 v1 N)) : mz_G (d, mz_X0 L xs, none, [], mk_228, 3, Q) 84 mt_228_84 [(0, .ref 56), (1, .int v1)] [] false (mz_k S R N b t) := by
  unfold cf_228_84 at hC
  unfold cp_228_84 at hp
  refine g_aload_n rfl (g_getR (mz_at hS (Nat.le_of_ble_eq_true rfl) mzcS_56) mzcf_9_0 (mz_rb hR (Nat.le_of_ble_eq_true rfl) rfl mzcR_56_0) (g_iconst mzi_1 (g_aald4 (m := 59) (mz_at hS (Nat.le_of_ble_eq_true rfl) mzcS_57) (mz_ibd (by decide)) (mz_rb hR (Nat.le_of_ble_eq_true rfl) rfl mzcRr_57_1) (g_iload_n rfl ?_))))
  obtain ⟨h1, hp⟩ := hp
  refine g_iald hS.1 (mz_at hS (Nat.le_of_ble_eq_true rfl) mzcS_59) h1 (g_bipush mzb_50 ?_)
  refine g_iclt (tg := 106) rfl ms_228_106 hC (fun h2 hC => ?_) (fun h2 hC => ?_)
  · have hp := hp.1 h2
    exact g_vret rfl (hr _ hC)
  · have hp := hp.2 h2
    refine g_aload_n rfl (g_getR (mz_at hS (Nat.le_of_ble_eq_true rfl) mzcS_56) mzcf_9_0 (mz_rb hR (Nat.le_of_ble_eq_true rfl) rfl mzcR_56_0) (g_iconst mzi_2 (g_aald4 (m := 60) (mz_at hS (Nat.le_of_ble_eq_true rfl) mzcS_57) (mz_ibd (by decide)) (mz_rb hR (Nat.le_of_ble_eq_true rfl) rfl mzcRr_57_2) (g_iload_n rfl (g_iconst mzi_1 ?_)))))
    have h3 := hp
    refine g_iast (mz_at hS (Nat.le_of_ble_eq_true rfl) mzcS_60) h3 ?_
    exact g_vret rfl (hr _ hC)
theorem cg_228_59 (hd : 0 ≤ d) (hS : mz_extR S 232) (hR : mz_rok R 232)  (v1 : Int32) (N : mz_N) {C0 : (mz_N) → Prop} (hr : ∀ (N2 : mz_N), C0 N2 → Q (.inl none) (mz_k S R N2 b t)) (hp : cp_228_59 v1 N) (hC : C0 (cf_228_59 v1 N)) : mz_G (d, mz_X0 L xs, none, [], mk_228, 3, Q) 59 mt_228_59 [(0, .ref 56), (1, .int v1)] [] false (mz_k S R N b t) := by
  unfold cf_228_59 at hC
  unfold cp_228_59 at hp
  refine g_goto (tg := 84) rfl ms_228_84 ?_
  refine g_weak ?_ (g_cl (cg_228_84 hd hS hR v1 N hr hp hC))
  exact ⟨rfl, rfl, trivial⟩
theorem cg_228_62 (hd : 0 ≤ d) (hS : mz_extR S 232) (hR : mz_rok R 232)  (v1 : Int32) (N : mz_N) {C0 : (mz_N) → Prop} (hr : ∀ (N2 : mz_N), C0 N2 → Q (.inl none) (mz_k S R N2 b t)) (hp : cp_228_62 v1 N) (hC : C0 (cf_228_62 v1 N)) : mz_G (d, mz_X0 L xs, none, [], mk_228, 3, Q) 62 mt_228_62 [(0, .ref 56), (1, .int v1)] [] true (mz_k S R N b t) := by
  unfold cf_228_62 at hC
  unfold cp_228_62 at hp
  refine g_aload_n rfl (g_getR (mz_at hS (Nat.le_of_ble_eq_true rfl) mzcS_56) mzcf_9_0 (mz_rb hR (Nat.le_of_ble_eq_true rfl) rfl mzcR_56_0) (g_iconst mzi_1 (g_aald4 (m := 59) (mz_at hS (Nat.le_of_ble_eq_true rfl) mzcS_57) (mz_ibd (by decide)) (mz_rb hR (Nat.le_of_ble_eq_true rfl) rfl mzcRr_57_1) (g_iload_n rfl (g_iconst mzi_0 (g_aload_n rfl (g_getR (mz_at hS (Nat.le_of_ble_eq_true rfl) mzcS_56) mzcf_9_0 (mz_rb hR (Nat.le_of_ble_eq_true rfl) rfl mzcR_56_0) ?_)))))))
  refine g_iconst mzi_1 (g_aald4 (m := 59) (mz_at hS (Nat.le_of_ble_eq_true rfl) mzcS_57) (mz_ibd (by decide)) (mz_rb hR (Nat.le_of_ble_eq_true rfl) rfl mzcRr_57_1) (g_iload_n rfl ?_))
  obtain ⟨h1, hp⟩ := hp
  refine g_iald hS.1 (mz_at hS (Nat.le_of_ble_eq_true rfl) mzcS_59) h1 (g_iconst mzi_2 (g_isub (g_imax (Nat.le_of_ble_eq_true rfl) ?_)))
  obtain ⟨h2, hp⟩ := hp
  refine g_iast (mz_at hS (Nat.le_of_ble_eq_true rfl) mzcS_59) h2 ?_
  refine g_weak ?_ (g_cl (cg_228_84 hd hS hR v1 (mz_wI N 59 v1 (mz_imax 0 ((mz_gI N 59 v1) - 2))) hr hp hC))
  exact ⟨rfl, rfl, trivial⟩
theorem cg_228_0 (hd : 0 ≤ d) (hS : mz_extR S 232) (hR : mz_rok R 232)  (v1 : Int32) (N : mz_N) {C0 : (mz_N) → Prop} (hr : ∀ (N2 : mz_N), C0 N2 → Q (.inl none) (mz_k S R N2 b t)) (hp : cp_228_0 v1 N) (hC : C0 (cf_228_0 v1 N)) : mz_G (d, mz_X0 L xs, none, [], mk_228, 3, Q) 0 mk_228 [(0, .ref 56), (1, .int v1)] [] true (mz_k S R N b t) := by
  unfold cf_228_0 at hC
  unfold cp_228_0 at hp
  refine g_aload_n rfl (g_getR (mz_at hS (Nat.le_of_ble_eq_true rfl) mzcS_56) mzcf_9_0 (mz_rb hR (Nat.le_of_ble_eq_true rfl) rfl mzcR_56_0) (g_iconst mzi_0 (g_aald4 (m := 58) (mz_at hS (Nat.le_of_ble_eq_true rfl) mzcS_57) (mz_ibd (by decide)) (mz_rb hR (Nat.le_of_ble_eq_true rfl) rfl mzcRr_57_0) (g_iload_n rfl ?_))))
  obtain ⟨h1, hp⟩ := hp
  refine g_iald hS.1 (mz_at hS (Nat.le_of_ble_eq_true rfl) mzcS_58) h1 (g_aload_n rfl (g_getR (mz_at hS (Nat.le_of_ble_eq_true rfl) mzcS_56) mzcf_9_0 (mz_rb hR (Nat.le_of_ble_eq_true rfl) rfl mzcR_56_0) (g_iconst mzi_4 (g_aald4 (m := 62) (mz_at hS (Nat.le_of_ble_eq_true rfl) mzcS_57) (mz_ibd (by decide)) (mz_rb hR (Nat.le_of_ble_eq_true rfl) rfl mzcRr_57_4) (g_iload_n rfl ?_)))))
  obtain ⟨h2, hp⟩ := hp
  refine g_iald hS.1 (mz_at hS (Nat.le_of_ble_eq_true rfl) mzcS_62) h2 (g_isub (g_istore_n (Nat.le_of_ble_eq_true rfl) rfl (g_iload_n rfl ?_)))
  refine g_ifle (tg := 62) rfl ms_228_62 hC (fun h3 hC => ?_) (fun h3 hC => ?_)
  · have hp := hp.1 h3
    refine g_aload_n rfl (g_getR (mz_at hS (Nat.le_of_ble_eq_true rfl) mzcS_56) mzcf_9_0 (mz_rb hR (Nat.le_of_ble_eq_true rfl) rfl mzcR_56_0) (g_iconst mzi_4 (g_aald4 (m := 62) (mz_at hS (Nat.le_of_ble_eq_true rfl) mzcS_57) (mz_ibd (by decide)) (mz_rb hR (Nat.le_of_ble_eq_true rfl) rfl mzcRr_57_4) (g_iload_n rfl ?_))))
    obtain ⟨h4, hp⟩ := hp
    refine g_iald hS.1 (mz_at hS (Nat.le_of_ble_eq_true rfl) mzcS_62) h4 ?_
    refine g_ifle (tg := 62) rfl ms_228_62 hC (fun h5 hC => ?_) (fun h5 hC => ?_)
    · have hp := hp.1 h5
      refine g_aload_n rfl (g_getR (mz_at hS (Nat.le_of_ble_eq_true rfl) mzcS_56) mzcf_9_0 (mz_rb hR (Nat.le_of_ble_eq_true rfl) rfl mzcR_56_0) (g_iconst mzi_1 (g_aald4 (m := 59) (mz_at hS (Nat.le_of_ble_eq_true rfl) mzcS_57) (mz_ibd (by decide)) (mz_rb hR (Nat.le_of_ble_eq_true rfl) rfl mzcRr_57_1) (g_iload_n rfl (g_dup2 rfl rfl ?_)))))
      obtain ⟨h6, hp⟩ := hp
      refine g_iald hS.1 (mz_at hS (Nat.le_of_ble_eq_true rfl) mzcS_59) h6 (g_iconst mzi_1 (g_bipush mzb_10 (g_iload_n rfl (g_imul (g_aload_n rfl (g_getR (mz_at hS (Nat.le_of_ble_eq_true rfl) mzcS_56) mzcf_9_0 (mz_rb hR (Nat.le_of_ble_eq_true rfl) rfl mzcR_56_0) (g_iconst mzi_4 ?_)))))))
      refine g_aald4 (m := 62) (mz_at hS (Nat.le_of_ble_eq_true rfl) mzcS_57) (mz_ibd (by decide)) (mz_rb hR (Nat.le_of_ble_eq_true rfl) rfl mzcRr_57_4) (g_iload_n rfl ?_)
      obtain ⟨h7, hp⟩ := hp
      refine g_iald hS.1 (mz_at hS (Nat.le_of_ble_eq_true rfl) mzcS_62) h7 ?_
      obtain ⟨h8, hp⟩ := hp
      refine g_idiv h8 (g_iadd (g_iadd ?_))
      obtain ⟨h9, hp⟩ := hp
      refine g_iast (mz_at hS (Nat.le_of_ble_eq_true rfl) mzcS_59) h9 ?_
      refine g_weak ?_ (g_cl (cg_228_59 hd hS hR v1 (mz_wI N 59 v1 ((mz_gI N 59 v1) + (1 + ((10 * ((mz_gI N 58 v1) - (mz_gI N 62 v1))) / (mz_gI N 62 v1))))) hr hp hC))
      exact ⟨rfl, rfl, trivial⟩
    · have hp := hp.2 h5
      refine g_weak ?_ (cg_228_62 hd hS hR v1 N hr hp hC)
      exact ⟨rfl, rfl, trivial⟩
  · have hp := hp.2 h3
    refine g_weak ?_ (cg_228_62 hd hS hR v1 N hr hp hC)
    exact ⟨rfl, rfl, trivial⟩
theorem cs_228 (hd : 1 ≤ d) (hS : mz_extR S 232) (hR : mz_rok R 232)  (v1 : Int32) (N : mz_N) (hp : cp_228_0 v1 N) (hq : Q (.inl none) (mz_k S R (cf_228_0 v1 N) b t)) : mz_Ed (mz_X0 L xs) d 228 [.ref 56, .int v1] (mz_k S R N b t) Q :=
  by
  refine g_in mzq_228 (Nat.le_of_ble_eq_true rfl) (Nat.le_of_ble_eq_true rfl) (Nat.le_trans (Nat.le_of_ble_eq_true rfl) hd) ?_
  refine g_weak ?_ (cg_228_0 (d := d - 1) (by omega) hS hR v1 N (C0 := fun z => Q (.inl none) (mz_k S R z b t)) (fun _ h => h) hp hq)
  exact ⟨rfl, rfl, trivial⟩
/-! 219 KeptHouse.supplyPower (I)V -/
theorem ms_219_0 : mz_sf mk_219 0 = mk_219 := mz_sf_zero _
theorem ms_219_26 : mz_sf mk_219 26 = mt_219_26 := mz_sf_add ms_219_0 (t := 26) rfl rfl
theorem ms_219_36 : mz_sf mk_219 36 = mt_219_36 := mz_sf_add ms_219_26 (t := 10) rfl rfl
theorem ms_219_51 : mz_sf mk_219 51 = mt_219_51 := mz_sf_add ms_219_36 (t := 15) rfl rfl
theorem ms_219_69 : mz_sf mk_219 69 = mt_219_69 := mz_sf_add ms_219_51 (t := 18) rfl rfl
theorem ms_219_108 : mz_sf mk_219 108 = mt_219_108 := mz_sf_add ms_219_69 (t := 39) rfl rfl
theorem ms_219_114 : mz_sf mk_219 114 = mt_219_114 := mz_sf_add ms_219_108 (t := 6) rfl rfl
set_option maxRecDepth 100000 in
theorem mzq_219 : mz_PG0 219 = some (11, ⟨"KeptHouse", "supplyPower", "(I)V"⟩, prog_1_method_77_code, 3, none, [], mk_219, []) := rfl
theorem cg_219_108 (hd : 3 ≤ d) (hS : mz_extR S 232) (hR : mz_rok R 232)  (v2 : Int32) (N : mz_N) {C0 : (mz_N) → Prop} (hr : ∀ (N2 : mz_N), C0 N2 → Q (.inl none) (mz_k S R N2 b t)) {C1 : ((Int32 × mz_N) ⊕ (mz_N)) → Prop} (hc1 : ∀ s2, C1 (.inl s2) → mz_G (d, mz_X0 L xs, none, [], mk_219, 3, Q) 69 mt_219_69 [(0, .ref 0), (2, .int s2.1)] [] false (mz_k S R s2.2 b t)) (hx1 : ∀ z, C1 (.inr z) → C0 z) (hp : cp_219_108 v2 N) (hC : C1 (cf_219_108 v2 N)) : mz_G (d, mz_X0 L xs, none, [], mk_219, 3, Q) 108 mt_219_108 [(0, .ref 0), (2, .int v2)] [] false (mz_k S R N b t) := by
  unfold cf_219_108 at hC
  unfold cp_219_108 at hp
  refine g_iinc rfl mzi_1 (Nat.le_of_ble_eq_true rfl) rfl (g_goto (tg := 69) rfl ms_219_69 ?_)
  refine g_weak ?_ (g_cl (hc1 ((v2 + 1), N) hC))
  exact ⟨rfl, rfl, trivial⟩
theorem cb_219_69 (hd : 3 ≤ d) (hS : mz_extR S 232) (hR : mz_rok R 232)   (s : Int32 × mz_N) {C0 : (mz_N) → Prop} (hr : ∀ (N2 : mz_N), C0 N2 → Q (.inl none) (mz_k S R N2 b t)) {C1 : ((Int32 × mz_N) ⊕ (mz_N)) → Prop} (hc1 : ∀ s2, C1 (.inl s2) → mz_G (d, mz_X0 L xs, none, [], mk_219, 3, Q) 69 mt_219_69 [(0, .ref 0), (2, .int s2.1)] [] false (mz_k S R s2.2 b t)) (hx1 : ∀ z, C1 (.inr z) → C0 z) (hp : cd_219_69  s) (hC : C1 (cq_219_69  s)) : mz_G (d, mz_X0 L xs, none, [], mk_219, 3, Q) 69 mt_219_69 [(0, .ref 0), (2, .int s.1)] [] false (mz_k S R s.2 b t) := by
  unfold cq_219_69 at hC
  unfold cd_219_69 at hp
  refine g_iload_n rfl (g_bipush mzb_11 ?_)
  refine g_icge (tg := 114) rfl ms_219_114 hC (fun h1 hC => ?_) (fun h1 hC => ?_)
  · have hp := hp.1 h1
    refine g_aload_n rfl (g_getR (mz_at hS (Nat.le_of_ble_eq_true rfl) mzcS_0) mzcf_11_3 (mz_rb hR (Nat.le_of_ble_eq_true rfl) rfl mzcR_0_3) (g_iload_n rfl ?_))
    obtain ⟨h2, hp⟩ := hp
    refine g_v2n (Nat.le_of_ble_eq_true rfl) (mz_at hS (Nat.le_of_ble_eq_true rfl) mzcS_56) (fun _ hq => cs_228 (Nat.le_trans (Nat.le_of_ble_eq_true rfl) hd) (hS.le (Nat.le_of_ble_eq_true rfl)) (hR.le (Nat.le_of_ble_eq_true rfl))  s.1 s.2 h2 hq) (g_aload_n rfl (g_getR (mz_at hS (Nat.le_of_ble_eq_true rfl) mzcS_0) mzcf_11_8 (mz_rb hR (Nat.le_of_ble_eq_true rfl) rfl mzcR_0_8) (g_getR (mz_at hS (Nat.le_of_ble_eq_true rfl) mzcS_208) mzcf_1_5 (mz_rb hR (Nat.le_of_ble_eq_true rfl) rfl mzcR_208_5) (g_iconst mzi_1 (g_aald4 (m := 211) (mz_at hS (Nat.le_of_ble_eq_true rfl) mzcS_209) (mz_ibd (by decide)) (mz_rb hR (Nat.le_of_ble_eq_true rfl) rfl mzcRr_209_1) (g_iload_n rfl (g_dup2 rfl rfl ?_)))))))
    obtain ⟨h3, hp⟩ := hp
    refine g_iald hS.1 (mz_at hS (Nat.le_of_ble_eq_true rfl) mzcS_211) h3 (g_aload_n rfl (g_getR (mz_at hS (Nat.le_of_ble_eq_true rfl) mzcS_0) mzcf_11_3 (mz_rb hR (Nat.le_of_ble_eq_true rfl) rfl mzcR_0_3) (g_getR (mz_at hS (Nat.le_of_ble_eq_true rfl) mzcS_56) mzcf_9_0 (mz_rb hR (Nat.le_of_ble_eq_true rfl) rfl mzcR_56_0) (g_iconst mzi_0 (g_aald4 (m := 58) (mz_at hS (Nat.le_of_ble_eq_true rfl) mzcS_57) (mz_ibd (by decide)) (mz_rb hR (Nat.le_of_ble_eq_true rfl) rfl mzcRr_57_0) (g_iload_n rfl ?_))))))
    obtain ⟨h4, hp⟩ := hp
    refine g_iald hS.1 (mz_at hS (Nat.le_of_ble_eq_true rfl) mzcS_58) h4 (g_iadd ?_)
    obtain ⟨h5, hp⟩ := hp
    refine g_iast (mz_at hS (Nat.le_of_ble_eq_true rfl) mzcS_211) h5 ?_
    refine g_weak ?_ (g_cl (cg_219_108 hd hS hR s.1 (mz_wI (cf_228_0 s.1 s.2) 211 s.1 ((mz_gI (cf_228_0 s.1 s.2) 211 s.1) + (mz_gI (cf_228_0 s.1 s.2) 58 s.1))) hr hc1 hx1 hp hC))
    exact ⟨rfl, rfl, trivial⟩
  · have hp := hp.2 h1
    exact g_vret rfl (hr _ (hx1 _ hC))
theorem cg_219_69 (hd : 3 ≤ d) (hS : mz_extR S 232) (hR : mz_rok R 232)  (v2 : Int32) (N : mz_N) {C0 : (mz_N) → Prop} (hr : ∀ (N2 : mz_N), C0 N2 → Q (.inl none) (mz_k S R N2 b t)) (hp : cp_219_69 v2 N) (hC : C0 (cf_219_69 v2 N)) : mz_G (d, mz_X0 L xs, none, [], mk_219, 3, Q) 69 mt_219_69 [(0, .ref 0), (2, .int v2)] [] false (mz_k S R N b t) := by
  obtain ⟨n, hn⟩ := hp
  exact g_loop (G := fun s => mz_G (d, mz_X0 L xs, none, [], mk_219, 3, Q) 69 mt_219_69 [(0, .ref 0), (2, .int s.1)] [] false (mz_k S R s.2 b t)) (C := C0) (fun C2 hc hx s hP hC => cb_219_69 hd hS hR  s hr hc hx hP hC) n (v2, N) hn hC
theorem cg_219_51 (hd : 3 ≤ d) (hS : mz_extR S 232) (hR : mz_rok R 232)  (N : mz_N) {C0 : (mz_N) → Prop} (hr : ∀ (N2 : mz_N), C0 N2 → Q (.inl none) (mz_k S R N2 b t)) (hp : cp_219_51 N) (hC : C0 (cf_219_51 N)) : mz_G (d, mz_X0 L xs, none, [], mk_219, 3, Q) 51 mt_219_51 [(0, .ref 0)] [] false (mz_k S R N b t) := by
  unfold cf_219_51 at hC
  unfold cp_219_51 at hp
  refine g_aload_n rfl (g_getR (mz_at hS (Nat.le_of_ble_eq_true rfl) mzcS_0) mzcf_11_3 (mz_rb hR (Nat.le_of_ble_eq_true rfl) rfl mzcR_0_3) (g_aload_n rfl (g_getR (mz_at hS (Nat.le_of_ble_eq_true rfl) mzcS_0) mzcf_11_3 (mz_rb hR (Nat.le_of_ble_eq_true rfl) rfl mzcR_0_3) (g_bipush mzb_10 ?_))))
  obtain ⟨h1, hp⟩ := hp
  refine g_v2v (Nat.le_of_ble_eq_true rfl) (mz_at hS (Nat.le_of_ble_eq_true rfl) mzcS_56) (fun _ hq => cs_227 (Nat.le_trans (Nat.le_of_ble_eq_true rfl) hd) (hS.le (Nat.le_of_ble_eq_true rfl)) (hR.le (Nat.le_of_ble_eq_true rfl))  10 N h1 hq) (g_putZ (z := (cf_227_0 10 N)) (mz_at hS (Nat.le_of_ble_eq_true rfl) mzcS_56) mzcf_9_6 (g_iconst mzi_0 (g_istore_n (Nat.le_of_ble_eq_true rfl) rfl ?_)))
  refine g_weak ?_ (g_cl (cg_219_69 hd hS hR 0 (mz_pI N 56 6 (mz_b01 (cf_227_0 10 N))) hr hp hC))
  exact ⟨rfl, rfl, trivial⟩
theorem cg_219_0 (hd : 3 ≤ d) (hS : mz_extR S 232) (hR : mz_rok R 232)  (v1 : Int32) (N : mz_N) {C0 : (mz_N) → Prop} (hr : ∀ (N2 : mz_N), C0 N2 → Q (.inl none) (mz_k S R N2 b t)) (hp : cp_219_0 v1 N) (hC : C0 (cf_219_0 v1 N)) : mz_G (d, mz_X0 L xs, none, [], mk_219, 3, Q) 0 mk_219 [(0, .ref 0), (1, .int v1)] [] true (mz_k S R N b t) := by
  unfold cf_219_0 at hC
  unfold cp_219_0 at hp
  refine g_aload_n rfl (g_getR (mz_at hS (Nat.le_of_ble_eq_true rfl) mzcS_0) mzcf_11_3 (mz_rb hR (Nat.le_of_ble_eq_true rfl) rfl mzcR_0_3) (g_aload_n rfl (g_getR (mz_at hS (Nat.le_of_ble_eq_true rfl) mzcS_0) mzcf_11_1 (mz_rb hR (Nat.le_of_ble_eq_true rfl) rfl mzcR_0_1) (g_aload_n rfl (g_getR (mz_at hS (Nat.le_of_ble_eq_true rfl) mzcS_0) mzcf_11_10 (mz_rb hR (Nat.le_of_ble_eq_true rfl) rfl mzcR_0_10) (g_iload_n rfl ?_))))))
  obtain ⟨h1, hp⟩ := hp
  refine g_v4n (Nat.le_of_ble_eq_true rfl) (mz_at hS (Nat.le_of_ble_eq_true rfl) mzcS_56) (fun _ hq => cs_220 (Nat.le_trans (Nat.le_of_ble_eq_true rfl) hd) (hS.le (Nat.le_of_ble_eq_true rfl)) (hR.le (Nat.le_of_ble_eq_true rfl))  v1 N h1 hq) (g_aload_n rfl (g_getR (mz_at hS (Nat.le_of_ble_eq_true rfl) mzcS_0) mzcf_11_3 (mz_rb hR (Nat.le_of_ble_eq_true rfl) rfl mzcR_0_3) ?_))
  obtain ⟨h2, hp⟩ := hp
  refine g_getZ (mz_at hS (Nat.le_of_ble_eq_true rfl) mzcS_56) mzcf_9_4 h2 ?_
  refine g_zeq (tg := 36) rfl ms_219_36 hC (fun h3 hC => ?_) (fun h3 hC => ?_)
  · have hp := hp.1 h3
    refine g_aload_n rfl (g_getR (mz_at hS (Nat.le_of_ble_eq_true rfl) mzcS_0) mzcf_11_3 (mz_rb hR (Nat.le_of_ble_eq_true rfl) rfl mzcR_0_3) ?_)
    obtain ⟨h4, hp⟩ := hp
    refine g_v1n (Nat.le_of_ble_eq_true rfl) (mz_at hS (Nat.le_of_ble_eq_true rfl) mzcS_56) (fun _ hq => cs_223 (Nat.le_trans (Nat.le_of_ble_eq_true rfl) hd) (hS.le (Nat.le_of_ble_eq_true rfl)) (hR.le (Nat.le_of_ble_eq_true rfl))  (cf_220_0 v1 N) h4 hq) (g_goto (tg := 51) rfl ms_219_51 ?_)
    refine g_weak ?_ (g_cl (cg_219_51 hd hS hR (cf_223_0 (cf_220_0 v1 N)) hr hp hC))
    exact ⟨rfl, trivial⟩
  · have hp := hp.2 h3
    refine g_aload_n rfl (g_getR (mz_at hS (Nat.le_of_ble_eq_true rfl) mzcS_0) mzcf_11_3 (mz_rb hR (Nat.le_of_ble_eq_true rfl) rfl mzcR_0_3) (g_aload_n rfl (g_getR (mz_at hS (Nat.le_of_ble_eq_true rfl) mzcS_0) mzcf_11_7 (mz_rb hR (Nat.le_of_ble_eq_true rfl) rfl mzcR_0_7) (g_iconst mzi_2 ?_))))
    obtain ⟨h5, hp⟩ := hp
    refine g_v2v (Nat.le_of_ble_eq_true rfl) (mz_at hS (Nat.le_of_ble_eq_true rfl) mzcS_115) (fun _ hq => cs_224 (Nat.le_trans (Nat.le_of_ble_eq_true rfl) hd) (hS.le (Nat.le_of_ble_eq_true rfl)) (hR.le (Nat.le_of_ble_eq_true rfl))  2 (cf_220_0 v1 N) h5 hq) ?_
    obtain ⟨h6, hp⟩ := hp
    refine g_v2n (Nat.le_of_ble_eq_true rfl) (mz_at hS (Nat.le_of_ble_eq_true rfl) mzcS_56) (fun _ hq => cs_225 (Nat.le_trans (Nat.le_of_ble_eq_true rfl) hd) (hS.le (Nat.le_of_ble_eq_true rfl)) (hR.le (Nat.le_of_ble_eq_true rfl))  (cf_224_0 2 (cf_220_0 v1 N)) (cf_220_0 v1 N) h6 hq) ?_
    refine g_weak ?_ (g_cl (cg_219_51 hd hS hR (cf_225_0 (cf_224_0 2 (cf_220_0 v1 N)) (cf_220_0 v1 N)) hr hp hC))
    exact ⟨rfl, trivial⟩
theorem cs_219 (hd : 4 ≤ d) (hS : mz_extR S 232) (hR : mz_rok R 232)  (v1 : Int32) (N : mz_N) (hp : cp_219_0 v1 N) (hq : Q (.inl none) (mz_k S R (cf_219_0 v1 N) b t)) : mz_Ed (mz_X0 L xs) d 219 [.ref 0, .int v1] (mz_k S R N b t) Q :=
  by
  refine g_in mzq_219 (Nat.le_of_ble_eq_true rfl) (Nat.le_of_ble_eq_true rfl) (Nat.le_trans (Nat.le_of_ble_eq_true rfl) hd) ?_
  refine g_weak ?_ (cg_219_0 (d := d - 1) (by omega) hS hR v1 N (C0 := fun z => Q (.inl none) (mz_k S R z b t)) (fun _ h => h) hp hq)
  exact ⟨rfl, rfl, trivial⟩
/-! 231 KeptHouse$Supply.lot (II)I -/
theorem ms_231_0 : mz_sf mk_231 0 = mk_231 := mz_sf_zero _
theorem ms_231_21 : mz_sf mk_231 21 = mt_231_21 := mz_sf_add ms_231_0 (t := 21) rfl rfl
theorem ms_231_43 : mz_sf mk_231 43 = mt_231_43 := mz_sf_add ms_231_21 (t := 22) rfl rfl
set_option maxRecDepth 100000 in
theorem mzq_231 : mz_PG0 231 = some (9, ⟨"KeptHouse$Supply", "lot", "(II)I"⟩, prog_11_method_12_code, 5, some .int, [], mk_231, []) := rfl
theorem cg_231_0 (hd : 0 ≤ d) (hS : mz_extR S 232) (hR : mz_rok R 232)  (v1 : Int32) (v2 : Int32) (N : mz_N) {C0 : (Int32) → Prop} (hr : ∀ (w : Int32), C0 w → Q (.inl (some (.int w))) (mz_k S R N b t)) (hp : cp_231_0 v1 v2 N) (hC : C0 (cf_231_0 v1 v2 N)) : mz_G (d, mz_X0 L xs, some .int, [], mk_231, 5, Q) 0 mk_231 [(0, .ref 56), (1, .int v1), (2, .int v2)] [] true (mz_k S R N b t) := by
  unfold cf_231_0 at hC
  unfold cp_231_0 at hp
  refine g_aload_n rfl (g_getL (mz_at hS (Nat.le_of_ble_eq_true rfl) mzcS_56) mzcf_9_15 (g_con3 (g_con3 (g_iload_n rfl (g_i2l (g_lmul (g_iload_n rfl ?_)))))))
  refine g_i2l (g_ladd (g_lconst mzl_1 (g_ladd (g_lmul (g_ladd (g_lstore_n (Nat.le_of_ble_eq_true rfl) rfl rfl (g_lload_n rfl ?_)))))))
  refine g_lload_n rfl (g_bipush mzb_30 (g_lushr (g_lxor (g_con3 (g_lmul (g_lstore_n (Nat.le_of_ble_eq_true rfl) rfl rfl (g_lload_n rfl ?_)))))))
  refine g_lload_n rfl (g_bipush mzb_27 (g_lushr (g_lxor (g_con3 (g_lmul (g_lstore_n (Nat.le_of_ble_eq_true rfl) rfl rfl (g_lload_n rfl ?_)))))))
  refine g_lload_n rfl (g_bipush mzb_31 (g_lushr (g_lxor (g_lstore_n (Nat.le_of_ble_eq_true rfl) rfl rfl (g_lload_n rfl (g_bipush mzb_33 (g_lushr ?_)))))))
  refine g_con3 (g_lrem (by decide) (g_l2i ?_))
  exact g_iret rfl (hr _ hC)
theorem cs_231 (hd : 1 ≤ d) (hS : mz_extR S 232) (hR : mz_rok R 232)  (v1 : Int32) (v2 : Int32) (N : mz_N) (hp : cp_231_0 v1 v2 N) (hq : Q (.inl (some (.int (cf_231_0 v1 v2 N)))) (mz_k S R N b t)) : mz_Ed (mz_X0 L xs) d 231 [.ref 56, .int v1, .int v2] (mz_k S R N b t) Q :=
  by
  refine g_in mzq_231 (Nat.le_of_ble_eq_true rfl) (Nat.le_of_ble_eq_true rfl) (Nat.le_trans (Nat.le_of_ble_eq_true rfl) hd) ?_
  refine g_weak ?_ (cg_231_0 (d := d - 1) (by omega) hS hR v1 v2 N (C0 := fun z => Q (.inl (some (.int z))) (mz_k S R N b t)) (fun _ h => h) hp hq)
  exact ⟨rfl, rfl, rfl, trivial⟩
/-! 230 KeptHouse$Supply.drawWater (III)I -/
theorem ms_230_0 : mz_sf mk_230 0 = mk_230 := mz_sf_zero _
theorem ms_230_23 : mz_sf mk_230 23 = mt_230_23 := mz_sf_add ms_230_0 (t := 23) rfl rfl
theorem ms_230_25 : mz_sf mk_230 25 = mt_230_25 := mz_sf_add ms_230_23 (t := 2) rfl rfl
theorem ms_230_53 : mz_sf mk_230 53 = mt_230_53 := mz_sf_add ms_230_25 (t := 28) rfl rfl
theorem ms_230_79 : mz_sf mk_230 79 = mt_230_79 := mz_sf_add ms_230_53 (t := 26) rfl rfl
theorem ms_230_83 : mz_sf mk_230 83 = mt_230_83 := mz_sf_add ms_230_79 (t := 4) rfl rfl
theorem ms_230_84 : mz_sf mk_230 84 = mt_230_84 := mz_sf_add ms_230_83 (t := 1) rfl rfl
theorem ms_230_120 : mz_sf mk_230 120 = mt_230_120 := mz_sf_add ms_230_84 (t := 36) rfl rfl
set_option maxRecDepth 100000 in
theorem mzq_230 : mz_PG0 230 = some (9, ⟨"KeptHouse$Supply", "drawWater", "(III)I"⟩, prog_11_method_13_code, 6, some .int, [], mk_230, []) := rfl
theorem cg_230_120 (hd : 1 ≤ d) (hS : mz_extR S 232) (hR : mz_rok R 232)  (v5 : Int32) (N : mz_N) {C0 : (Int32 × mz_N) → Prop} (hr : ∀ (w : Int32) (N2 : mz_N), C0 (w, N2) → Q (.inl (some (.int w))) (mz_k S R N2 b t)) (hp : cp_230_120 v5 N) (hC : C0 (cf_230_120 v5 N)) : mz_G (d, mz_X0 L xs, some .int, [], mk_230, 6, Q) 120 mt_230_120 [(5, .int v5)] [] false (mz_k S R N b t) := by
  unfold cf_230_120 at hC
  unfold cp_230_120 at hp
  refine g_iload rfl ?_
  exact g_iret rfl (hr _ _ hC)
theorem cg_230_84 (hd : 1 ≤ d) (hS : mz_extR S 232) (hR : mz_rok R 232)  (s1 : Bool) (v1 : Int32) (v5 : Int32) (N : mz_N) {C0 : (Int32 × mz_N) → Prop} (hr : ∀ (w : Int32) (N2 : mz_N), C0 (w, N2) → Q (.inl (some (.int w))) (mz_k S R N2 b t)) (hp : cp_230_84 s1 v1 v5 N) (hC : C0 (cf_230_84 s1 v1 v5 N)) : mz_G (d, mz_X0 L xs, some .int, [], mk_230, 6, Q) 84 mt_230_84 [(0, .ref 56), (1, .int v1), (5, .int v5)] [.int (mz_b01 s1), .ref 56] false (mz_k S R N b t) := by
  unfold cf_230_84 at hC
  unfold cp_230_84 at hp
  refine g_putZ (z := s1) (mz_at hS (Nat.le_of_ble_eq_true rfl) mzcS_56) mzcf_9_10 (g_aload_n rfl (g_dup rfl (g_getI (mz_at hS (Nat.le_of_ble_eq_true rfl) mzcS_56) mzcf_9_7 (g_iload rfl (g_isub (g_putI (mz_at hS (Nat.le_of_ble_eq_true rfl) mzcS_56) mzcf_9_7 (g_aload_n rfl ?_)))))))
  refine g_iconst mzi_0 (g_aload_n rfl (g_getI (mz_at hS (Nat.le_of_ble_eq_true rfl) mzcS_56) mzcf_9_11 (g_bipush mzb_40 (g_aload_n rfl (g_getR (mz_at hS (Nat.le_of_ble_eq_true rfl) mzcS_56) mzcf_9_14 (mz_rb hR (Nat.le_of_ble_eq_true rfl) rfl mzcR_56_14) (g_iload_n rfl ?_))))))
  obtain ⟨h1, hp⟩ := hp
  refine g_iald hS.1 (mz_at hS (Nat.le_of_ble_eq_true rfl) mzcS_64) h1 (g_imul (g_isub (g_imax (Nat.le_of_ble_eq_true rfl) (g_putI (mz_at hS (Nat.le_of_ble_eq_true rfl) mzcS_56) mzcf_9_11 ?_))))
  refine g_weak ?_ (g_cl (cg_230_120 hd hS hR v5 (mz_pI (mz_pI (mz_pI N 56 10 (mz_b01 s1)) 56 7 (((mz_pI N 56 10 (mz_b01 s1)).1 56 7) - v5)) 56 11 (mz_imax 0 (((mz_pI (mz_pI N 56 10 (mz_b01 s1)) 56 7 (((mz_pI N 56 10 (mz_b01 s1)).1 56 7) - v5)).1 56 11) - (40 * (mz_gI (mz_pI (mz_pI N 56 10 (mz_b01 s1)) 56 7 (((mz_pI N 56 10 (mz_b01 s1)).1 56 7) - v5)) 64 v1))))) hr hp hC))
  exact ⟨rfl, trivial⟩
theorem cg_230_79 (hd : 1 ≤ d) (hS : mz_extR S 232) (hR : mz_rok R 232)  (v1 : Int32) (v5 : Int32) (N : mz_N) {C0 : (Int32 × mz_N) → Prop} (hr : ∀ (w : Int32) (N2 : mz_N), C0 (w, N2) → Q (.inl (some (.int w))) (mz_k S R N2 b t)) (hp : cp_230_79 v1 v5 N) (hC : C0 (cf_230_79 v1 v5 N)) : mz_G (d, mz_X0 L xs, some .int, [], mk_230, 6, Q) 79 mt_230_79 [(0, .ref 56), (1, .int v1), (5, .int v5)] [.ref 56] false (mz_k S R N b t) := by
  unfold cf_230_79 at hC
  unfold cp_230_79 at hp
  refine g_iconst mzi_1 (g_goto (tg := 84) rfl ms_230_84 ?_)
  refine g_weak ?_ (g_cl (cg_230_84 hd hS hR true v1 v5 N hr hp hC))
  exact ⟨rfl, rfl, rfl, trivial⟩
theorem cg_230_53 (hd : 1 ≤ d) (hS : mz_extR S 232) (hR : mz_rok R 232)  (v1 : Int32) (v4 : Int32) (N : mz_N) {C0 : (Int32 × mz_N) → Prop} (hr : ∀ (w : Int32) (N2 : mz_N), C0 (w, N2) → Q (.inl (some (.int w))) (mz_k S R N2 b t)) (hp : cp_230_53 v1 v4 N) (hC : C0 (cf_230_53 v1 v4 N)) : mz_G (d, mz_X0 L xs, some .int, [], mk_230, 6, Q) 53 mt_230_53 [(0, .ref 56), (1, .int v1), (4, .int v4)] [] false (mz_k S R N b t) := by
  unfold cf_230_53 at hC
  unfold cp_230_53 at hp
  refine g_iload rfl (g_aload_n rfl (g_getR (mz_at hS (Nat.le_of_ble_eq_true rfl) mzcS_56) mzcf_9_14 (mz_rb hR (Nat.le_of_ble_eq_true rfl) rfl mzcR_56_14) (g_iload_n rfl ?_)))
  obtain ⟨h1, hp⟩ := hp
  refine g_iald hS.1 (mz_at hS (Nat.le_of_ble_eq_true rfl) mzcS_64) h1 (g_iadd (g_istore (Nat.le_of_ble_eq_true rfl) rfl (g_aload_n rfl (g_aload_n rfl ?_))))
  obtain ⟨h2, hp⟩ := hp
  refine g_getZ (mz_at hS (Nat.le_of_ble_eq_true rfl) mzcS_56) mzcf_9_10 h2 ?_
  refine g_zne (tg := 79) rfl ms_230_79 hC (fun h3 hC => ?_) (fun h3 hC => ?_)
  · have hp := hp.1 h3
    refine g_weak ?_ (g_cl (cg_230_79 hd hS hR v1 (v4 + (mz_gI N 64 v1)) N hr hp hC))
    exact ⟨rfl, rfl, rfl, trivial⟩
  · have hp := hp.2 h3
    refine g_iload rfl (g_bipush mzb_10 ?_)
    refine g_icge (tg := 83) rfl ms_230_83 hC (fun h4 hC => ?_) (fun h4 hC => ?_)
    · have hp := hp.1 h4
      refine g_weak ?_ (g_cl (cg_230_79 hd hS hR v1 (v4 + (mz_gI N 64 v1)) N hr hp hC))
      exact ⟨rfl, rfl, rfl, trivial⟩
    · have hp := hp.2 h4
      refine g_iconst mzi_0 ?_
      refine g_weak ?_ (g_cl (cg_230_84 hd hS hR false v1 (v4 + (mz_gI N 64 v1)) N hr hp hC))
      exact ⟨rfl, rfl, rfl, trivial⟩
theorem cg_230_0 (hd : 1 ≤ d) (hS : mz_extR S 232) (hR : mz_rok R 232)  (v1 : Int32) (v2 : Int32) (v3 : Int32) (N : mz_N) {C0 : (Int32 × mz_N) → Prop} (hr : ∀ (w : Int32) (N2 : mz_N), C0 (w, N2) → Q (.inl (some (.int w))) (mz_k S R N2 b t)) (hp : cp_230_0 v1 v2 v3 N) (hC : C0 (cf_230_0 v1 v2 v3 N)) : mz_G (d, mz_X0 L xs, some .int, [], mk_230, 6, Q) 0 mk_230 [(0, .ref 56), (1, .int v1), (2, .int v2), (3, .int v3)] [] true (mz_k S R N b t) := by
  unfold cf_230_0 at hC
  unfold cp_230_0 at hp
  refine g_aload_n rfl (g_getR (mz_at hS (Nat.le_of_ble_eq_true rfl) mzcS_56) mzcf_9_14 (mz_rb hR (Nat.le_of_ble_eq_true rfl) rfl mzcR_56_14) (g_iload_n rfl (g_iconst mzi_0 ?_)))
  obtain ⟨h1, hp⟩ := hp
  refine g_iast (mz_at hS (Nat.le_of_ble_eq_true rfl) mzcS_64) h1 (g_iload_n rfl ?_)
  refine g_ifeq (tg := 23) rfl ms_230_23 hC (fun h2 hC => ?_) (fun h2 hC => ?_)
  · have hp := hp.1 h2
    refine g_iconst mzi_0 ?_
    exact g_iret rfl (hr _ _ hC)
  · have hp := hp.2 h2
    refine g_aload_n rfl (g_iload_n rfl (g_iload_n rfl ?_))
    refine g_v3v (Nat.le_of_ble_eq_true rfl) (mz_at hS (Nat.le_of_ble_eq_true rfl) mzcS_56) (fun _ hq => cs_231 (Nat.le_trans (Nat.le_of_ble_eq_true rfl) hd) (hS.le (Nat.le_of_ble_eq_true rfl)) (hR.le (Nat.le_of_ble_eq_true rfl))  v3 v1 (mz_wI N 64 v1 0) trivial hq) (g_iconst mzi_4 (g_iload_n rfl (g_imul ?_)))
    refine g_iclt (tg := 25) rfl ms_230_25 hC (fun h4 hC => ?_) (fun h4 hC => ?_)
    · have hp := hp.1 h4
      refine g_bipush mzb_6 (g_aload_n rfl (g_getI (mz_at hS (Nat.le_of_ble_eq_true rfl) mzcS_56) mzcf_9_7 (g_imin (Nat.le_of_ble_eq_true rfl) (g_istore (Nat.le_of_ble_eq_true rfl) rfl (g_aload_n rfl (g_getR (mz_at hS (Nat.le_of_ble_eq_true rfl) mzcS_56) mzcf_9_14 (mz_rb hR (Nat.le_of_ble_eq_true rfl) rfl mzcR_56_14) (g_iload_n rfl ?_)))))))
      refine g_iconst mzi_4 (g_aload_n rfl (g_getI (mz_at hS (Nat.le_of_ble_eq_true rfl) mzcS_56) mzcf_9_7 (g_iload rfl (g_isub (g_imin (Nat.le_of_ble_eq_true rfl) ?_)))))
      obtain ⟨h5, hp⟩ := hp
      refine g_iast (mz_at hS (Nat.le_of_ble_eq_true rfl) mzcS_64) h5 ?_
      refine g_weak ?_ (g_cl (cg_230_53 hd hS hR v1 (mz_imin 6 ((mz_wI N 64 v1 0).1 56 7)) (mz_wI (mz_wI N 64 v1 0) 64 v1 (mz_imin 4 (((mz_wI N 64 v1 0).1 56 7) - (mz_imin 6 ((mz_wI N 64 v1 0).1 56 7))))) hr hp hC))
      exact ⟨rfl, rfl, rfl, trivial⟩
    · have hp := hp.2 h4
      refine g_iconst mzi_0 ?_
      exact g_iret rfl (hr _ _ hC)
theorem cs_230 (hd : 2 ≤ d) (hS : mz_extR S 232) (hR : mz_rok R 232)  (v1 : Int32) (v2 : Int32) (v3 : Int32) (N : mz_N) (hp : cp_230_0 v1 v2 v3 N) (hq : Q (.inl (some (.int ((cf_230_0 v1 v2 v3 N).1)))) (mz_k S R ((cf_230_0 v1 v2 v3 N).2) b t)) : mz_Ed (mz_X0 L xs) d 230 [.ref 56, .int v1, .int v2, .int v3] (mz_k S R N b t) Q :=
  by
  refine g_in mzq_230 (Nat.le_of_ble_eq_true rfl) (Nat.le_of_ble_eq_true rfl) (Nat.le_trans (Nat.le_of_ble_eq_true rfl) hd) ?_
  refine g_weak ?_ (cg_230_0 (d := d - 1) (by omega) hS hR v1 v2 v3 N (C0 := fun z => Q (.inl (some (.int z.1))) (mz_k S R z.2 b t)) (fun _ _ h => h) hp hq)
  exact ⟨rfl, rfl, rfl, rfl, trivial⟩
/-! 232 KeptHouse$Supply.pumpUp (Z)V -/
theorem ms_232_0 : mz_sf mk_232 0 = mk_232 := mz_sf_zero _
theorem ms_232_18 : mz_sf mk_232 18 = mt_232_18 := mz_sf_add ms_232_0 (t := 18) rfl rfl
theorem ms_232_22 : mz_sf mk_232 22 = mt_232_22 := mz_sf_add ms_232_18 (t := 4) rfl rfl
theorem ms_232_23 : mz_sf mk_232 23 = mt_232_23 := mz_sf_add ms_232_22 (t := 1) rfl rfl
theorem ms_232_49 : mz_sf mk_232 49 = mt_232_49 := mz_sf_add ms_232_23 (t := 26) rfl rfl
theorem ms_232_50 : mz_sf mk_232 50 = mt_232_50 := mz_sf_add ms_232_49 (t := 1) rfl rfl
theorem ms_232_77 : mz_sf mk_232 77 = mt_232_77 := mz_sf_add ms_232_50 (t := 27) rfl rfl
theorem ms_232_92 : mz_sf mk_232 92 = mt_232_92 := mz_sf_add ms_232_77 (t := 15) rfl rfl
theorem ms_232_93 : mz_sf mk_232 93 = mt_232_93 := mz_sf_add ms_232_92 (t := 1) rfl rfl
theorem ms_232_96 : mz_sf mk_232 96 = mt_232_96 := mz_sf_add ms_232_93 (t := 3) rfl rfl
set_option maxRecDepth 100000 in
theorem mzq_232 : mz_PG0 232 = some (9, ⟨"KeptHouse$Supply", "pumpUp", "(Z)V"⟩, prog_11_method_14_code, 2, none, [], mk_232, []) := rfl
theorem cg_232_93 (hd : 0 ≤ d) (hS : mz_extR S 232) (hR : mz_rok R 232)  (s1 : Bool) (N : mz_N) {C0 : (mz_N) → Prop} (hr : ∀ (N2 : mz_N), C0 N2 → Q (.inl none) (mz_k S R N2 b t)) (hp : cp_232_93 s1 N) (hC : C0 (cf_232_93 s1 N)) : mz_G (d, mz_X0 L xs, none, [], mk_232, 2, Q) 93 mt_232_93 [] [.int (mz_b01 s1), .ref 56] false (mz_k S R N b t) := by
  unfold cf_232_93 at hC
  unfold cp_232_93 at hp
  refine g_putZ (z := s1) (mz_at hS (Nat.le_of_ble_eq_true rfl) mzcS_56) mzcf_9_8 ?_
  exact g_vret rfl (hr _ hC)
theorem cg_232_77 (hd : 0 ≤ d) (hS : mz_extR S 232) (hR : mz_rok R 232)  (N : mz_N) {C0 : (mz_N) → Prop} (hr : ∀ (N2 : mz_N), C0 N2 → Q (.inl none) (mz_k S R N2 b t)) (hp : cp_232_77 N) (hC : C0 (cf_232_77 N)) : mz_G (d, mz_X0 L xs, none, [], mk_232, 2, Q) 77 mt_232_77 [(0, .ref 56)] [] false (mz_k S R N b t) := by
  unfold cf_232_77 at hC
  unfold cp_232_77 at hp
  refine g_aload_n rfl (g_aload_n rfl (g_getI (mz_at hS (Nat.le_of_ble_eq_true rfl) mzcS_56) mzcf_9_7 (g_sipush mzs_2000 ?_)))
  refine g_icge (tg := 92) rfl ms_232_92 hC (fun h1 hC => ?_) (fun h1 hC => ?_)
  · have hp := hp.1 h1
    refine g_iconst mzi_1 (g_goto (tg := 93) rfl ms_232_93 ?_)
    refine g_weak ?_ (g_cl (cg_232_93 hd hS hR true N hr hp hC))
    exact trivial
  · have hp := hp.2 h1
    refine g_iconst mzi_0 ?_
    refine g_weak ?_ (g_cl (cg_232_93 hd hS hR false N hr hp hC))
    exact trivial
theorem cg_232_50 (hd : 0 ≤ d) (hS : mz_extR S 232) (hR : mz_rok R 232)  (s1 : Bool) (N : mz_N) {C0 : (mz_N) → Prop} (hr : ∀ (N2 : mz_N), C0 N2 → Q (.inl none) (mz_k S R N2 b t)) (hp : cp_232_50 s1 N) (hC : C0 (cf_232_50 s1 N)) : mz_G (d, mz_X0 L xs, none, [], mk_232, 2, Q) 50 mt_232_50 [(0, .ref 56)] [.int (mz_b01 s1), .ref 56] false (mz_k S R N b t) := by
  unfold cf_232_50 at hC
  unfold cp_232_50 at hp
  refine g_putZ (z := s1) (mz_at hS (Nat.le_of_ble_eq_true rfl) mzcS_56) mzcf_9_9 (g_aload_n rfl ?_)
  obtain ⟨h1, hp⟩ := hp
  refine g_getZ (mz_at hS (Nat.le_of_ble_eq_true rfl) mzcS_56) mzcf_9_9 h1 ?_
  refine g_zeq (tg := 96) rfl ms_232_96 hC (fun h2 hC => ?_) (fun h2 hC => ?_)
  · have hp := hp.1 h2
    refine g_aload_n rfl (g_sipush mzs_2000 (g_aload_n rfl (g_getI (mz_at hS (Nat.le_of_ble_eq_true rfl) mzcS_56) mzcf_9_7 (g_bipush mzb_60 (g_iadd (g_imin (Nat.le_of_ble_eq_true rfl) (g_putI (mz_at hS (Nat.le_of_ble_eq_true rfl) mzcS_56) mzcf_9_7 ?_)))))))
    refine g_weak ?_ (g_cl (cg_232_77 hd hS hR (mz_pI (mz_pI N 56 9 (mz_b01 s1)) 56 7 (mz_imin 2000 (((mz_pI N 56 9 (mz_b01 s1)).1 56 7) + 60))) hr hp hC))
    exact ⟨rfl, trivial⟩
  · have hp := hp.2 h2
    exact g_vret rfl (hr _ hC)
theorem cg_232_49 (hd : 0 ≤ d) (hS : mz_extR S 232) (hR : mz_rok R 232)  (N : mz_N) {C0 : (mz_N) → Prop} (hr : ∀ (N2 : mz_N), C0 N2 → Q (.inl none) (mz_k S R N2 b t)) (hp : cp_232_49 N) (hC : C0 (cf_232_49 N)) : mz_G (d, mz_X0 L xs, none, [], mk_232, 2, Q) 49 mt_232_49 [(0, .ref 56)] [.ref 56] false (mz_k S R N b t) := by
  unfold cf_232_49 at hC
  unfold cp_232_49 at hp
  refine g_iconst mzi_0 ?_
  refine g_weak ?_ (g_cl (cg_232_50 hd hS hR false N hr hp hC))
  exact ⟨rfl, trivial⟩
theorem cg_232_23 (hd : 0 ≤ d) (hS : mz_extR S 232) (hR : mz_rok R 232)  (s1 : Bool) (v1 : Bool) (N : mz_N) {C0 : (mz_N) → Prop} (hr : ∀ (N2 : mz_N), C0 N2 → Q (.inl none) (mz_k S R N2 b t)) (hp : cp_232_23 s1 v1 N) (hC : C0 (cf_232_23 s1 v1 N)) : mz_G (d, mz_X0 L xs, none, [], mk_232, 2, Q) 23 mt_232_23 [(0, .ref 56), (1, .int (mz_b01 v1))] [.int (mz_b01 s1), .ref 56] true (mz_k S R N b t) := by
  unfold cf_232_23 at hC
  unfold cp_232_23 at hp
  refine g_putZ (z := s1) (mz_at hS (Nat.le_of_ble_eq_true rfl) mzcS_56) mzcf_9_8 (g_aload_n rfl (g_aload_n rfl ?_))
  obtain ⟨h1, hp⟩ := hp
  refine g_getZ (mz_at hS (Nat.le_of_ble_eq_true rfl) mzcS_56) mzcf_9_8 h1 ?_
  refine g_zeq (tg := 49) rfl ms_232_49 hC (fun h2 hC => ?_) (fun h2 hC => ?_)
  · have hp := hp.1 h2
    refine g_iload_n rfl ?_
    refine g_zeq (tg := 49) rfl ms_232_49 hC (fun h3 hC => ?_) (fun h3 hC => ?_)
    · have hp := hp.1 h3
      refine g_aload_n rfl ?_
      obtain ⟨h4, hp⟩ := hp
      refine g_getZ (mz_at hS (Nat.le_of_ble_eq_true rfl) mzcS_56) mzcf_9_6 h4 ?_
      refine g_zeq (tg := 49) rfl ms_232_49 hC (fun h5 hC => ?_) (fun h5 hC => ?_)
      · have hp := hp.1 h5
        refine g_iconst mzi_1 (g_goto (tg := 50) rfl ms_232_50 ?_)
        refine g_weak ?_ (g_cl (cg_232_50 hd hS hR true (mz_pI N 56 8 (mz_b01 s1)) hr hp hC))
        exact ⟨rfl, trivial⟩
      · have hp := hp.2 h5
        refine g_weak ?_ (g_cl (cg_232_49 hd hS hR (mz_pI N 56 8 (mz_b01 s1)) hr hp hC))
        exact ⟨rfl, trivial⟩
    · have hp := hp.2 h3
      refine g_weak ?_ (g_cl (cg_232_49 hd hS hR (mz_pI N 56 8 (mz_b01 s1)) hr hp hC))
      exact ⟨rfl, trivial⟩
  · have hp := hp.2 h2
    refine g_weak ?_ (g_cl (cg_232_49 hd hS hR (mz_pI N 56 8 (mz_b01 s1)) hr hp hC))
    exact ⟨rfl, trivial⟩
theorem cg_232_18 (hd : 0 ≤ d) (hS : mz_extR S 232) (hR : mz_rok R 232)  (v1 : Bool) (N : mz_N) {C0 : (mz_N) → Prop} (hr : ∀ (N2 : mz_N), C0 N2 → Q (.inl none) (mz_k S R N2 b t)) (hp : cp_232_18 v1 N) (hC : C0 (cf_232_18 v1 N)) : mz_G (d, mz_X0 L xs, none, [], mk_232, 2, Q) 18 mt_232_18 [(0, .ref 56), (1, .int (mz_b01 v1))] [.ref 56] true (mz_k S R N b t) := by
  unfold cf_232_18 at hC
  unfold cp_232_18 at hp
  refine g_iconst mzi_1 (g_goto (tg := 23) rfl ms_232_23 ?_)
  refine g_weak ?_ (cg_232_23 hd hS hR true v1 N hr hp hC)
  exact ⟨rfl, rfl, trivial⟩
theorem cg_232_0 (hd : 0 ≤ d) (hS : mz_extR S 232) (hR : mz_rok R 232)  (v1 : Bool) (N : mz_N) {C0 : (mz_N) → Prop} (hr : ∀ (N2 : mz_N), C0 N2 → Q (.inl none) (mz_k S R N2 b t)) (hp : cp_232_0 v1 N) (hC : C0 (cf_232_0 v1 N)) : mz_G (d, mz_X0 L xs, none, [], mk_232, 2, Q) 0 mk_232 [(0, .ref 56), (1, .int (mz_b01 v1))] [] true (mz_k S R N b t) := by
  unfold cf_232_0 at hC
  unfold cp_232_0 at hp
  refine g_aload_n rfl (g_aload_n rfl ?_)
  obtain ⟨h1, hp⟩ := hp
  refine g_getZ (mz_at hS (Nat.le_of_ble_eq_true rfl) mzcS_56) mzcf_9_8 h1 ?_
  refine g_zne (tg := 18) rfl ms_232_18 hC (fun h2 hC => ?_) (fun h2 hC => ?_)
  · have hp := hp.1 h2
    refine g_weak ?_ (cg_232_18 hd hS hR v1 N hr hp hC)
    exact ⟨rfl, rfl, trivial⟩
  · have hp := hp.2 h2
    refine g_aload_n rfl (g_getI (mz_at hS (Nat.le_of_ble_eq_true rfl) mzcS_56) mzcf_9_7 (g_sipush mzs_500 ?_))
    refine g_icge (tg := 22) rfl ms_232_22 hC (fun h3 hC => ?_) (fun h3 hC => ?_)
    · have hp := hp.1 h3
      refine g_weak ?_ (cg_232_18 hd hS hR v1 N hr hp hC)
      exact ⟨rfl, rfl, trivial⟩
    · have hp := hp.2 h3
      refine g_iconst mzi_0 ?_
      refine g_weak ?_ (cg_232_23 hd hS hR false v1 N hr hp hC)
      exact ⟨rfl, rfl, trivial⟩
theorem cs_232 (hd : 1 ≤ d) (hS : mz_extR S 232) (hR : mz_rok R 232)  (v1 : Bool) (N : mz_N) (hp : cp_232_0 v1 N) (hq : Q (.inl none) (mz_k S R (cf_232_0 v1 N) b t)) : mz_Ed (mz_X0 L xs) d 232 [.ref 56, .int (mz_b01 v1)] (mz_k S R N b t) Q :=
  by
  refine g_in mzq_232 (Nat.le_of_ble_eq_true rfl) (Nat.le_of_ble_eq_true rfl) (Nat.le_trans (Nat.le_of_ble_eq_true rfl) hd) ?_
  refine g_weak ?_ (cg_232_0 (d := d - 1) (by omega) hS hR v1 N (C0 := fun z => Q (.inl none) (mz_k S R z b t)) (fun _ h => h) hp hq)
  exact ⟨rfl, rfl, trivial⟩
/-! 229 KeptHouse.supplyWater (I)V -/
theorem ms_229_0 : mz_sf mk_229 0 = mk_229 := mz_sf_zero _
theorem ms_229_10 : mz_sf mk_229 10 = mt_229_10 := mz_sf_add ms_229_0 (t := 10) rfl rfl
theorem ms_229_54 : mz_sf mk_229 54 = mt_229_54 := mz_sf_add ms_229_10 (t := 44) rfl rfl
theorem ms_229_60 : mz_sf mk_229 60 = mt_229_60 := mz_sf_add ms_229_54 (t := 6) rfl rfl
theorem ms_229_90 : mz_sf mk_229 90 = mt_229_90 := mz_sf_add ms_229_60 (t := 30) rfl rfl
theorem ms_229_91 : mz_sf mk_229 91 = mt_229_91 := mz_sf_add ms_229_90 (t := 1) rfl rfl
theorem ms_229_123 : mz_sf mk_229 123 = mt_229_123 := mz_sf_add ms_229_91 (t := 32) rfl rfl
theorem ms_229_124 : mz_sf mk_229 124 = mt_229_124 := mz_sf_add ms_229_123 (t := 1) rfl rfl
set_option maxRecDepth 100000 in
theorem mzq_229 : mz_PG0 229 = some (11, ⟨"KeptHouse", "supplyWater", "(I)V"⟩, prog_1_method_78_code, 3, none, [], mk_229, []) := rfl
theorem cg_229_124 (hd : 2 ≤ d) (hS : mz_extR S 232) (hR : mz_rok R 232)  (s1 : Int32) (N : mz_N) {C0 : (mz_N) → Prop} (hr : ∀ (N2 : mz_N), C0 N2 → Q (.inl none) (mz_k S R N2 b t)) (hp : cp_229_124 s1 N) (hC : C0 (cf_229_124 s1 N)) : mz_G (d, mz_X0 L xs, none, [], mk_229, 3, Q) 124 mt_229_124 [] [.int s1, .ref 56] false (mz_k S R N b t) := by
  unfold cf_229_124 at hC
  unfold cp_229_124 at hp
  refine g_putI (mz_at hS (Nat.le_of_ble_eq_true rfl) mzcS_56) mzcf_9_12 ?_
  exact g_vret rfl (hr _ hC)
theorem cg_229_91 (hd : 2 ≤ d) (hS : mz_extR S 232) (hR : mz_rok R 232)  (s1 : Bool) (N : mz_N) {C0 : (mz_N) → Prop} (hr : ∀ (N2 : mz_N), C0 N2 → Q (.inl none) (mz_k S R N2 b t)) (hp : cp_229_91 s1 N) (hC : C0 (cf_229_91 s1 N)) : mz_G (d, mz_X0 L xs, none, [], mk_229, 3, Q) 91 mt_229_91 [(0, .ref 0)] [.int (mz_b01 s1), .ref 56] false (mz_k S R N b t) := by
  unfold cf_229_91 at hC
  unfold cp_229_91 at hp
  obtain ⟨h1, hp⟩ := hp
  refine g_v2n (Nat.le_of_ble_eq_true rfl) (mz_at hS (Nat.le_of_ble_eq_true rfl) mzcS_56) (fun _ hq => cs_232 (Nat.le_trans (Nat.le_of_ble_eq_true rfl) hd) (hS.le (Nat.le_of_ble_eq_true rfl)) (hR.le (Nat.le_of_ble_eq_true rfl))  s1 N h1 hq) (g_aload_n rfl (g_getR (mz_at hS (Nat.le_of_ble_eq_true rfl) mzcS_0) mzcf_11_3 (mz_rb hR (Nat.le_of_ble_eq_true rfl) rfl mzcR_0_3) (g_aload_n rfl (g_getR (mz_at hS (Nat.le_of_ble_eq_true rfl) mzcS_0) mzcf_11_3 (mz_rb hR (Nat.le_of_ble_eq_true rfl) rfl mzcR_0_3) (g_getI (mz_at hS (Nat.le_of_ble_eq_true rfl) mzcS_56) mzcf_9_11 (g_sipush mzs_5000 ?_))))))
  refine g_icge (tg := 123) rfl ms_229_123 hC (fun h2 hC => ?_) (fun h2 hC => ?_)
  · have hp := hp.1 h2
    refine g_aload_n rfl (g_getR (mz_at hS (Nat.le_of_ble_eq_true rfl) mzcS_0) mzcf_11_3 (mz_rb hR (Nat.le_of_ble_eq_true rfl) rfl mzcR_0_3) (g_getI (mz_at hS (Nat.le_of_ble_eq_true rfl) mzcS_56) mzcf_9_12 (g_iconst mzi_1 (g_iadd (g_goto (tg := 124) rfl ms_229_124 ?_)))))
    refine g_weak ?_ (g_cl (cg_229_124 hd hS hR (((cf_232_0 s1 N).1 56 12) + 1) (cf_232_0 s1 N) hr hp hC))
    exact trivial
  · have hp := hp.2 h2
    refine g_iconst mzi_0 ?_
    refine g_weak ?_ (g_cl (cg_229_124 hd hS hR 0 (cf_232_0 s1 N) hr hp hC))
    exact trivial
theorem cg_229_90 (hd : 2 ≤ d) (hS : mz_extR S 232) (hR : mz_rok R 232)  (N : mz_N) {C0 : (mz_N) → Prop} (hr : ∀ (N2 : mz_N), C0 N2 → Q (.inl none) (mz_k S R N2 b t)) (hp : cp_229_90 N) (hC : C0 (cf_229_90 N)) : mz_G (d, mz_X0 L xs, none, [], mk_229, 3, Q) 90 mt_229_90 [(0, .ref 0)] [.ref 56] false (mz_k S R N b t) := by
  unfold cf_229_90 at hC
  unfold cp_229_90 at hp
  refine g_iconst mzi_0 ?_
  refine g_weak ?_ (g_cl (cg_229_91 hd hS hR false N hr hp hC))
  exact ⟨rfl, trivial⟩
theorem cg_229_54 (hd : 2 ≤ d) (hS : mz_extR S 232) (hR : mz_rok R 232)  (v1 : Int32) (v2 : Int32) (N : mz_N) {C0 : (mz_N) → Prop} (hr : ∀ (N2 : mz_N), C0 N2 → Q (.inl none) (mz_k S R N2 b t)) {C1 : ((Int32 × mz_N) ⊕ (mz_N)) → Prop} (hc1 : ∀ s2, C1 (.inl s2) → mz_G (d, mz_X0 L xs, none, [], mk_229, 3, Q) 10 mt_229_10 [(0, .ref 0), (1, .int v1), (2, .int s2.1)] [] false (mz_k S R s2.2 b t)) (hx1 : ∀ z, C1 (.inr z) → C0 z) (hp : cp_229_54 v1 v2 N) (hC : C1 (cf_229_54 v1 v2 N)) : mz_G (d, mz_X0 L xs, none, [], mk_229, 3, Q) 54 mt_229_54 [(0, .ref 0), (1, .int v1), (2, .int v2)] [] false (mz_k S R N b t) := by
  unfold cf_229_54 at hC
  unfold cp_229_54 at hp
  refine g_iinc rfl mzi_1 (Nat.le_of_ble_eq_true rfl) rfl (g_goto (tg := 10) rfl ms_229_10 ?_)
  refine g_weak ?_ (g_cl (hc1 ((v2 + 1), N) hC))
  exact ⟨rfl, rfl, rfl, trivial⟩
theorem cb_229_10 (hd : 2 ≤ d) (hS : mz_extR S 232) (hR : mz_rok R 232)  (v1 : Int32) (s : Int32 × mz_N) {C0 : (mz_N) → Prop} (hr : ∀ (N2 : mz_N), C0 N2 → Q (.inl none) (mz_k S R N2 b t)) {C1 : ((Int32 × mz_N) ⊕ (mz_N)) → Prop} (hc1 : ∀ s2, C1 (.inl s2) → mz_G (d, mz_X0 L xs, none, [], mk_229, 3, Q) 10 mt_229_10 [(0, .ref 0), (1, .int v1), (2, .int s2.1)] [] false (mz_k S R s2.2 b t)) (hx1 : ∀ z, C1 (.inr z) → C0 z) (hp : cd_229_10 v1 s) (hC : C1 (cq_229_10 v1 s)) : mz_G (d, mz_X0 L xs, none, [], mk_229, 3, Q) 10 mt_229_10 [(0, .ref 0), (1, .int v1), (2, .int s.1)] [] false (mz_k S R s.2 b t) := by
  unfold cq_229_10 at hC
  unfold cd_229_10 at hp
  refine g_iload_n rfl (g_bipush mzb_10 ?_)
  refine g_icge (tg := 60) rfl ms_229_60 hC (fun h1 hC => ?_) (fun h1 hC => ?_)
  · have hp := hp.1 h1
    refine g_aload_n rfl (g_getR (mz_at hS (Nat.le_of_ble_eq_true rfl) mzcS_0) mzcf_11_8 (mz_rb hR (Nat.le_of_ble_eq_true rfl) rfl mzcR_0_8) (g_getR (mz_at hS (Nat.le_of_ble_eq_true rfl) mzcS_208) mzcf_1_5 (mz_rb hR (Nat.le_of_ble_eq_true rfl) rfl mzcR_208_5) (g_iconst mzi_2 (g_aald4 (m := 212) (mz_at hS (Nat.le_of_ble_eq_true rfl) mzcS_209) (mz_ibd (by decide)) (mz_rb hR (Nat.le_of_ble_eq_true rfl) rfl mzcRr_209_2) (g_iload_n rfl (g_dup2 rfl rfl ?_))))))
    obtain ⟨h2, hp⟩ := hp
    refine g_iald hS.1 (mz_at hS (Nat.le_of_ble_eq_true rfl) mzcS_212) h2 (g_aload_n rfl (g_getR (mz_at hS (Nat.le_of_ble_eq_true rfl) mzcS_0) mzcf_11_3 (mz_rb hR (Nat.le_of_ble_eq_true rfl) rfl mzcR_0_3) (g_iload_n rfl (g_aload_n rfl (g_getR (mz_at hS (Nat.le_of_ble_eq_true rfl) mzcS_0) mzcf_11_1 (mz_rb hR (Nat.le_of_ble_eq_true rfl) rfl mzcR_0_1) (g_iload_n rfl (g_iload_n rfl ?_)))))))
    obtain ⟨h3, hp⟩ := hp
    refine g_v3v (Nat.le_of_ble_eq_true rfl) (mz_at hS (Nat.le_of_ble_eq_true rfl) mzcS_2) (fun _ hq => cs_221 (Nat.le_trans (Nat.le_of_ble_eq_true rfl) hd) (hS.le (Nat.le_of_ble_eq_true rfl)) (hR.le (Nat.le_of_ble_eq_true rfl))  s.1 v1 s.2 h3 hq) (g_aload_n rfl (g_getR (mz_at hS (Nat.le_of_ble_eq_true rfl) mzcS_0) mzcf_11_8 (mz_rb hR (Nat.le_of_ble_eq_true rfl) rfl mzcR_0_8) (g_getI (mz_at hS (Nat.le_of_ble_eq_true rfl) mzcS_208) mzcf_1_0 ?_)))
    obtain ⟨h4, hp⟩ := hp
    refine g_v4v (Nat.le_of_ble_eq_true rfl) (mz_at hS (Nat.le_of_ble_eq_true rfl) mzcS_56) (fun _ hq => cs_230 (Nat.le_trans (Nat.le_of_ble_eq_true rfl) hd) (hS.le (Nat.le_of_ble_eq_true rfl)) (hR.le (Nat.le_of_ble_eq_true rfl))  s.1 (cf_221_0 s.1 v1 s.2) (s.2.1 208 0) s.2 h4 hq) (g_iadd ?_)
    obtain ⟨h5, hp⟩ := hp
    refine g_iast (mz_at hS (Nat.le_of_ble_eq_true rfl) mzcS_212) h5 ?_
    refine g_weak ?_ (g_cl (cg_229_54 hd hS hR v1 s.1 (mz_wI ((cf_230_0 s.1 (cf_221_0 s.1 v1 s.2) (s.2.1 208 0) s.2).2) 212 s.1 ((mz_gI s.2 212 s.1) + ((cf_230_0 s.1 (cf_221_0 s.1 v1 s.2) (s.2.1 208 0) s.2).1))) hr hc1 hx1 hp hC))
    exact ⟨rfl, rfl, rfl, trivial⟩
  · have hp := hp.2 h1
    refine g_aload_n rfl (g_getR (mz_at hS (Nat.le_of_ble_eq_true rfl) mzcS_0) mzcf_11_3 (mz_rb hR (Nat.le_of_ble_eq_true rfl) rfl mzcR_0_3) (g_aload_n rfl (g_getR (mz_at hS (Nat.le_of_ble_eq_true rfl) mzcS_0) mzcf_11_10 (mz_rb hR (Nat.le_of_ble_eq_true rfl) rfl mzcR_0_10) (g_bipush mzb_12 (g_iald hS.1 (mz_at hS (Nat.le_of_ble_eq_true rfl) mzcS_53) (mz_ibd (by decide)) (g_iconst mzi_1 ?_))))))
    refine g_icne (tg := 90) rfl ms_229_90 hC (fun h6 hC => ?_) (fun h6 hC => ?_)
    · have hp := hp.1 h6
      refine g_aload_n rfl (g_getR (mz_at hS (Nat.le_of_ble_eq_true rfl) mzcS_0) mzcf_11_7 (mz_rb hR (Nat.le_of_ble_eq_true rfl) rfl mzcR_0_7) (g_iconst mzi_1 ?_))
      obtain ⟨h7, hp⟩ := hp
      refine g_v2v (Nat.le_of_ble_eq_true rfl) (mz_at hS (Nat.le_of_ble_eq_true rfl) mzcS_115) (fun _ hq => cs_224 (Nat.le_trans (Nat.le_of_ble_eq_true rfl) hd) (hS.le (Nat.le_of_ble_eq_true rfl)) (hR.le (Nat.le_of_ble_eq_true rfl))  1 s.2 h7 hq) ?_
      refine g_zeq (tg := 90) rfl ms_229_90 hC (fun h8 hC => ?_) (fun h8 hC => ?_)
      · have hp := hp.1 h8
        refine g_iconst mzi_1 (g_goto (tg := 91) rfl ms_229_91 ?_)
        refine g_weak ?_ (g_cl (cg_229_91 hd hS hR true s.2 hr hp (hx1 _ hC)))
        exact ⟨rfl, trivial⟩
      · have hp := hp.2 h8
        refine g_weak ?_ (g_cl (cg_229_90 hd hS hR s.2 hr hp (hx1 _ hC)))
        exact ⟨rfl, trivial⟩
    · have hp := hp.2 h6
      refine g_weak ?_ (g_cl (cg_229_90 hd hS hR s.2 hr hp (hx1 _ hC)))
      exact ⟨rfl, trivial⟩
theorem cg_229_10 (hd : 2 ≤ d) (hS : mz_extR S 232) (hR : mz_rok R 232)  (v1 : Int32) (v2 : Int32) (N : mz_N) {C0 : (mz_N) → Prop} (hr : ∀ (N2 : mz_N), C0 N2 → Q (.inl none) (mz_k S R N2 b t)) (hp : cp_229_10 v1 v2 N) (hC : C0 (cf_229_10 v1 v2 N)) : mz_G (d, mz_X0 L xs, none, [], mk_229, 3, Q) 10 mt_229_10 [(0, .ref 0), (1, .int v1), (2, .int v2)] [] false (mz_k S R N b t) := by
  obtain ⟨n, hn⟩ := hp
  exact g_loop (G := fun s => mz_G (d, mz_X0 L xs, none, [], mk_229, 3, Q) 10 mt_229_10 [(0, .ref 0), (1, .int v1), (2, .int s.1)] [] false (mz_k S R s.2 b t)) (C := C0) (fun C2 hc hx s hP hC => cb_229_10 hd hS hR v1 s hr hc hx hP hC) n (v2, N) hn hC
theorem cg_229_0 (hd : 2 ≤ d) (hS : mz_extR S 232) (hR : mz_rok R 232)  (v1 : Int32) (N : mz_N) {C0 : (mz_N) → Prop} (hr : ∀ (N2 : mz_N), C0 N2 → Q (.inl none) (mz_k S R N2 b t)) (hp : cp_229_0 v1 N) (hC : C0 (cf_229_0 v1 N)) : mz_G (d, mz_X0 L xs, none, [], mk_229, 3, Q) 0 mk_229 [(0, .ref 0), (1, .int v1)] [] true (mz_k S R N b t) := by
  unfold cf_229_0 at hC
  unfold cp_229_0 at hp
  refine g_aload_n rfl (g_getR (mz_at hS (Nat.le_of_ble_eq_true rfl) mzcS_0) mzcf_11_3 (mz_rb hR (Nat.le_of_ble_eq_true rfl) rfl mzcR_0_3) (g_iconst mzi_0 (g_putZ (z := false) (mz_at hS (Nat.le_of_ble_eq_true rfl) mzcS_56) mzcf_9_10 (g_iconst mzi_0 (g_istore_n (Nat.le_of_ble_eq_true rfl) rfl ?_)))))
  refine g_weak ?_ (g_cl (cg_229_10 hd hS hR v1 0 (mz_pI N 56 10 (mz_b01 false)) hr hp hC))
  exact ⟨rfl, rfl, rfl, trivial⟩
theorem cs_229 (hd : 3 ≤ d) (hS : mz_extR S 232) (hR : mz_rok R 232)  (v1 : Int32) (N : mz_N) (hp : cp_229_0 v1 N) (hq : Q (.inl none) (mz_k S R (cf_229_0 v1 N) b t)) : mz_Ed (mz_X0 L xs) d 229 [.ref 0, .int v1] (mz_k S R N b t) Q :=
  by
  refine g_in mzq_229 (Nat.le_of_ble_eq_true rfl) (Nat.le_of_ble_eq_true rfl) (Nat.le_trans (Nat.le_of_ble_eq_true rfl) hd) ?_
  refine g_weak ?_ (cg_229_0 (d := d - 1) (by omega) hS hR v1 N (C0 := fun z => Q (.inl none) (mz_k S R z b t)) (fun _ h => h) hp hq)
  exact ⟨rfl, rfl, trivial⟩
/-! 235 KeptHouse$Climate.gather (LKeptHouse$Plan;[J)V -/
theorem ms_235_0 : mz_sf mk_235 0 = mk_235 := mz_sf_zero _
theorem ms_235_2 : mz_sf mk_235 2 = mt_235_2 := mz_sf_add ms_235_0 (t := 2) rfl rfl
theorem ms_235_23 : mz_sf mk_235 23 = mt_235_23 := mz_sf_add ms_235_2 (t := 21) rfl rfl
theorem ms_235_29 : mz_sf mk_235 29 = mt_235_29 := mz_sf_add ms_235_23 (t := 6) rfl rfl
set_option maxRecDepth 100000 in
theorem mzq_235 : mz_PG0 235 = some (3, ⟨"KeptHouse$Climate", "gather", "(LKeptHouse$Plan;[J)V"⟩, prog_5_method_11_code, 4, none, [], mk_235, []) := rfl
theorem cb_235_2 (hd : 1 ≤ d) (hS : mz_extR S 232) (hR : mz_rok R 232) (a2 : Nat) (hs2 : S[a2]? = some (1, 240, []))  (s : Int32 × mz_N) {C0 : (mz_N) → Prop} (hr : ∀ (N2 : mz_N), C0 N2 → Q (.inl none) (mz_k S R N2 b t)) {C1 : ((Int32 × mz_N) ⊕ (mz_N)) → Prop} (hc1 : ∀ s2, C1 (.inl s2) → mz_G (d, mz_X0 L xs, none, [], mk_235, 4, Q) 2 mt_235_2 [(0, .ref 65), (1, .ref 2), (2, .ref a2), (3, .int s2.1)] [] false (mz_k S R s2.2 b t)) (hx1 : ∀ z, C1 (.inr z) → C0 z) (hp : cd_235_2 a2 s) (hC : C1 (cq_235_2 a2 s)) : mz_G (d, mz_X0 L xs, none, [], mk_235, 4, Q) 2 mt_235_2 [(0, .ref 65), (1, .ref 2), (2, .ref a2), (3, .int s.1)] [] false (mz_k S R s.2 b t) := by
  unfold cq_235_2 at hC
  unfold cd_235_2 at hp
  refine g_iload_n rfl (g_aload_n rfl (g_getI (mz_at hS (Nat.le_of_ble_eq_true rfl) mzcS_2) mzcf_5_7 ?_))
  refine g_icge (tg := 29) rfl ms_235_29 hC (fun h1 hC => ?_) (fun h1 hC => ?_)
  · have hp := hp.1 h1
    refine g_aload_n rfl (g_getR (mz_at hS (Nat.le_of_ble_eq_true rfl) mzcS_65) mzcf_3_9 (mz_rb hR (Nat.le_of_ble_eq_true rfl) rfl mzcR_65_9) (g_iload_n rfl (g_aload_n rfl (g_aload_n rfl (g_aload_n rfl (g_iload_n rfl ?_))))))
    obtain ⟨h2, hp⟩ := hp
    refine g_v4v (Nat.le_of_ble_eq_true rfl) (mz_at hS (Nat.le_of_ble_eq_true rfl) mzcS_65) (fun _ hq => cs_158 (Nat.le_trans (Nat.le_of_ble_eq_true rfl) hd) (hS.le (Nat.le_of_ble_eq_true rfl)) (hR.le (Nat.le_of_ble_eq_true rfl)) a2 hs2 s.1 s.2 h2 hq) ?_
    have h3 := hp
    refine g_last (mz_at hS (Nat.le_of_ble_eq_true rfl) mzcS_74) h3 (g_iinc rfl mzi_1 (Nat.le_of_ble_eq_true rfl) rfl (g_goto (tg := 2) rfl ms_235_2 ?_))
    refine g_weak ?_ (g_cl (hc1 ((s.1 + 1), mz_wL s.2 74 s.1 (cf_158_0 a2 s.1 s.2)) hC))
    exact ⟨rfl, rfl, rfl, rfl, trivial⟩
  · have hp := hp.2 h1
    exact g_vret rfl (hr _ (hx1 _ hC))
theorem cg_235_2 (hd : 1 ≤ d) (hS : mz_extR S 232) (hR : mz_rok R 232) (a2 : Nat) (hs2 : S[a2]? = some (1, 240, [])) (v3 : Int32) (N : mz_N) {C0 : (mz_N) → Prop} (hr : ∀ (N2 : mz_N), C0 N2 → Q (.inl none) (mz_k S R N2 b t)) (hp : cp_235_2 a2 v3 N) (hC : C0 (cf_235_2 a2 v3 N)) : mz_G (d, mz_X0 L xs, none, [], mk_235, 4, Q) 2 mt_235_2 [(0, .ref 65), (1, .ref 2), (2, .ref a2), (3, .int v3)] [] false (mz_k S R N b t) := by
  obtain ⟨n, hn⟩ := hp
  exact g_loop (G := fun s => mz_G (d, mz_X0 L xs, none, [], mk_235, 4, Q) 2 mt_235_2 [(0, .ref 65), (1, .ref 2), (2, .ref a2), (3, .int s.1)] [] false (mz_k S R s.2 b t)) (C := C0) (fun C2 hc hx s hP hC => cb_235_2 hd hS hR a2 hs2 s hr hc hx hP hC) n (v3, N) hn hC
theorem cg_235_0 (hd : 1 ≤ d) (hS : mz_extR S 232) (hR : mz_rok R 232) (a2 : Nat) (hs2 : S[a2]? = some (1, 240, [])) (N : mz_N) {C0 : (mz_N) → Prop} (hr : ∀ (N2 : mz_N), C0 N2 → Q (.inl none) (mz_k S R N2 b t)) (hp : cp_235_0 a2 N) (hC : C0 (cf_235_0 a2 N)) : mz_G (d, mz_X0 L xs, none, [], mk_235, 4, Q) 0 mk_235 [(0, .ref 65), (1, .ref 2), (2, .ref a2)] [] true (mz_k S R N b t) := by
  unfold cf_235_0 at hC
  unfold cp_235_0 at hp
  refine g_iconst mzi_0 (g_istore_n (Nat.le_of_ble_eq_true rfl) rfl ?_)
  refine g_weak ?_ (g_cl (cg_235_2 hd hS hR a2 hs2 0 N hr hp hC))
  exact ⟨rfl, rfl, rfl, rfl, trivial⟩
theorem cs_235 (hd : 2 ≤ d) (hS : mz_extR S 232) (hR : mz_rok R 232) (a2 : Nat) (hs2 : S[a2]? = some (1, 240, [])) (N : mz_N) (hp : cp_235_0 a2 N) (hq : Q (.inl none) (mz_k S R (cf_235_0 a2 N) b t)) : mz_Ed (mz_X0 L xs) d 235 [.ref 65, .ref 2, .ref a2] (mz_k S R N b t) Q :=
  by
  refine g_in mzq_235 (Nat.le_of_ble_eq_true rfl) (Nat.le_of_ble_eq_true rfl) (Nat.le_trans (Nat.le_of_ble_eq_true rfl) hd) ?_
  refine g_weak ?_ (cg_235_0 (d := d - 1) (by omega) hS hR a2 hs2 N (C0 := fun z => Q (.inl none) (mz_k S R z b t)) (fun _ h => h) hp hq)
  exact ⟨rfl, rfl, rfl, trivial⟩
/-! 236 KeptHouse$Climate.measureWarmths (LKeptHouse$Plan;)V -/
theorem ms_236_0 : mz_sf mk_236 0 = mk_236 := mz_sf_zero _
theorem ms_236_2 : mz_sf mk_236 2 = mt_236_2 := mz_sf_add ms_236_0 (t := 2) rfl rfl
theorem ms_236_35 : mz_sf mk_236 35 = mt_236_35 := mz_sf_add ms_236_2 (t := 33) rfl rfl
theorem ms_236_41 : mz_sf mk_236 41 = mt_236_41 := mz_sf_add ms_236_35 (t := 6) rfl rfl
set_option maxRecDepth 100000 in
theorem mzq_236 : mz_PG0 236 = some (3, ⟨"KeptHouse$Climate", "measureWarmths", "(LKeptHouse$Plan;)V"⟩, prog_5_method_13_code, 3, none, [], mk_236, []) := rfl
theorem cb_236_2 (hd : 2 ≤ d) (hS : mz_extR S 232) (hR : mz_rok R 232)   (s : Int32 × mz_N) {C0 : (mz_N) → Prop} (hr : ∀ (N2 : mz_N), C0 N2 → Q (.inl none) (mz_k S R N2 b t)) {C1 : ((Int32 × mz_N) ⊕ (mz_N)) → Prop} (hc1 : ∀ s2, C1 (.inl s2) → mz_G (d, mz_X0 L xs, none, [], mk_236, 3, Q) 2 mt_236_2 [(0, .ref 65), (1, .ref 2), (2, .int s2.1)] [] false (mz_k S R s2.2 b t)) (hx1 : ∀ z, C1 (.inr z) → C0 z) (hp : cd_236_2  s) (hC : C1 (cq_236_2  s)) : mz_G (d, mz_X0 L xs, none, [], mk_236, 3, Q) 2 mt_236_2 [(0, .ref 65), (1, .ref 2), (2, .int s.1)] [] false (mz_k S R s.2 b t) := by
  unfold cq_236_2 at hC
  unfold cd_236_2 at hp
  refine g_iload_n rfl (g_aload_n rfl (g_getI (mz_at hS (Nat.le_of_ble_eq_true rfl) mzcS_2) mzcf_5_7 ?_))
  refine g_icge (tg := 41) rfl ms_236_41 hC (fun h1 hC => ?_) (fun h1 hC => ?_)
  · have hp := hp.1 h1
    refine g_aload_n rfl (g_getR (mz_at hS (Nat.le_of_ble_eq_true rfl) mzcS_65) mzcf_3_10 (mz_rb hR (Nat.le_of_ble_eq_true rfl) rfl mzcR_65_10) (g_iload_n rfl (g_aload_n rfl (g_getR (mz_at hS (Nat.le_of_ble_eq_true rfl) mzcS_65) mzcf_3_9 (mz_rb hR (Nat.le_of_ble_eq_true rfl) rfl mzcR_65_9) (g_iload_n rfl ?_)))))
    obtain ⟨h2, hp⟩ := hp
    refine g_lald (mz_at hS (Nat.le_of_ble_eq_true rfl) mzcS_74) h2 (g_bipush mzb_100 (g_aload_n rfl (g_getR (mz_at hS (Nat.le_of_ble_eq_true rfl) mzcS_2) mzcf_5_9 (mz_rb hR (Nat.le_of_ble_eq_true rfl) rfl mzcR_2_9) (g_iconst mzi_2 (g_aald4 (m := 19) (mz_at hS (Nat.le_of_ble_eq_true rfl) mzcS_16) (mz_ibd (by decide)) (mz_rb hR (Nat.le_of_ble_eq_true rfl) rfl mzcRr_16_2) (g_iload_n rfl ?_))))))
    obtain ⟨h3, hp⟩ := hp
    refine g_iald hS.1 (mz_at hS (Nat.le_of_ble_eq_true rfl) mzcS_19) h3 ?_
    obtain ⟨h4, hp⟩ := hp
    refine g_s3v (Nat.le_of_ble_eq_true rfl) (fun _ hq => cs_159 (Nat.le_trans (Nat.le_of_ble_eq_true rfl) hd) (hS.le (Nat.le_of_ble_eq_true rfl)) (hR.le (Nat.le_of_ble_eq_true rfl))  (mz_gL s.2 74 s.1) 100 (mz_gI s.2 19 s.1) h4 hq) ?_
    have h5 := hp
    refine g_last (mz_at hS (Nat.le_of_ble_eq_true rfl) mzcS_75) h5 (g_iinc rfl mzi_1 (Nat.le_of_ble_eq_true rfl) rfl (g_goto (tg := 2) rfl ms_236_2 ?_))
    refine g_weak ?_ (g_cl (hc1 ((s.1 + 1), mz_wL s.2 75 s.1 (cf_159_0 (mz_gL s.2 74 s.1) 100 (mz_gI s.2 19 s.1))) hC))
    exact ⟨rfl, rfl, rfl, trivial⟩
  · have hp := hp.2 h1
    exact g_vret rfl (hr _ (hx1 _ hC))
theorem cg_236_2 (hd : 2 ≤ d) (hS : mz_extR S 232) (hR : mz_rok R 232)  (v2 : Int32) (N : mz_N) {C0 : (mz_N) → Prop} (hr : ∀ (N2 : mz_N), C0 N2 → Q (.inl none) (mz_k S R N2 b t)) (hp : cp_236_2 v2 N) (hC : C0 (cf_236_2 v2 N)) : mz_G (d, mz_X0 L xs, none, [], mk_236, 3, Q) 2 mt_236_2 [(0, .ref 65), (1, .ref 2), (2, .int v2)] [] false (mz_k S R N b t) := by
  obtain ⟨n, hn⟩ := hp
  exact g_loop (G := fun s => mz_G (d, mz_X0 L xs, none, [], mk_236, 3, Q) 2 mt_236_2 [(0, .ref 65), (1, .ref 2), (2, .int s.1)] [] false (mz_k S R s.2 b t)) (C := C0) (fun C2 hc hx s hP hC => cb_236_2 hd hS hR  s hr hc hx hP hC) n (v2, N) hn hC
theorem cg_236_0 (hd : 2 ≤ d) (hS : mz_extR S 232) (hR : mz_rok R 232)  (N : mz_N) {C0 : (mz_N) → Prop} (hr : ∀ (N2 : mz_N), C0 N2 → Q (.inl none) (mz_k S R N2 b t)) (hp : cp_236_0 N) (hC : C0 (cf_236_0 N)) : mz_G (d, mz_X0 L xs, none, [], mk_236, 3, Q) 0 mk_236 [(0, .ref 65), (1, .ref 2)] [] true (mz_k S R N b t) := by
  unfold cf_236_0 at hC
  unfold cp_236_0 at hp
  refine g_iconst mzi_0 (g_istore_n (Nat.le_of_ble_eq_true rfl) rfl ?_)
  refine g_weak ?_ (g_cl (cg_236_2 hd hS hR 0 N hr hp hC))
  exact ⟨rfl, rfl, rfl, trivial⟩
theorem cs_236 (hd : 3 ≤ d) (hS : mz_extR S 232) (hR : mz_rok R 232)  (N : mz_N) (hp : cp_236_0 N) (hq : Q (.inl none) (mz_k S R (cf_236_0 N) b t)) : mz_Ed (mz_X0 L xs) d 236 [.ref 65, .ref 2] (mz_k S R N b t) Q :=
  by
  refine g_in mzq_236 (Nat.le_of_ble_eq_true rfl) (Nat.le_of_ble_eq_true rfl) (Nat.le_trans (Nat.le_of_ble_eq_true rfl) hd) ?_
  refine g_weak ?_ (cg_236_0 (d := d - 1) (by omega) hS hR N (C0 := fun z => Q (.inl none) (mz_k S R z b t)) (fun _ h => h) hp hq)
  exact ⟨rfl, rfl, trivial⟩
end Fn10
