/-! THE FUNCTIONS: written by program: each method comes to its function. -/
section Fn30
variable {L : Nat} {xs : Nat → Int32} {d : Nat} {S : mz_S} {R : Nat → Nat → Option Nat} {Q : mz_Q} {N : mz_N} {b : Bool} {t : Nat}
/-! 531 KeptHouseModel.air (I)V -/
theorem ms_531_0 : mz_sf mk_531 0 = mk_531 := mz_sf_zero _
theorem ms_531_23 : mz_sf mk_531 23 = mt_531_23 := mz_sf_add ms_531_0 (t := 23) rfl rfl
theorem ms_531_25 : mz_sf mk_531 25 = mt_531_25 := mz_sf_add ms_531_23 (t := 2) rfl rfl
theorem ms_531_37 : mz_sf mk_531 37 = mt_531_37 := mz_sf_add ms_531_25 (t := 12) rfl rfl
theorem ms_531_66 : mz_sf mk_531 66 = mt_531_66 := mz_sf_add ms_531_37 (t := 29) rfl rfl
theorem ms_531_85 : mz_sf mk_531 85 = mt_531_85 := mz_sf_add ms_531_66 (t := 19) rfl rfl
theorem ms_531_89 : mz_sf mk_531 89 = mt_531_89 := mz_sf_add ms_531_85 (t := 4) rfl rfl
theorem ms_531_90 : mz_sf mk_531 90 = mt_531_90 := mz_sf_add ms_531_89 (t := 1) rfl rfl
theorem ms_531_97 : mz_sf mk_531 97 = mt_531_97 := mz_sf_add ms_531_90 (t := 7) rfl rfl
theorem ms_531_138 : mz_sf mk_531 138 = mt_531_138 := mz_sf_add ms_531_97 (t := 41) rfl rfl
theorem ms_531_155 : mz_sf mk_531 155 = mt_531_155 := mz_sf_add ms_531_138 (t := 17) rfl rfl
theorem ms_531_156 : mz_sf mk_531 156 = mt_531_156 := mz_sf_add ms_531_155 (t := 1) rfl rfl
theorem ms_531_179 : mz_sf mk_531 179 = mt_531_179 := mz_sf_add ms_531_156 (t := 23) rfl rfl
theorem ms_531_187 : mz_sf mk_531 187 = mt_531_187 := mz_sf_add ms_531_179 (t := 8) rfl rfl
theorem ms_531_195 : mz_sf mk_531 195 = mt_531_195 := mz_sf_add ms_531_187 (t := 8) rfl rfl
theorem ms_531_201 : mz_sf mk_531 201 = mt_531_201 := mz_sf_add ms_531_195 (t := 6) rfl rfl
set_option maxRecDepth 100000 in
theorem mzq_531 : mz_PG0 531 = some (12, ⟨"KeptHouseModel", "air", "(I)V"⟩, prog_14_method_99_code, 6, none, [], mk_531, []) := rfl
theorem cg_531_195 (hd : 3 ≤ d) (hS : mz_extR S 342) (hR : mz_rok R 342)  (v2 : Int32) (N : mz_N) {C0 : (mz_N) → Prop} (hr : ∀ (N2 : mz_N), C0 N2 → Q (.inl none) (mz_k S R N2 b t)) {C1 : ((Int32 × mz_N) ⊕ (mz_N)) → Prop} (hc1 : ∀ s2, C1 (.inl s2) → mz_G (d, mz_X0 L xs, none, [], mk_531, 6, Q) 25 mt_531_25 [(0, .ref 232), (2, .int s2.1)] [] false (mz_k S R s2.2 b t)) (hx1 : ∀ z, C1 (.inr z) → C0 z) (hp : cp_531_195 v2 N) (hC : C1 (cf_531_195 v2 N)) : mz_G (d, mz_X0 L xs, none, [], mk_531, 6, Q) 195 mt_531_195 [(0, .ref 232), (2, .int v2)] [] false (mz_k S R N b t) := by
  unfold cf_531_195 at hC
  unfold cp_531_195 at hp
  refine g_iinc rfl mzi_1 (Nat.le_of_ble_eq_true rfl) rfl (g_goto (tg := 25) rfl ms_531_25 ?_)
  refine g_weak ?_ (g_cl (hc1 ((v2 + 1), N) hC))
  exact ⟨rfl, rfl, trivial⟩
theorem cg_531_90 (hd : 3 ≤ d) (hS : mz_extR S 342) (hR : mz_rok R 342)  (s0 : Bool) (v2 : Int32) (v4 : Int32) (N : mz_N) {C0 : (mz_N) → Prop} (hr : ∀ (N2 : mz_N), C0 N2 → Q (.inl none) (mz_k S R N2 b t)) {C1 : ((Int32 × mz_N) ⊕ (mz_N)) → Prop} (hc1 : ∀ s2, C1 (.inl s2) → mz_G (d, mz_X0 L xs, none, [], mk_531, 6, Q) 25 mt_531_25 [(0, .ref 232), (2, .int s2.1)] [] false (mz_k S R s2.2 b t)) (hx1 : ∀ z, C1 (.inr z) → C0 z) {C2 : ((Bool × Int32) ⊕ ((Int32 × mz_N) ⊕ (mz_N))) → Prop} (hc2 : ∀ s2, C2 (.inl s2) → mz_G (d, mz_X0 L xs, none, [], mk_531, 6, Q) 37 mt_531_37 [(0, .ref 232), (2, .int v2), (3, .int (mz_b01 s2.1)), (4, .int s2.2)] [] false (mz_k S R N b t)) (hx2 : ∀ z, C2 (.inr z) → C1 z) (hp : cp_531_90 s0 v2 v4 N) (hC : C2 (cf_531_90 s0 v2 v4 N)) : mz_G (d, mz_X0 L xs, none, [], mk_531, 6, Q) 90 mt_531_90 [(0, .ref 232), (2, .int v2), (4, .int v4)] [.int (mz_b01 s0)] false (mz_k S R N b t) := by
  unfold cf_531_90 at hC
  unfold cp_531_90 at hp
  refine g_istore_n (Nat.le_of_ble_eq_true rfl) rfl (g_iinc rfl mzi_1 (Nat.le_of_ble_eq_true rfl) rfl (g_goto (tg := 37) rfl ms_531_37 ?_))
  refine g_weak ?_ (g_cl (hc2 (s0, (v4 + 1)) hC))
  exact ⟨rfl, rfl, rfl, rfl, trivial⟩
theorem cg_531_85 (hd : 3 ≤ d) (hS : mz_extR S 342) (hR : mz_rok R 342)  (v2 : Int32) (v4 : Int32) (N : mz_N) {C0 : (mz_N) → Prop} (hr : ∀ (N2 : mz_N), C0 N2 → Q (.inl none) (mz_k S R N2 b t)) {C1 : ((Int32 × mz_N) ⊕ (mz_N)) → Prop} (hc1 : ∀ s2, C1 (.inl s2) → mz_G (d, mz_X0 L xs, none, [], mk_531, 6, Q) 25 mt_531_25 [(0, .ref 232), (2, .int s2.1)] [] false (mz_k S R s2.2 b t)) (hx1 : ∀ z, C1 (.inr z) → C0 z) {C2 : ((Bool × Int32) ⊕ ((Int32 × mz_N) ⊕ (mz_N))) → Prop} (hc2 : ∀ s2, C2 (.inl s2) → mz_G (d, mz_X0 L xs, none, [], mk_531, 6, Q) 37 mt_531_37 [(0, .ref 232), (2, .int v2), (3, .int (mz_b01 s2.1)), (4, .int s2.2)] [] false (mz_k S R N b t)) (hx2 : ∀ z, C2 (.inr z) → C1 z) (hp : cp_531_85 v2 v4 N) (hC : C2 (cf_531_85 v2 v4 N)) : mz_G (d, mz_X0 L xs, none, [], mk_531, 6, Q) 85 mt_531_85 [(0, .ref 232), (2, .int v2), (4, .int v4)] [] false (mz_k S R N b t) := by
  unfold cf_531_85 at hC
  unfold cp_531_85 at hp
  refine g_iconst mzi_1 (g_goto (tg := 90) rfl ms_531_90 ?_)
  refine g_weak ?_ (g_cl (cg_531_90 hd hS hR true v2 v4 N hr hc1 hx1 hc2 hx2 hp hC))
  exact ⟨rfl, rfl, rfl, trivial⟩
theorem cg_531_89 (hd : 3 ≤ d) (hS : mz_extR S 342) (hR : mz_rok R 342)  (v2 : Int32) (v4 : Int32) (N : mz_N) {C0 : (mz_N) → Prop} (hr : ∀ (N2 : mz_N), C0 N2 → Q (.inl none) (mz_k S R N2 b t)) {C1 : ((Int32 × mz_N) ⊕ (mz_N)) → Prop} (hc1 : ∀ s2, C1 (.inl s2) → mz_G (d, mz_X0 L xs, none, [], mk_531, 6, Q) 25 mt_531_25 [(0, .ref 232), (2, .int s2.1)] [] false (mz_k S R s2.2 b t)) (hx1 : ∀ z, C1 (.inr z) → C0 z) {C2 : ((Bool × Int32) ⊕ ((Int32 × mz_N) ⊕ (mz_N))) → Prop} (hc2 : ∀ s2, C2 (.inl s2) → mz_G (d, mz_X0 L xs, none, [], mk_531, 6, Q) 37 mt_531_37 [(0, .ref 232), (2, .int v2), (3, .int (mz_b01 s2.1)), (4, .int s2.2)] [] false (mz_k S R N b t)) (hx2 : ∀ z, C2 (.inr z) → C1 z) (hp : cp_531_89 v2 v4 N) (hC : C2 (cf_531_89 v2 v4 N)) : mz_G (d, mz_X0 L xs, none, [], mk_531, 6, Q) 89 mt_531_89 [(0, .ref 232), (2, .int v2), (4, .int v4)] [] false (mz_k S R N b t) := by
  unfold cf_531_89 at hC
  unfold cp_531_89 at hp
  refine g_iconst mzi_0 ?_
  refine g_weak ?_ (g_cl (cg_531_90 hd hS hR false v2 v4 N hr hc1 hx1 hc2 hx2 hp hC))
  exact ⟨rfl, rfl, rfl, trivial⟩
theorem cg_531_187 (hd : 3 ≤ d) (hS : mz_extR S 342) (hR : mz_rok R 342)  (s1 : Int32) (s2 : Int64) (v2 : Int32) (N : mz_N) {C0 : (mz_N) → Prop} (hr : ∀ (N2 : mz_N), C0 N2 → Q (.inl none) (mz_k S R N2 b t)) {C1 : ((Int32 × mz_N) ⊕ (mz_N)) → Prop} (hc1 : ∀ s2, C1 (.inl s2) → mz_G (d, mz_X0 L xs, none, [], mk_531, 6, Q) 25 mt_531_25 [(0, .ref 232), (2, .int s2.1)] [] false (mz_k S R s2.2 b t)) (hx1 : ∀ z, C1 (.inr z) → C0 z) (hp : cp_531_187 s1 s2 v2 N) (hC : C1 (cf_531_187 s1 s2 v2 N)) : mz_G (d, mz_X0 L xs, none, [], mk_531, 6, Q) 187 mt_531_187 [(0, .ref 232), (2, .int v2)] [.long s2, .int s1, .ref 263] false (mz_k S R N b t) := by
  unfold cf_531_187 at hC
  unfold cp_531_187 at hp
  refine g_lconst mzl_0 (g_con3 ?_)
  refine g_s3v (Nat.le_of_ble_eq_true rfl) (fun _ hq => cs_528 (Nat.le_trans (Nat.le_of_ble_eq_true rfl) hd) (hS.le (Nat.le_of_ble_eq_true rfl)) (hR.le (Nat.le_of_ble_eq_true rfl))  s2 0 1000 trivial hq) ?_
  obtain ⟨h2, hp⟩ := hp
  refine g_last (mz_at hS (Nat.le_of_ble_eq_true rfl) mzcS_263) h2 ?_
  refine g_weak ?_ (g_cl (cg_531_195 hd hS hR v2 (mz_wL N 263 s1 (cf_528_0 s2 0 1000)) hr hc1 hx1 hp hC))
  exact ⟨rfl, rfl, trivial⟩
theorem cg_531_156 (hd : 3 ≤ d) (hS : mz_extR S 342) (hR : mz_rok R 342)  (s0 : Bool) (v2 : Int32) (N : mz_N) {C0 : (mz_N) → Prop} (hr : ∀ (N2 : mz_N), C0 N2 → Q (.inl none) (mz_k S R N2 b t)) {C1 : ((Int32 × mz_N) ⊕ (mz_N)) → Prop} (hc1 : ∀ s2, C1 (.inl s2) → mz_G (d, mz_X0 L xs, none, [], mk_531, 6, Q) 25 mt_531_25 [(0, .ref 232), (2, .int s2.1)] [] false (mz_k S R s2.2 b t)) (hx1 : ∀ z, C1 (.inr z) → C0 z) (hp : cp_531_156 s0 v2 N) (hC : C1 (cf_531_156 s0 v2 N)) : mz_G (d, mz_X0 L xs, none, [], mk_531, 6, Q) 156 mt_531_156 [(0, .ref 232), (2, .int v2)] [.int (mz_b01 s0)] false (mz_k S R N b t) := by
  unfold cf_531_156 at hC
  unfold cp_531_156 at hp
  refine g_istore (Nat.le_of_ble_eq_true rfl) rfl (g_aload_n rfl (g_getR (mz_at hS (Nat.le_of_ble_eq_true rfl) mzcS_232) mzcf_12_43 (mz_rb hR (Nat.le_of_ble_eq_true rfl) rfl mzcR_232_43) (g_iload_n rfl (g_iload rfl ?_))))
  refine g_zeq (tg := 179) rfl ms_531_179 hC (fun h1 hC => ?_) (fun h1 hC => ?_)
  · have hp := hp.1 h1
    refine g_aload_n rfl (g_getR (mz_at hS (Nat.le_of_ble_eq_true rfl) mzcS_232) mzcf_12_43 (mz_rb hR (Nat.le_of_ble_eq_true rfl) rfl mzcR_232_43) (g_iload_n rfl ?_))
    obtain ⟨h2, hp⟩ := hp
    refine g_lald (mz_at hS (Nat.le_of_ble_eq_true rfl) mzcS_263) h2 (g_lconst mzl_1 (g_ladd (g_goto (tg := 187) rfl ms_531_187 ?_)))
    refine g_weak ?_ (g_cl (cg_531_187 hd hS hR v2 ((mz_gL N 263 v2) + 1) v2 N hr hc1 hx1 hp hC))
    exact ⟨rfl, rfl, trivial⟩
  · have hp := hp.2 h1
    refine g_aload_n rfl (g_getR (mz_at hS (Nat.le_of_ble_eq_true rfl) mzcS_232) mzcf_12_43 (mz_rb hR (Nat.le_of_ble_eq_true rfl) rfl mzcR_232_43) (g_iload_n rfl ?_))
    obtain ⟨h3, hp⟩ := hp
    refine g_lald (mz_at hS (Nat.le_of_ble_eq_true rfl) mzcS_263) h3 (g_lconst mzl_1 (g_lsub ?_))
    refine g_weak ?_ (g_cl (cg_531_187 hd hS hR v2 ((mz_gL N 263 v2) - 1) v2 N hr hc1 hx1 hp hC))
    exact ⟨rfl, rfl, trivial⟩
theorem cg_531_155 (hd : 3 ≤ d) (hS : mz_extR S 342) (hR : mz_rok R 342)  (v2 : Int32) (N : mz_N) {C0 : (mz_N) → Prop} (hr : ∀ (N2 : mz_N), C0 N2 → Q (.inl none) (mz_k S R N2 b t)) {C1 : ((Int32 × mz_N) ⊕ (mz_N)) → Prop} (hc1 : ∀ s2, C1 (.inl s2) → mz_G (d, mz_X0 L xs, none, [], mk_531, 6, Q) 25 mt_531_25 [(0, .ref 232), (2, .int s2.1)] [] false (mz_k S R s2.2 b t)) (hx1 : ∀ z, C1 (.inr z) → C0 z) (hp : cp_531_155 v2 N) (hC : C1 (cf_531_155 v2 N)) : mz_G (d, mz_X0 L xs, none, [], mk_531, 6, Q) 155 mt_531_155 [(0, .ref 232), (2, .int v2)] [] false (mz_k S R N b t) := by
  unfold cf_531_155 at hC
  unfold cp_531_155 at hp
  refine g_iconst mzi_0 ?_
  refine g_weak ?_ (g_cl (cg_531_156 hd hS hR false v2 N hr hc1 hx1 hp hC))
  exact ⟨rfl, rfl, trivial⟩
theorem cb_531_37 (hd : 3 ≤ d) (hS : mz_extR S 342) (hR : mz_rok R 342)  (v2 : Int32) (N : mz_N) (s : Bool × Int32) {C0 : (mz_N) → Prop} (hr : ∀ (N2 : mz_N), C0 N2 → Q (.inl none) (mz_k S R N2 b t)) {C1 : ((Int32 × mz_N) ⊕ (mz_N)) → Prop} (hc1 : ∀ s2, C1 (.inl s2) → mz_G (d, mz_X0 L xs, none, [], mk_531, 6, Q) 25 mt_531_25 [(0, .ref 232), (2, .int s2.1)] [] false (mz_k S R s2.2 b t)) (hx1 : ∀ z, C1 (.inr z) → C0 z) {C2 : ((Bool × Int32) ⊕ ((Int32 × mz_N) ⊕ (mz_N))) → Prop} (hc2 : ∀ s2, C2 (.inl s2) → mz_G (d, mz_X0 L xs, none, [], mk_531, 6, Q) 37 mt_531_37 [(0, .ref 232), (2, .int v2), (3, .int (mz_b01 s2.1)), (4, .int s2.2)] [] false (mz_k S R N b t)) (hx2 : ∀ z, C2 (.inr z) → C1 z) (hp : cd_531_37 v2 N s) (hC : C2 (cq_531_37 v2 N s)) : mz_G (d, mz_X0 L xs, none, [], mk_531, 6, Q) 37 mt_531_37 [(0, .ref 232), (2, .int v2), (3, .int (mz_b01 s.1)), (4, .int s.2)] [] false (mz_k S R N b t) := by
  unfold cq_531_37 at hC
  unfold cd_531_37 at hp
  refine g_iload rfl (g_iconst mzi_4 ?_)
  refine g_icge (tg := 97) rfl ms_531_97 hC (fun h1 hC => ?_) (fun h1 hC => ?_)
  · have hp := hp.1 h1
    refine g_iload_n rfl (g_bipush mzb_48 (g_irem (by decide) (g_iload rfl ?_)))
    refine g_s2v (Nat.le_of_ble_eq_true rfl) (fun _ hq => cs_431 (Nat.le_trans (Nat.le_of_ble_eq_true rfl) hd) (hS.le (Nat.le_of_ble_eq_true rfl)) (hR.le (Nat.le_of_ble_eq_true rfl))  (mz_irem v2 48) s.2 trivial hq) (g_istore (Nat.le_of_ble_eq_true rfl) rfl (g_iload_n rfl ?_))
    refine g_zne (tg := 85) rfl ms_531_85 hC (fun h3 hC => ?_) (fun h3 hC => ?_)
    · have hp := hp.1 h3
      refine g_weak ?_ (g_cl (cg_531_85 hd hS hR v2 s.2 N hr hc1 hx1 hc2 hx2 hp hC))
      exact ⟨rfl, rfl, rfl, trivial⟩
    · have hp := hp.2 h3
      refine g_iload rfl ?_
      refine g_s1v (Nat.le_of_ble_eq_true rfl) (fun _ hq => cs_417 (Nat.le_trans (Nat.le_of_ble_eq_true rfl) hd) (hS.le (Nat.le_of_ble_eq_true rfl)) (hR.le (Nat.le_of_ble_eq_true rfl))  (cf_431_0 (mz_irem v2 48) s.2) trivial hq) ?_
      refine g_zeq (tg := 89) rfl ms_531_89 hC (fun h5 hC => ?_) (fun h5 hC => ?_)
      · have hp := hp.1 h5
        refine g_aload_n rfl (g_getR (mz_at hS (Nat.le_of_ble_eq_true rfl) mzcS_232) mzcf_12_3 (mz_rb hR (Nat.le_of_ble_eq_true rfl) rfl mzcR_232_3) (g_bipush mzb_110 (g_iload_n rfl (g_bipush mzb_48 (g_idiv (by decide) (g_imul (g_iload rfl ?_)))))))
        refine g_iadd ?_
        obtain ⟨h6, hp⟩ := hp
        refine g_iald hS.1 (mz_at hS (Nat.le_of_ble_eq_true rfl) mzcS_233) h6 (g_iconst mzi_2 ?_)
        refine g_icne (tg := 89) rfl ms_531_89 hC (fun h7 hC => ?_) (fun h7 hC => ?_)
        · have hp := hp.1 h7
          refine g_weak ?_ (g_cl (cg_531_85 hd hS hR v2 s.2 N hr hc1 hx1 hc2 hx2 hp hC))
          exact ⟨rfl, rfl, rfl, trivial⟩
        · have hp := hp.2 h7
          refine g_weak ?_ (g_cl (cg_531_89 hd hS hR v2 s.2 N hr hc1 hx1 hc2 hx2 hp hC))
          exact ⟨rfl, rfl, rfl, trivial⟩
      · have hp := hp.2 h5
        refine g_weak ?_ (g_cl (cg_531_89 hd hS hR v2 s.2 N hr hc1 hx1 hc2 hx2 hp hC))
        exact ⟨rfl, rfl, rfl, trivial⟩
  · have hp := hp.2 h1
    refine g_iload_n rfl ?_
    refine g_zeq (tg := 195) rfl ms_531_195 hC (fun h8 hC => ?_) (fun h8 hC => ?_)
    · have hp := hp.1 h8
      refine g_aload_n rfl (g_getR (mz_at hS (Nat.le_of_ble_eq_true rfl) mzcS_232) mzcf_12_48 (mz_rb hR (Nat.le_of_ble_eq_true rfl) rfl mzcR_232_48) (g_aload_n rfl (g_getR (mz_at hS (Nat.le_of_ble_eq_true rfl) mzcS_232) mzcf_12_6 (mz_rb hR (Nat.le_of_ble_eq_true rfl) rfl mzcR_232_6) (g_iload_n rfl ?_))))
      obtain ⟨h9, hp⟩ := hp
      refine g_iald hS.1 (mz_at hS (Nat.le_of_ble_eq_true rfl) mzcS_235) h9 ?_
      obtain ⟨h10, hp⟩ := hp
      refine g_lald (mz_at hS (Nat.le_of_ble_eq_true rfl) mzcS_268) h10 (g_con3 (g_aload_n rfl (g_getR (mz_at hS (Nat.le_of_ble_eq_true rfl) mzcS_232) mzcf_12_9 (mz_rb hR (Nat.le_of_ble_eq_true rfl) rfl mzcR_232_9) (g_aload_n rfl (g_getR (mz_at hS (Nat.le_of_ble_eq_true rfl) mzcS_232) mzcf_12_6 (mz_rb hR (Nat.le_of_ble_eq_true rfl) rfl mzcR_232_6) (g_iload_n rfl ?_))))))
      obtain ⟨h11, hp⟩ := hp
      refine g_iald hS.1 (mz_at hS (Nat.le_of_ble_eq_true rfl) mzcS_235) h11 ?_
      obtain ⟨h12, hp⟩ := hp
      refine g_iald hS.1 (mz_at hS (Nat.le_of_ble_eq_true rfl) mzcS_237) h12 (g_i2l (g_lmul ?_))
      obtain ⟨h13, hp⟩ := hp
      refine g_s2v (Nat.le_of_ble_eq_true rfl) (fun _ hq => cs_489 (Nat.le_trans (Nat.le_of_ble_eq_true rfl) hd) (hS.le (Nat.le_of_ble_eq_true rfl)) (hR.le (Nat.le_of_ble_eq_true rfl))  (mz_gL N 268 (mz_gI N 235 v2)) (100 * ((mz_gI N 237 (mz_gI N 235 v2)).toInt64)) h13 hq) (g_con3 (g_lcmp ?_))
      refine g_lge (tg := 155) rfl ms_531_155 hC (fun h14 hC => ?_) (fun h14 hC => ?_)
      · have hp := hp.1 h14
        refine g_aload_n rfl (g_getR (mz_at hS (Nat.le_of_ble_eq_true rfl) mzcS_232) mzcf_12_42 (mz_rb hR (Nat.le_of_ble_eq_true rfl) rfl mzcR_232_42) (g_iload_n rfl ?_))
        obtain ⟨h15, hp⟩ := hp
        refine g_lald (mz_at hS (Nat.le_of_ble_eq_true rfl) mzcS_262) h15 (g_con3 (g_lcmp ?_))
        refine g_lle (tg := 155) rfl ms_531_155 hC (fun h16 hC => ?_) (fun h16 hC => ?_)
        · have hp := hp.1 h16
          refine g_iconst mzi_1 (g_goto (tg := 156) rfl ms_531_156 ?_)
          refine g_weak ?_ (g_cl (cg_531_156 hd hS hR true v2 N hr hc1 hx1 hp (hx2 _ hC)))
          exact ⟨rfl, rfl, trivial⟩
        · have hp := hp.2 h16
          refine g_weak ?_ (g_cl (cg_531_155 hd hS hR v2 N hr hc1 hx1 hp (hx2 _ hC)))
          exact ⟨rfl, rfl, trivial⟩
      · have hp := hp.2 h14
        refine g_weak ?_ (g_cl (cg_531_155 hd hS hR v2 N hr hc1 hx1 hp (hx2 _ hC)))
        exact ⟨rfl, rfl, trivial⟩
    · have hp := hp.2 h8
      refine g_weak ?_ (g_cl (cg_531_195 hd hS hR v2 N hr hc1 hx1 hp (hx2 _ hC)))
      exact ⟨rfl, rfl, trivial⟩
theorem cg_531_37 (hd : 3 ≤ d) (hS : mz_extR S 342) (hR : mz_rok R 342)  (v2 : Int32) (v3 : Bool) (v4 : Int32) (N : mz_N) {C0 : (mz_N) → Prop} (hr : ∀ (N2 : mz_N), C0 N2 → Q (.inl none) (mz_k S R N2 b t)) {C1 : ((Int32 × mz_N) ⊕ (mz_N)) → Prop} (hc1 : ∀ s2, C1 (.inl s2) → mz_G (d, mz_X0 L xs, none, [], mk_531, 6, Q) 25 mt_531_25 [(0, .ref 232), (2, .int s2.1)] [] false (mz_k S R s2.2 b t)) (hx1 : ∀ z, C1 (.inr z) → C0 z) (hp : cp_531_37 v2 v3 v4 N) (hC : C1 (cf_531_37 v2 v3 v4 N)) : mz_G (d, mz_X0 L xs, none, [], mk_531, 6, Q) 37 mt_531_37 [(0, .ref 232), (2, .int v2), (3, .int (mz_b01 v3)), (4, .int v4)] [] false (mz_k S R N b t) := by
  obtain ⟨n, hn⟩ := hp
  exact g_loop (G := fun s => mz_G (d, mz_X0 L xs, none, [], mk_531, 6, Q) 37 mt_531_37 [(0, .ref 232), (2, .int v2), (3, .int (mz_b01 s.1)), (4, .int s.2)] [] false (mz_k S R N b t)) (C := C1) (fun C2 hc hx s hP hC => cb_531_37 hd hS hR v2 N s hr hc1 hx1 hc hx hP hC) n (v3, v4) hn hC
theorem cb_531_25 (hd : 3 ≤ d) (hS : mz_extR S 342) (hR : mz_rok R 342)   (s : Int32 × mz_N) {C0 : (mz_N) → Prop} (hr : ∀ (N2 : mz_N), C0 N2 → Q (.inl none) (mz_k S R N2 b t)) {C1 : ((Int32 × mz_N) ⊕ (mz_N)) → Prop} (hc1 : ∀ s2, C1 (.inl s2) → mz_G (d, mz_X0 L xs, none, [], mk_531, 6, Q) 25 mt_531_25 [(0, .ref 232), (2, .int s2.1)] [] false (mz_k S R s2.2 b t)) (hx1 : ∀ z, C1 (.inr z) → C0 z) (hp : cd_531_25  s) (hC : C1 (cq_531_25  s)) : mz_G (d, mz_X0 L xs, none, [], mk_531, 6, Q) 25 mt_531_25 [(0, .ref 232), (2, .int s.1)] [] false (mz_k S R s.2 b t) := by
  unfold cq_531_25 at hC
  unfold cd_531_25 at hp
  refine g_iload_n rfl (g_sipush mzs_240 ?_)
  refine g_icge (tg := 201) rfl ms_531_201 hC (fun h1 hC => ?_) (fun h1 hC => ?_)
  · have hp := hp.1 h1
    refine g_iconst mzi_0 (g_istore_n (Nat.le_of_ble_eq_true rfl) rfl (g_iconst mzi_0 (g_istore (Nat.le_of_ble_eq_true rfl) rfl ?_)))
    refine g_weak ?_ (g_cl (cg_531_37 hd hS hR s.1 false 0 s.2 hr hc1 hx1 hp hC))
    exact ⟨rfl, rfl, rfl, rfl, trivial⟩
  · have hp := hp.2 h1
    exact g_vret rfl (hr _ (hx1 _ hC))
theorem cg_531_25 (hd : 3 ≤ d) (hS : mz_extR S 342) (hR : mz_rok R 342)  (v2 : Int32) (N : mz_N) {C0 : (mz_N) → Prop} (hr : ∀ (N2 : mz_N), C0 N2 → Q (.inl none) (mz_k S R N2 b t)) (hp : cp_531_25 v2 N) (hC : C0 (cf_531_25 v2 N)) : mz_G (d, mz_X0 L xs, none, [], mk_531, 6, Q) 25 mt_531_25 [(0, .ref 232), (2, .int v2)] [] false (mz_k S R N b t) := by
  obtain ⟨n, hn⟩ := hp
  exact g_loop (G := fun s => mz_G (d, mz_X0 L xs, none, [], mk_531, 6, Q) 25 mt_531_25 [(0, .ref 232), (2, .int s.1)] [] false (mz_k S R s.2 b t)) (C := C0) (fun C2 hc hx s hP hC => cb_531_25 hd hS hR  s hr hc hx hP hC) n (v2, N) hn hC
theorem cg_531_0 (hd : 3 ≤ d) (hS : mz_extR S 342) (hR : mz_rok R 342)  (v1 : Int32) (N : mz_N) {C0 : (mz_N) → Prop} (hr : ∀ (N2 : mz_N), C0 N2 → Q (.inl none) (mz_k S R N2 b t)) (hp : cp_531_0 v1 N) (hC : C0 (cf_531_0 v1 N)) : mz_G (d, mz_X0 L xs, none, [], mk_531, 6, Q) 0 mk_531 [(0, .ref 232), (1, .int v1)] [] true (mz_k S R N b t) := by
  unfold cf_531_0 at hC
  unfold cp_531_0 at hp
  refine g_aload_n rfl (g_aload_n rfl (g_getR (mz_at hS (Nat.le_of_ble_eq_true rfl) mzcS_232) mzcf_12_41 (mz_rb hR (Nat.le_of_ble_eq_true rfl) rfl mzcR_232_41) (g_iload_n rfl (g_bipush mzb_20 (g_iconst mzi_0 ?_)))))
  obtain ⟨h1, hp⟩ := hp
  refine g_v5n (Nat.le_of_ble_eq_true rfl) (mz_at hS (Nat.le_of_ble_eq_true rfl) mzcS_232) (fun _ hq => cs_532 (Nat.le_trans (Nat.le_of_ble_eq_true rfl) hd) (hS.le (Nat.le_of_ble_eq_true rfl)) (hR.le (Nat.le_of_ble_eq_true rfl)) 261 (mz_at hS (Nat.le_of_ble_eq_true rfl) mzcS_261) v1 20 0 N h1 hq) (g_aload_n rfl (g_aload_n rfl (g_getR (mz_at hS (Nat.le_of_ble_eq_true rfl) mzcS_232) mzcf_12_42 (mz_rb hR (Nat.le_of_ble_eq_true rfl) rfl mzcR_232_42) (g_iload_n rfl (g_iconst mzi_5 (g_iconst mzi_2 ?_))))))
  obtain ⟨h2, hp⟩ := hp
  refine g_v5n (Nat.le_of_ble_eq_true rfl) (mz_at hS (Nat.le_of_ble_eq_true rfl) mzcS_232) (fun _ hq => cs_532 (Nat.le_trans (Nat.le_of_ble_eq_true rfl) hd) (hS.le (Nat.le_of_ble_eq_true rfl)) (hR.le (Nat.le_of_ble_eq_true rfl)) 262 (mz_at hS (Nat.le_of_ble_eq_true rfl) mzcS_262) v1 5 2 (cf_532_0 261 v1 20 0 N) h2 hq) (g_iconst mzi_0 (g_istore_n (Nat.le_of_ble_eq_true rfl) rfl ?_))
  refine g_weak ?_ (g_cl (cg_531_25 hd hS hR 0 (cf_532_0 262 v1 5 2 (cf_532_0 261 v1 20 0 N)) hr hp hC))
  exact ⟨rfl, rfl, trivial⟩
theorem cs_531 (hd : 4 ≤ d) (hS : mz_extR S 342) (hR : mz_rok R 342)  (v1 : Int32) (N : mz_N) (hp : cp_531_0 v1 N) (hq : Q (.inl none) (mz_k S R (cf_531_0 v1 N) b t)) : mz_Ed (mz_X0 L xs) d 531 [.ref 232, .int v1] (mz_k S R N b t) Q :=
  by
  refine g_in mzq_531 (Nat.le_of_ble_eq_true rfl) (Nat.le_of_ble_eq_true rfl) (Nat.le_trans (Nat.le_of_ble_eq_true rfl) hd) ?_
  refine g_weak ?_ (cg_531_0 (d := d - 1) (by omega) hS hR v1 N (C0 := fun z => Q (.inl none) (mz_k S R z b t)) (fun _ h => h) hp hq)
  exact ⟨rfl, rfl, trivial⟩
/-! 534 KeptHouseModel.sprinkle (I)V -/
theorem ms_534_0 : mz_sf mk_534 0 = mk_534 := mz_sf_zero _
theorem ms_534_2 : mz_sf mk_534 2 = mt_534_2 := mz_sf_add ms_534_0 (t := 2) rfl rfl
theorem ms_534_30 : mz_sf mk_534 30 = mt_534_30 := mz_sf_add ms_534_2 (t := 28) rfl rfl
theorem ms_534_73 : mz_sf mk_534 73 = mt_534_73 := mz_sf_add ms_534_30 (t := 43) rfl rfl
theorem ms_534_79 : mz_sf mk_534 79 = mt_534_79 := mz_sf_add ms_534_73 (t := 6) rfl rfl
set_option maxRecDepth 100000 in
theorem mzq_534 : mz_PG0 534 = some (12, ⟨"KeptHouseModel", "sprinkle", "(I)V"⟩, prog_14_method_102_code, 3, none, [], mk_534, []) := rfl
theorem cg_534_73 (hd : 1 ≤ d) (hS : mz_extR S 342) (hR : mz_rok R 342)  (v1 : Int32) (v2 : Int32) (N : mz_N) {C0 : (mz_N) → Prop} (hr : ∀ (N2 : mz_N), C0 N2 → Q (.inl none) (mz_k S R N2 b t)) {C1 : ((Int32 × mz_N) ⊕ (mz_N)) → Prop} (hc1 : ∀ s2, C1 (.inl s2) → mz_G (d, mz_X0 L xs, none, [], mk_534, 3, Q) 2 mt_534_2 [(0, .ref 232), (1, .int v1), (2, .int s2.1)] [] false (mz_k S R s2.2 b t)) (hx1 : ∀ z, C1 (.inr z) → C0 z) (hp : cp_534_73 v1 v2 N) (hC : C1 (cf_534_73 v1 v2 N)) : mz_G (d, mz_X0 L xs, none, [], mk_534, 3, Q) 73 mt_534_73 [(0, .ref 232), (1, .int v1), (2, .int v2)] [] false (mz_k S R N b t) := by
  unfold cf_534_73 at hC
  unfold cp_534_73 at hp
  refine g_iinc rfl mzi_1 (Nat.le_of_ble_eq_true rfl) rfl (g_goto (tg := 2) rfl ms_534_2 ?_)
  refine g_weak ?_ (g_cl (hc1 ((v2 + 1), N) hC))
  exact ⟨rfl, rfl, rfl, trivial⟩
theorem cb_534_2 (hd : 1 ≤ d) (hS : mz_extR S 342) (hR : mz_rok R 342)  (v1 : Int32) (s : Int32 × mz_N) {C0 : (mz_N) → Prop} (hr : ∀ (N2 : mz_N), C0 N2 → Q (.inl none) (mz_k S R N2 b t)) {C1 : ((Int32 × mz_N) ⊕ (mz_N)) → Prop} (hc1 : ∀ s2, C1 (.inl s2) → mz_G (d, mz_X0 L xs, none, [], mk_534, 3, Q) 2 mt_534_2 [(0, .ref 232), (1, .int v1), (2, .int s2.1)] [] false (mz_k S R s2.2 b t)) (hx1 : ∀ z, C1 (.inr z) → C0 z) (hp : cd_534_2 v1 s) (hC : C1 (cq_534_2 v1 s)) : mz_G (d, mz_X0 L xs, none, [], mk_534, 3, Q) 2 mt_534_2 [(0, .ref 232), (1, .int v1), (2, .int s.1)] [] false (mz_k S R s.2 b t) := by
  unfold cq_534_2 at hC
  unfold cd_534_2 at hp
  refine g_iload_n rfl (g_sipush mzs_240 ?_)
  refine g_icge (tg := 79) rfl ms_534_79 hC (fun h1 hC => ?_) (fun h1 hC => ?_)
  · have hp := hp.1 h1
    refine g_aload_n rfl (g_getR (mz_at hS (Nat.le_of_ble_eq_true rfl) mzcS_232) mzcf_12_6 (mz_rb hR (Nat.le_of_ble_eq_true rfl) rfl mzcR_232_6) (g_iload_n rfl ?_))
    obtain ⟨h2, hp⟩ := hp
    refine g_iald hS.1 (mz_at hS (Nat.le_of_ble_eq_true rfl) mzcS_235) h2 (g_iload_n rfl ?_)
    refine g_icne (tg := 73) rfl ms_534_73 hC (fun h3 hC => ?_) (fun h3 hC => ?_)
    · have hp := hp.1 h3
      refine g_aload_n rfl (g_getR (mz_at hS (Nat.le_of_ble_eq_true rfl) mzcS_232) mzcf_12_44 (mz_rb hR (Nat.le_of_ble_eq_true rfl) rfl mzcR_232_44) (g_iload_n rfl ?_))
      obtain ⟨h4, hp⟩ := hp
      refine g_lald (mz_at hS (Nat.le_of_ble_eq_true rfl) mzcS_264) h4 (g_lconst mzl_0 (g_lcmp ?_))
      refine g_lle (tg := 73) rfl ms_534_73 hC (fun h5 hC => ?_) (fun h5 hC => ?_)
      · have hp := hp.1 h5
        refine g_aload_n rfl (g_getI (mz_at hS (Nat.le_of_ble_eq_true rfl) mzcS_232) mzcf_12_61 (g_bipush mzb_10 ?_))
        refine g_iclt (tg := 73) rfl ms_534_73 hC (fun h6 hC => ?_) (fun h6 hC => ?_)
        · have hp := hp.1 h6
          refine g_weak ?_ (g_cl (cg_534_73 hd hS hR v1 s.1 s.2 hr hc1 hx1 hp hC))
          exact ⟨rfl, rfl, rfl, trivial⟩
        · have hp := hp.2 h6
          refine g_aload_n rfl (g_dup rfl (g_getI (mz_at hS (Nat.le_of_ble_eq_true rfl) mzcS_232) mzcf_12_61 (g_bipush mzb_10 (g_isub (g_putI (mz_at hS (Nat.le_of_ble_eq_true rfl) mzcS_232) mzcf_12_61 (g_aload_n rfl (g_getR (mz_at hS (Nat.le_of_ble_eq_true rfl) mzcS_232) mzcf_12_44 (mz_rb hR (Nat.le_of_ble_eq_true rfl) rfl mzcR_232_44) ?_)))))))
          refine g_iload_n rfl (g_aload_n rfl (g_getR (mz_at hS (Nat.le_of_ble_eq_true rfl) mzcS_232) mzcf_12_44 (mz_rb hR (Nat.le_of_ble_eq_true rfl) rfl mzcR_232_44) (g_iload_n rfl ?_)))
          obtain ⟨h7, hp⟩ := hp
          refine g_lald (mz_at hS (Nat.le_of_ble_eq_true rfl) mzcS_264) h7 (g_con3 (g_lsub (g_lconst mzl_0 (g_con3 ?_))))
          refine g_s3v (Nat.le_of_ble_eq_true rfl) (fun _ hq => cs_528 (Nat.le_trans (Nat.le_of_ble_eq_true rfl) hd) (hS.le (Nat.le_of_ble_eq_true rfl)) (hR.le (Nat.le_of_ble_eq_true rfl))  ((mz_gL (mz_pI s.2 232 61 ((s.2.1 232 61) - 10)) 264 s.1) - 30) 0 100 trivial hq) ?_
          obtain ⟨h9, hp⟩ := hp
          refine g_last (mz_at hS (Nat.le_of_ble_eq_true rfl) mzcS_264) h9 ?_
          refine g_weak ?_ (g_cl (cg_534_73 hd hS hR v1 s.1 (mz_wL (mz_pI s.2 232 61 ((s.2.1 232 61) - 10)) 264 s.1 (cf_528_0 ((mz_gL (mz_pI s.2 232 61 ((s.2.1 232 61) - 10)) 264 s.1) - 30) 0 100)) hr hc1 hx1 hp hC))
          exact ⟨rfl, rfl, rfl, trivial⟩
      · have hp := hp.2 h5
        refine g_weak ?_ (g_cl (cg_534_73 hd hS hR v1 s.1 s.2 hr hc1 hx1 hp hC))
        exact ⟨rfl, rfl, rfl, trivial⟩
    · have hp := hp.2 h3
      refine g_weak ?_ (g_cl (cg_534_73 hd hS hR v1 s.1 s.2 hr hc1 hx1 hp hC))
      exact ⟨rfl, rfl, rfl, trivial⟩
  · have hp := hp.2 h1
    exact g_vret rfl (hr _ (hx1 _ hC))
theorem cg_534_2 (hd : 1 ≤ d) (hS : mz_extR S 342) (hR : mz_rok R 342)  (v1 : Int32) (v2 : Int32) (N : mz_N) {C0 : (mz_N) → Prop} (hr : ∀ (N2 : mz_N), C0 N2 → Q (.inl none) (mz_k S R N2 b t)) (hp : cp_534_2 v1 v2 N) (hC : C0 (cf_534_2 v1 v2 N)) : mz_G (d, mz_X0 L xs, none, [], mk_534, 3, Q) 2 mt_534_2 [(0, .ref 232), (1, .int v1), (2, .int v2)] [] false (mz_k S R N b t) := by
  obtain ⟨n, hn⟩ := hp
  exact g_loop (G := fun s => mz_G (d, mz_X0 L xs, none, [], mk_534, 3, Q) 2 mt_534_2 [(0, .ref 232), (1, .int v1), (2, .int s.1)] [] false (mz_k S R s.2 b t)) (C := C0) (fun C2 hc hx s hP hC => cb_534_2 hd hS hR v1 s hr hc hx hP hC) n (v2, N) hn hC
theorem cg_534_0 (hd : 1 ≤ d) (hS : mz_extR S 342) (hR : mz_rok R 342)  (v1 : Int32) (N : mz_N) {C0 : (mz_N) → Prop} (hr : ∀ (N2 : mz_N), C0 N2 → Q (.inl none) (mz_k S R N2 b t)) (hp : cp_534_0 v1 N) (hC : C0 (cf_534_0 v1 N)) : mz_G (d, mz_X0 L xs, none, [], mk_534, 3, Q) 0 mk_534 [(0, .ref 232), (1, .int v1)] [] true (mz_k S R N b t) := by
  unfold cf_534_0 at hC
  unfold cp_534_0 at hp
  refine g_iconst mzi_0 (g_istore_n (Nat.le_of_ble_eq_true rfl) rfl ?_)
  refine g_weak ?_ (g_cl (cg_534_2 hd hS hR v1 0 N hr hp hC))
  exact ⟨rfl, rfl, rfl, trivial⟩
theorem cs_534 (hd : 2 ≤ d) (hS : mz_extR S 342) (hR : mz_rok R 342)  (v1 : Int32) (N : mz_N) (hp : cp_534_0 v1 N) (hq : Q (.inl none) (mz_k S R (cf_534_0 v1 N) b t)) : mz_Ed (mz_X0 L xs) d 534 [.ref 232, .int v1] (mz_k S R N b t) Q :=
  by
  refine g_in mzq_534 (Nat.le_of_ble_eq_true rfl) (Nat.le_of_ble_eq_true rfl) (Nat.le_trans (Nat.le_of_ble_eq_true rfl) hd) ?_
  refine g_weak ?_ (cg_534_0 (d := d - 1) (by omega) hS hR v1 N (C0 := fun z => Q (.inl none) (mz_k S R z b t)) (fun _ h => h) hp hq)
  exact ⟨rfl, rfl, trivial⟩
/-! 533 KeptHouseModel.fire ()V -/
theorem ms_533_0 : mz_sf mk_533 0 = mk_533 := mz_sf_zero _
theorem ms_533_2 : mz_sf mk_533 2 = mt_533_2 := mz_sf_add ms_533_0 (t := 2) rfl rfl
theorem ms_533_32 : mz_sf mk_533 32 = mt_533_32 := mz_sf_add ms_533_2 (t := 30) rfl rfl
theorem ms_533_51 : mz_sf mk_533 51 = mt_533_51 := mz_sf_add ms_533_32 (t := 19) rfl rfl
theorem ms_533_70 : mz_sf mk_533 70 = mt_533_70 := mz_sf_add ms_533_51 (t := 19) rfl rfl
theorem ms_533_93 : mz_sf mk_533 93 = mt_533_93 := mz_sf_add ms_533_70 (t := 23) rfl rfl
theorem ms_533_99 : mz_sf mk_533 99 = mt_533_99 := mz_sf_add ms_533_93 (t := 6) rfl rfl
theorem ms_533_101 : mz_sf mk_533 101 = mt_533_101 := mz_sf_add ms_533_99 (t := 2) rfl rfl
theorem ms_533_110 : mz_sf mk_533 110 = mt_533_110 := mz_sf_add ms_533_101 (t := 9) rfl rfl
theorem ms_533_137 : mz_sf mk_533 137 = mt_533_137 := mz_sf_add ms_533_110 (t := 27) rfl rfl
theorem ms_533_176 : mz_sf mk_533 176 = mt_533_176 := mz_sf_add ms_533_137 (t := 39) rfl rfl
theorem ms_533_198 : mz_sf mk_533 198 = mt_533_198 := mz_sf_add ms_533_176 (t := 22) rfl rfl
theorem ms_533_204 : mz_sf mk_533 204 = mt_533_204 := mz_sf_add ms_533_198 (t := 6) rfl rfl
theorem ms_533_210 : mz_sf mk_533 210 = mt_533_210 := mz_sf_add ms_533_204 (t := 6) rfl rfl
theorem ms_533_212 : mz_sf mk_533 212 = mt_533_212 := mz_sf_add ms_533_210 (t := 2) rfl rfl
theorem ms_533_234 : mz_sf mk_533 234 = mt_533_234 := mz_sf_add ms_533_212 (t := 22) rfl rfl
theorem ms_533_237 : mz_sf mk_533 237 = mt_533_237 := mz_sf_add ms_533_234 (t := 3) rfl rfl
theorem ms_533_239 : mz_sf mk_533 239 = mt_533_239 := mz_sf_add ms_533_237 (t := 2) rfl rfl
theorem ms_533_262 : mz_sf mk_533 262 = mt_533_262 := mz_sf_add ms_533_239 (t := 23) rfl rfl
theorem ms_533_288 : mz_sf mk_533 288 = mt_533_288 := mz_sf_add ms_533_262 (t := 26) rfl rfl
theorem ms_533_313 : mz_sf mk_533 313 = mt_533_313 := mz_sf_add ms_533_288 (t := 25) rfl rfl
theorem ms_533_341 : mz_sf mk_533 341 = mt_533_341 := mz_sf_add ms_533_313 (t := 28) rfl rfl
theorem ms_533_347 : mz_sf mk_533 347 = mt_533_347 := mz_sf_add ms_533_341 (t := 6) rfl rfl
theorem ms_533_349 : mz_sf mk_533 349 = mt_533_349 := mz_sf_add ms_533_347 (t := 2) rfl rfl
theorem ms_533_407 : mz_sf mk_533 407 = mt_533_407 := mz_sf_add ms_533_349 (t := 58) rfl rfl
theorem ms_533_408 : mz_sf mk_533 408 = mt_533_408 := mz_sf_add ms_533_407 (t := 1) rfl rfl
theorem ms_533_416 : mz_sf mk_533 416 = mt_533_416 := mz_sf_add ms_533_408 (t := 8) rfl rfl
theorem ms_533_435 : mz_sf mk_533 435 = mt_533_435 := mz_sf_add ms_533_416 (t := 19) rfl rfl
theorem ms_533_437 : mz_sf mk_533 437 = mt_533_437 := mz_sf_add ms_533_435 (t := 2) rfl rfl
theorem ms_533_477 : mz_sf mk_533 477 = mt_533_477 := mz_sf_add ms_533_437 (t := 40) rfl rfl
theorem ms_533_482 : mz_sf mk_533 482 = mt_533_482 := mz_sf_add ms_533_477 (t := 5) rfl rfl
theorem ms_533_488 : mz_sf mk_533 488 = mt_533_488 := mz_sf_add ms_533_482 (t := 6) rfl rfl
set_option maxRecDepth 100000 in
theorem mzq_533 : mz_PG0 533 = some (12, ⟨"KeptHouseModel", "fire", "()V"⟩, prog_14_method_101_code, 7, none, [], mk_533, []) := rfl
theorem cg_533_93 (hd : 2 ≤ d) (hS : mz_extR S 342) (hR : mz_rok R 342)  (v1 : Int32) (N : mz_N) {C0 : (mz_N) → Prop} (hr : ∀ (N2 : mz_N), C0 N2 → Q (.inl none) (mz_k S R N2 b t)) {C1 : ((Int32 × mz_N) ⊕ (mz_N)) → Prop} (hc1 : ∀ s2, C1 (.inl s2) → mz_G (d, mz_X0 L xs, none, [], mk_533, 7, Q) 2 mt_533_2 [(0, .ref 232), (1, .int s2.1)] [] false (mz_k S R s2.2 b t)) (hx1 : ∀ z, C1 (.inr z) → C0 z) (hp : cp_533_93 v1 N) (hC : C1 (cf_533_93 v1 N)) : mz_G (d, mz_X0 L xs, none, [], mk_533, 7, Q) 93 mt_533_93 [(0, .ref 232), (1, .int v1)] [] false (mz_k S R N b t) := by
  unfold cf_533_93 at hC
  unfold cp_533_93 at hp
  refine g_iinc rfl mzi_1 (Nat.le_of_ble_eq_true rfl) rfl (g_goto (tg := 2) rfl ms_533_2 ?_)
  refine g_weak ?_ (g_cl (hc1 ((v1 + 1), N) hC))
  exact ⟨rfl, rfl, trivial⟩
theorem cg_533_51 (hd : 2 ≤ d) (hS : mz_extR S 342) (hR : mz_rok R 342)  (v1 : Int32) (N : mz_N) {C0 : (mz_N) → Prop} (hr : ∀ (N2 : mz_N), C0 N2 → Q (.inl none) (mz_k S R N2 b t)) {C1 : ((Int32 × mz_N) ⊕ (mz_N)) → Prop} (hc1 : ∀ s2, C1 (.inl s2) → mz_G (d, mz_X0 L xs, none, [], mk_533, 7, Q) 2 mt_533_2 [(0, .ref 232), (1, .int s2.1)] [] false (mz_k S R s2.2 b t)) (hx1 : ∀ z, C1 (.inr z) → C0 z) (hp : cp_533_51 v1 N) (hC : C1 (cf_533_51 v1 N)) : mz_G (d, mz_X0 L xs, none, [], mk_533, 7, Q) 51 mt_533_51 [(0, .ref 232), (1, .int v1)] [] false (mz_k S R N b t) := by
  unfold cf_533_51 at hC
  unfold cp_533_51 at hp
  refine g_aload_n rfl (g_getR (mz_at hS (Nat.le_of_ble_eq_true rfl) mzcS_232) mzcf_12_40 (mz_rb hR (Nat.le_of_ble_eq_true rfl) rfl mzcR_232_40) (g_iload_n rfl (g_dup2 rfl rfl ?_)))
  obtain ⟨h1, hp⟩ := hp
  refine g_lald (mz_at hS (Nat.le_of_ble_eq_true rfl) mzcS_260) h1 (g_con3 (g_aload_n rfl (g_getR (mz_at hS (Nat.le_of_ble_eq_true rfl) mzcS_232) mzcf_12_44 (mz_rb hR (Nat.le_of_ble_eq_true rfl) rfl mzcR_232_44) (g_iload_n rfl ?_))))
  obtain ⟨h2, hp⟩ := hp
  refine g_lald (mz_at hS (Nat.le_of_ble_eq_true rfl) mzcS_264) h2 (g_lmul (g_ladd ?_))
  obtain ⟨h3, hp⟩ := hp
  refine g_last (mz_at hS (Nat.le_of_ble_eq_true rfl) mzcS_260) h3 (g_aload_n rfl (g_getR (mz_at hS (Nat.le_of_ble_eq_true rfl) mzcS_232) mzcf_12_44 (mz_rb hR (Nat.le_of_ble_eq_true rfl) rfl mzcR_232_44) (g_iload_n rfl (g_aload_n rfl (g_getR (mz_at hS (Nat.le_of_ble_eq_true rfl) mzcS_232) mzcf_12_44 (mz_rb hR (Nat.le_of_ble_eq_true rfl) rfl mzcR_232_44) (g_iload_n rfl ?_))))))
  obtain ⟨h4, hp⟩ := hp
  refine g_lald (mz_at hS (Nat.le_of_ble_eq_true rfl) mzcS_264) h4 (g_con3 (g_ladd (g_lconst mzl_0 (g_con3 ?_))))
  refine g_s3v (Nat.le_of_ble_eq_true rfl) (fun _ hq => cs_528 (Nat.le_trans (Nat.le_of_ble_eq_true rfl) hd) (hS.le (Nat.le_of_ble_eq_true rfl)) (hR.le (Nat.le_of_ble_eq_true rfl))  ((mz_gL (mz_wL N 260 v1 ((mz_gL N 260 v1) + (50 * (mz_gL N 264 v1)))) 264 v1) + 10) 0 100 trivial hq) ?_
  obtain ⟨h6, hp⟩ := hp
  refine g_last (mz_at hS (Nat.le_of_ble_eq_true rfl) mzcS_264) h6 ?_
  refine g_weak ?_ (g_cl (cg_533_93 hd hS hR v1 (mz_wL (mz_wL N 260 v1 ((mz_gL N 260 v1) + (50 * (mz_gL N 264 v1)))) 264 v1 (cf_528_0 ((mz_gL (mz_wL N 260 v1 ((mz_gL N 260 v1) + (50 * (mz_gL N 264 v1)))) 264 v1) + 10) 0 100)) hr hc1 hx1 hp hC))
  exact ⟨rfl, rfl, trivial⟩
theorem cg_533_341 (hd : 2 ≤ d) (hS : mz_extR S 342) (hR : mz_rok R 342)  (v1 : Int32) (N : mz_N) {C0 : (mz_N) → Prop} (hr : ∀ (N2 : mz_N), C0 N2 → Q (.inl none) (mz_k S R N2 b t)) {C1 : ((Int32 × mz_N) ⊕ (mz_N)) → Prop} (hc1 : ∀ s2, C1 (.inl s2) → mz_G (d, mz_X0 L xs, none, [], mk_533, 7, Q) 239 mt_533_239 [(0, .ref 232), (1, .int s2.1)] [] false (mz_k S R s2.2 b t)) (hx1 : ∀ z, C1 (.inr z) → C0 z) (hp : cp_533_341 v1 N) (hC : C1 (cf_533_341 v1 N)) : mz_G (d, mz_X0 L xs, none, [], mk_533, 7, Q) 341 mt_533_341 [(0, .ref 232), (1, .int v1)] [] false (mz_k S R N b t) := by
  unfold cf_533_341 at hC
  unfold cp_533_341 at hp
  refine g_iinc rfl mzi_1 (Nat.le_of_ble_eq_true rfl) rfl (g_goto (tg := 239) rfl ms_533_239 ?_)
  refine g_weak ?_ (g_cl (hc1 ((v1 + 1), N) hC))
  exact ⟨rfl, rfl, trivial⟩
theorem cg_533_408 (hd : 2 ≤ d) (hS : mz_extR S 342) (hR : mz_rok R 342)  (s1 : Int32) (s2 : Int64) (s3 : Int64) (v1 : Int32) (N : mz_N) {C0 : (mz_N) → Prop} (hr : ∀ (N2 : mz_N), C0 N2 → Q (.inl none) (mz_k S R N2 b t)) {C1 : ((Int32 × mz_N) ⊕ (mz_N)) → Prop} (hc1 : ∀ s2, C1 (.inl s2) → mz_G (d, mz_X0 L xs, none, [], mk_533, 7, Q) 349 mt_533_349 [(0, .ref 232), (1, .int s2.1)] [] false (mz_k S R s2.2 b t)) (hx1 : ∀ z, C1 (.inr z) → C0 z) (hp : cp_533_408 s1 s2 s3 v1 N) (hC : C1 (cf_533_408 s1 s2 s3 v1 N)) : mz_G (d, mz_X0 L xs, none, [], mk_533, 7, Q) 408 mt_533_408 [(0, .ref 232), (1, .int v1)] [.long s3, .long s2, .int s1, .ref 265] false (mz_k S R N b t) := by
  unfold cf_533_408 at hC
  unfold cp_533_408 at hp
  refine g_lsub ?_
  have h1 := hp
  refine g_last (mz_at hS (Nat.le_of_ble_eq_true rfl) mzcS_265) h1 (g_iinc rfl mzi_1 (Nat.le_of_ble_eq_true rfl) rfl (g_goto (tg := 349) rfl ms_533_349 ?_))
  refine g_weak ?_ (g_cl (hc1 ((v1 + 1), mz_wL N 265 s1 (s2 - s3)) hC))
  exact ⟨rfl, rfl, trivial⟩
theorem cg_533_482 (hd : 2 ≤ d) (hS : mz_extR S 342) (hR : mz_rok R 342)  (v1 : Int32) (N : mz_N) {C0 : (mz_N) → Prop} (hr : ∀ (N2 : mz_N), C0 N2 → Q (.inl none) (mz_k S R N2 b t)) {C1 : ((Int32 × mz_N) ⊕ (mz_N)) → Prop} (hc1 : ∀ s2, C1 (.inl s2) → mz_G (d, mz_X0 L xs, none, [], mk_533, 7, Q) 437 mt_533_437 [(0, .ref 232), (1, .int s2.1)] [] false (mz_k S R s2.2 b t)) (hx1 : ∀ z, C1 (.inr z) → C0 z) (hp : cp_533_482 v1 N) (hC : C1 (cf_533_482 v1 N)) : mz_G (d, mz_X0 L xs, none, [], mk_533, 7, Q) 482 mt_533_482 [(0, .ref 232), (1, .int v1)] [] false (mz_k S R N b t) := by
  unfold cf_533_482 at hC
  unfold cp_533_482 at hp
  refine g_iinc rfl mzi_1 (Nat.le_of_ble_eq_true rfl) rfl (g_goto (tg := 437) rfl ms_533_437 ?_)
  refine g_weak ?_ (g_cl (hc1 ((v1 + 1), N) hC))
  exact ⟨rfl, rfl, trivial⟩
theorem cb_533_437 (hd : 2 ≤ d) (hS : mz_extR S 342) (hR : mz_rok R 342)   (s : Int32 × mz_N) {C0 : (mz_N) → Prop} (hr : ∀ (N2 : mz_N), C0 N2 → Q (.inl none) (mz_k S R N2 b t)) {C1 : ((Int32 × mz_N) ⊕ (mz_N)) → Prop} (hc1 : ∀ s2, C1 (.inl s2) → mz_G (d, mz_X0 L xs, none, [], mk_533, 7, Q) 437 mt_533_437 [(0, .ref 232), (1, .int s2.1)] [] false (mz_k S R s2.2 b t)) (hx1 : ∀ z, C1 (.inr z) → C0 z) (hp : cd_533_437  s) (hC : C1 (cq_533_437  s)) : mz_G (d, mz_X0 L xs, none, [], mk_533, 7, Q) 437 mt_533_437 [(0, .ref 232), (1, .int s.1)] [] false (mz_k S R s.2 b t) := by
  unfold cq_533_437 at hC
  unfold cd_533_437 at hp
  refine g_iload_n rfl (g_aload_n rfl (g_getI (mz_at hS (Nat.le_of_ble_eq_true rfl) mzcS_232) mzcf_12_7 ?_))
  refine g_icge (tg := 488) rfl ms_533_488 hC (fun h1 hC => ?_) (fun h1 hC => ?_)
  · have hp := hp.1 h1
    refine g_aload_n rfl (g_getR (mz_at hS (Nat.le_of_ble_eq_true rfl) mzcS_232) mzcf_12_37 (mz_rb hR (Nat.le_of_ble_eq_true rfl) rfl mzcR_232_37) (g_bipush mzb_15 (g_iald hS.1 (mz_at hS (Nat.le_of_ble_eq_true rfl) mzcS_257) (mz_ibd (by decide)) (g_iconst mzi_1 ?_))))
    refine g_icne (tg := 488) rfl ms_533_488 hC (fun h2 hC => ?_) (fun h2 hC => ?_)
    · have hp := hp.1 h2
      refine g_aload_n rfl (g_getR (mz_at hS (Nat.le_of_ble_eq_true rfl) mzcS_232) mzcf_12_158 (mz_rb hR (Nat.le_of_ble_eq_true rfl) rfl mzcR_232_158) (g_iload_n rfl ?_))
      obtain ⟨h3, hp⟩ := hp
      refine g_lald (mz_at hS (Nat.le_of_ble_eq_true rfl) mzcS_340) h3 (g_con3 (g_aload_n rfl (g_getR (mz_at hS (Nat.le_of_ble_eq_true rfl) mzcS_232) mzcf_12_9 (mz_rb hR (Nat.le_of_ble_eq_true rfl) rfl mzcR_232_9) (g_iload_n rfl ?_))))
      obtain ⟨h4, hp⟩ := hp
      refine g_iald hS.1 (mz_at hS (Nat.le_of_ble_eq_true rfl) mzcS_237) h4 (g_i2l (g_lmul (g_lcmp ?_)))
      refine g_lle (tg := 482) rfl ms_533_482 hC (fun h5 hC => ?_) (fun h5 hC => ?_)
      · have hp := hp.1 h5
        refine g_aload_n rfl (g_iload_n rfl ?_)
        obtain ⟨h6, hp⟩ := hp
        refine g_v2n (Nat.le_of_ble_eq_true rfl) (mz_at hS (Nat.le_of_ble_eq_true rfl) mzcS_232) (fun _ hq => cs_534 (Nat.le_trans (Nat.le_of_ble_eq_true rfl) hd) (hS.le (Nat.le_of_ble_eq_true rfl)) (hR.le (Nat.le_of_ble_eq_true rfl))  s.1 s.2 h6 hq) ?_
        refine g_weak ?_ (g_cl (cg_533_482 hd hS hR s.1 (cf_534_0 s.1 s.2) hr hc1 hx1 hp hC))
        exact ⟨rfl, rfl, trivial⟩
      · have hp := hp.2 h5
        refine g_weak ?_ (g_cl (cg_533_482 hd hS hR s.1 s.2 hr hc1 hx1 hp hC))
        exact ⟨rfl, rfl, trivial⟩
    · have hp := hp.2 h2
      exact g_vret rfl (hr _ (hx1 _ hC))
  · have hp := hp.2 h1
    exact g_vret rfl (hr _ (hx1 _ hC))
theorem cg_533_437 (hd : 2 ≤ d) (hS : mz_extR S 342) (hR : mz_rok R 342)  (v1 : Int32) (N : mz_N) {C0 : (mz_N) → Prop} (hr : ∀ (N2 : mz_N), C0 N2 → Q (.inl none) (mz_k S R N2 b t)) (hp : cp_533_437 v1 N) (hC : C0 (cf_533_437 v1 N)) : mz_G (d, mz_X0 L xs, none, [], mk_533, 7, Q) 437 mt_533_437 [(0, .ref 232), (1, .int v1)] [] false (mz_k S R N b t) := by
  obtain ⟨n, hn⟩ := hp
  exact g_loop (G := fun s => mz_G (d, mz_X0 L xs, none, [], mk_533, 7, Q) 437 mt_533_437 [(0, .ref 232), (1, .int s.1)] [] false (mz_k S R s.2 b t)) (C := C0) (fun C2 hc hx s hP hC => cb_533_437 hd hS hR  s hr hc hx hP hC) n (v1, N) hn hC
theorem cg_533_435 (hd : 2 ≤ d) (hS : mz_extR S 342) (hR : mz_rok R 342)  (N : mz_N) {C0 : (mz_N) → Prop} (hr : ∀ (N2 : mz_N), C0 N2 → Q (.inl none) (mz_k S R N2 b t)) (hp : cp_533_435 N) (hC : C0 (cf_533_435 N)) : mz_G (d, mz_X0 L xs, none, [], mk_533, 7, Q) 435 mt_533_435 [(0, .ref 232)] [] false (mz_k S R N b t) := by
  unfold cf_533_435 at hC
  unfold cp_533_435 at hp
  refine g_iconst mzi_0 (g_istore_n (Nat.le_of_ble_eq_true rfl) rfl ?_)
  refine g_weak ?_ (g_cl (cg_533_437 hd hS hR 0 N hr hp hC))
  exact ⟨rfl, rfl, trivial⟩
theorem cb_533_349 (hd : 2 ≤ d) (hS : mz_extR S 342) (hR : mz_rok R 342)   (s : Int32 × mz_N) {C0 : (mz_N) → Prop} (hr : ∀ (N2 : mz_N), C0 N2 → Q (.inl none) (mz_k S R N2 b t)) {C1 : ((Int32 × mz_N) ⊕ (mz_N)) → Prop} (hc1 : ∀ s2, C1 (.inl s2) → mz_G (d, mz_X0 L xs, none, [], mk_533, 7, Q) 349 mt_533_349 [(0, .ref 232), (1, .int s2.1)] [] false (mz_k S R s2.2 b t)) (hx1 : ∀ z, C1 (.inr z) → C0 z) (hp : cd_533_349  s) (hC : C1 (cq_533_349  s)) : mz_G (d, mz_X0 L xs, none, [], mk_533, 7, Q) 349 mt_533_349 [(0, .ref 232), (1, .int s.1)] [] false (mz_k S R s.2 b t) := by
  unfold cq_533_349 at hC
  unfold cd_533_349 at hp
  refine g_iload_n rfl (g_sipush mzs_240 ?_)
  refine g_icge (tg := 416) rfl ms_533_416 hC (fun h1 hC => ?_) (fun h1 hC => ?_)
  · have hp := hp.1 h1
    refine g_aload_n rfl (g_getR (mz_at hS (Nat.le_of_ble_eq_true rfl) mzcS_232) mzcf_12_45 (mz_rb hR (Nat.le_of_ble_eq_true rfl) rfl mzcR_232_45) (g_iload_n rfl (g_aload_n rfl (g_getR (mz_at hS (Nat.le_of_ble_eq_true rfl) mzcS_232) mzcf_12_47 (mz_rb hR (Nat.le_of_ble_eq_true rfl) rfl mzcR_232_47) (g_iload_n rfl ?_)))))
    obtain ⟨h2, hp⟩ := hp
    refine g_lald (mz_at hS (Nat.le_of_ble_eq_true rfl) mzcS_267) h2 ?_
    obtain ⟨h3, hp⟩ := hp
    refine g_last (mz_at hS (Nat.le_of_ble_eq_true rfl) mzcS_265) h3 (g_aload_n rfl (g_getR (mz_at hS (Nat.le_of_ble_eq_true rfl) mzcS_232) mzcf_12_45 (mz_rb hR (Nat.le_of_ble_eq_true rfl) rfl mzcR_232_45) (g_iload_n rfl (g_dup2 rfl rfl ?_))))
    obtain ⟨h4, hp⟩ := hp
    refine g_lald (mz_at hS (Nat.le_of_ble_eq_true rfl) mzcS_265) h4 (g_aload_n rfl (g_getR (mz_at hS (Nat.le_of_ble_eq_true rfl) mzcS_232) mzcf_12_60 (mz_rb hR (Nat.le_of_ble_eq_true rfl) rfl mzcR_232_60) (g_bipush mzb_10 ?_)))
    obtain ⟨h5, hp⟩ := hp
    refine g_zald (mz_at hS (Nat.le_of_ble_eq_true rfl) mzcS_276) (mz_ibd (by decide)) h5 ?_
    refine g_zeq (tg := 407) rfl ms_533_407 hC (fun h6 hC => ?_) (fun h6 hC => ?_)
    · have hp := hp.1 h6
      refine g_aload_n rfl (g_getR (mz_at hS (Nat.le_of_ble_eq_true rfl) mzcS_232) mzcf_12_45 (mz_rb hR (Nat.le_of_ble_eq_true rfl) rfl mzcR_232_45) (g_iload_n rfl ?_))
      obtain ⟨h7, hp⟩ := hp
      refine g_lald (mz_at hS (Nat.le_of_ble_eq_true rfl) mzcS_265) h7 (g_aload_n rfl (g_getR (mz_at hS (Nat.le_of_ble_eq_true rfl) mzcS_232) mzcf_12_37 (mz_rb hR (Nat.le_of_ble_eq_true rfl) rfl mzcR_232_37) (g_bipush mzb_13 (g_iald hS.1 (mz_at hS (Nat.le_of_ble_eq_true rfl) mzcS_257) (mz_ibd (by decide)) (g_i2l (g_lmul (g_con3 ?_)))))))
      refine g_ldiv (by decide) (g_goto (tg := 408) rfl ms_533_408 ?_)
      refine g_weak ?_ (g_cl (cg_533_408 hd hS hR s.1 (mz_gL (mz_wL s.2 265 s.1 (mz_gL s.2 267 s.1)) 265 s.1) (((mz_gL (mz_wL s.2 265 s.1 (mz_gL s.2 267 s.1)) 265 s.1) * ((mz_gI (mz_wL s.2 265 s.1 (mz_gL s.2 267 s.1)) 257 13).toInt64)) / 50) s.1 (mz_wL s.2 265 s.1 (mz_gL s.2 267 s.1)) hr hc1 hx1 hp hC))
      exact ⟨rfl, rfl, trivial⟩
    · have hp := hp.2 h6
      refine g_lconst mzl_0 ?_
      refine g_weak ?_ (g_cl (cg_533_408 hd hS hR s.1 (mz_gL (mz_wL s.2 265 s.1 (mz_gL s.2 267 s.1)) 265 s.1) 0 s.1 (mz_wL s.2 265 s.1 (mz_gL s.2 267 s.1)) hr hc1 hx1 hp hC))
      exact ⟨rfl, rfl, trivial⟩
  · have hp := hp.2 h1
    refine g_aload_n rfl (g_getR (mz_at hS (Nat.le_of_ble_eq_true rfl) mzcS_232) mzcf_12_37 (mz_rb hR (Nat.le_of_ble_eq_true rfl) rfl mzcR_232_37) (g_bipush mzb_15 (g_iald hS.1 (mz_at hS (Nat.le_of_ble_eq_true rfl) mzcS_257) (mz_ibd (by decide)) (g_iconst mzi_1 ?_))))
    refine g_icne (tg := 435) rfl ms_533_435 hC (fun h8 hC => ?_) (fun h8 hC => ?_)
    · have hp := hp.1 h8
      refine g_aload_n rfl (g_aload_n rfl (g_getR (mz_at hS (Nat.le_of_ble_eq_true rfl) mzcS_232) mzcf_12_45 (mz_rb hR (Nat.le_of_ble_eq_true rfl) rfl mzcR_232_45) ?_))
      obtain ⟨h9, hp⟩ := hp
      refine g_v2n (Nat.le_of_ble_eq_true rfl) (mz_at hS (Nat.le_of_ble_eq_true rfl) mzcS_232) (fun _ hq => cs_513 (Nat.le_trans (Nat.le_of_ble_eq_true rfl) hd) (hS.le (Nat.le_of_ble_eq_true rfl)) (hR.le (Nat.le_of_ble_eq_true rfl)) 265 (mz_at hS (Nat.le_of_ble_eq_true rfl) mzcS_265) s.2 h9 hq) ?_
      refine g_weak ?_ (g_cl (cg_533_435 hd hS hR (cf_513_0 265 s.2) hr hp (hx1 _ hC)))
      exact ⟨rfl, trivial⟩
    · have hp := hp.2 h8
      refine g_weak ?_ (g_cl (cg_533_435 hd hS hR s.2 hr hp (hx1 _ hC)))
      exact ⟨rfl, trivial⟩
theorem cg_533_349 (hd : 2 ≤ d) (hS : mz_extR S 342) (hR : mz_rok R 342)  (v1 : Int32) (N : mz_N) {C0 : (mz_N) → Prop} (hr : ∀ (N2 : mz_N), C0 N2 → Q (.inl none) (mz_k S R N2 b t)) (hp : cp_533_349 v1 N) (hC : C0 (cf_533_349 v1 N)) : mz_G (d, mz_X0 L xs, none, [], mk_533, 7, Q) 349 mt_533_349 [(0, .ref 232), (1, .int v1)] [] false (mz_k S R N b t) := by
  obtain ⟨n, hn⟩ := hp
  exact g_loop (G := fun s => mz_G (d, mz_X0 L xs, none, [], mk_533, 7, Q) 349 mt_533_349 [(0, .ref 232), (1, .int s.1)] [] false (mz_k S R s.2 b t)) (C := C0) (fun C2 hc hx s hP hC => cb_533_349 hd hS hR  s hr hc hx hP hC) n (v1, N) hn hC
theorem cb_533_239 (hd : 2 ≤ d) (hS : mz_extR S 342) (hR : mz_rok R 342)   (s : Int32 × mz_N) {C0 : (mz_N) → Prop} (hr : ∀ (N2 : mz_N), C0 N2 → Q (.inl none) (mz_k S R N2 b t)) {C1 : ((Int32 × mz_N) ⊕ (mz_N)) → Prop} (hc1 : ∀ s2, C1 (.inl s2) → mz_G (d, mz_X0 L xs, none, [], mk_533, 7, Q) 239 mt_533_239 [(0, .ref 232), (1, .int s2.1)] [] false (mz_k S R s2.2 b t)) (hx1 : ∀ z, C1 (.inr z) → C0 z) (hp : cd_533_239  s) (hC : C1 (cq_533_239  s)) : mz_G (d, mz_X0 L xs, none, [], mk_533, 7, Q) 239 mt_533_239 [(0, .ref 232), (1, .int s.1)] [] false (mz_k S R s.2 b t) := by
  unfold cq_533_239 at hC
  unfold cd_533_239 at hp
  refine g_iload_n rfl (g_sipush mzs_550 ?_)
  refine g_icge (tg := 347) rfl ms_533_347 hC (fun h1 hC => ?_) (fun h1 hC => ?_)
  · have hp := hp.1 h1
    refine g_iload_n rfl (g_bipush mzb_110 (g_irem (by decide) ?_))
    refine g_s1v (Nat.le_of_ble_eq_true rfl) (fun _ hq => cs_432 (Nat.le_trans (Nat.le_of_ble_eq_true rfl) hd) (hS.le (Nat.le_of_ble_eq_true rfl)) (hR.le (Nat.le_of_ble_eq_true rfl))  (mz_irem s.1 110) trivial hq) (g_istore_n (Nat.le_of_ble_eq_true rfl) rfl (g_iload_n rfl (g_bipush mzb_110 (g_irem (by decide) ?_))))
    refine g_s1v (Nat.le_of_ble_eq_true rfl) (fun _ hq => cs_433 (Nat.le_trans (Nat.le_of_ble_eq_true rfl) hd) (hS.le (Nat.le_of_ble_eq_true rfl)) (hR.le (Nat.le_of_ble_eq_true rfl))  (mz_irem s.1 110) trivial hq) (g_istore_n (Nat.le_of_ble_eq_true rfl) rfl (g_aload_n rfl (g_getR (mz_at hS (Nat.le_of_ble_eq_true rfl) mzcS_232) mzcf_12_3 (mz_rb hR (Nat.le_of_ble_eq_true rfl) rfl mzcR_232_3) (g_iload_n rfl ?_))))
    obtain ⟨h4, hp⟩ := hp
    refine g_iald hS.1 (mz_at hS (Nat.le_of_ble_eq_true rfl) mzcS_233) h4 ?_
    refine g_ifne (tg := 341) rfl ms_533_341 hC (fun h5 hC => ?_) (fun h5 hC => ?_)
    · have hp := hp.1 h5
      refine g_iload_n rfl ?_
      refine g_iflt (tg := 341) rfl ms_533_341 hC (fun h6 hC => ?_) (fun h6 hC => ?_)
      · have hp := hp.1 h6
        refine g_weak ?_ (g_cl (cg_533_341 hd hS hR s.1 s.2 hr hc1 hx1 hp hC))
        exact ⟨rfl, rfl, trivial⟩
      · have hp := hp.2 h6
        refine g_iload_n rfl ?_
        refine g_iflt (tg := 341) rfl ms_533_341 hC (fun h7 hC => ?_) (fun h7 hC => ?_)
        · have hp := hp.1 h7
          refine g_weak ?_ (g_cl (cg_533_341 hd hS hR s.1 s.2 hr hc1 hx1 hp hC))
          exact ⟨rfl, rfl, trivial⟩
        · have hp := hp.2 h7
          refine g_bipush mzb_48 (g_iload_n rfl (g_bipush mzb_110 (g_idiv (by decide) (g_imul (g_istore (Nat.le_of_ble_eq_true rfl) rfl (g_aload_n rfl (g_getR (mz_at hS (Nat.le_of_ble_eq_true rfl) mzcS_232) mzcf_12_45 (mz_rb hR (Nat.le_of_ble_eq_true rfl) rfl mzcR_232_45) ?_)))))))
          refine g_iload rfl (g_iload_n rfl (g_iadd ?_))
          obtain ⟨h8, hp⟩ := hp
          refine g_lald (mz_at hS (Nat.le_of_ble_eq_true rfl) mzcS_265) h8 (g_aload_n rfl (g_getR (mz_at hS (Nat.le_of_ble_eq_true rfl) mzcS_232) mzcf_12_45 (mz_rb hR (Nat.le_of_ble_eq_true rfl) rfl mzcR_232_45) (g_iload rfl (g_iload_n rfl (g_iadd ?_)))))
          obtain ⟨h9, hp⟩ := hp
          refine g_lald (mz_at hS (Nat.le_of_ble_eq_true rfl) mzcS_265) h9 (g_lsub (g_con3 (g_ldiv (by decide) (g_lstore (Nat.le_of_ble_eq_true rfl) rfl rfl (g_aload_n rfl (g_getR (mz_at hS (Nat.le_of_ble_eq_true rfl) mzcS_232) mzcf_12_47 (mz_rb hR (Nat.le_of_ble_eq_true rfl) rfl mzcR_232_47) (g_iload rfl ?_)))))))
          refine g_iload_n rfl (g_iadd (g_dup2 rfl rfl ?_))
          obtain ⟨h10, hp⟩ := hp
          refine g_lald (mz_at hS (Nat.le_of_ble_eq_true rfl) mzcS_267) h10 (g_lload rfl (g_lsub ?_))
          obtain ⟨h11, hp⟩ := hp
          refine g_last (mz_at hS (Nat.le_of_ble_eq_true rfl) mzcS_267) h11 (g_aload_n rfl (g_getR (mz_at hS (Nat.le_of_ble_eq_true rfl) mzcS_232) mzcf_12_47 (mz_rb hR (Nat.le_of_ble_eq_true rfl) rfl mzcR_232_47) (g_iload rfl (g_iload_n rfl (g_iadd (g_dup2 rfl rfl ?_))))))
          obtain ⟨h12, hp⟩ := hp
          refine g_lald (mz_at hS (Nat.le_of_ble_eq_true rfl) mzcS_267) h12 (g_lload rfl (g_ladd ?_))
          obtain ⟨h13, hp⟩ := hp
          refine g_last (mz_at hS (Nat.le_of_ble_eq_true rfl) mzcS_267) h13 ?_
          refine g_weak ?_ (g_cl (cg_533_341 hd hS hR s.1 (mz_wL (mz_wL s.2 267 ((48 * (s.1 / 110)) + (cf_432_0 (mz_irem s.1 110))) ((mz_gL s.2 267 ((48 * (s.1 / 110)) + (cf_432_0 (mz_irem s.1 110)))) - (((mz_gL s.2 265 ((48 * (s.1 / 110)) + (cf_432_0 (mz_irem s.1 110)))) - (mz_gL s.2 265 ((48 * (s.1 / 110)) + (cf_433_0 (mz_irem s.1 110))))) / 4))) 267 ((48 * (s.1 / 110)) + (cf_433_0 (mz_irem s.1 110))) ((mz_gL (mz_wL s.2 267 ((48 * (s.1 / 110)) + (cf_432_0 (mz_irem s.1 110))) ((mz_gL s.2 267 ((48 * (s.1 / 110)) + (cf_432_0 (mz_irem s.1 110)))) - (((mz_gL s.2 265 ((48 * (s.1 / 110)) + (cf_432_0 (mz_irem s.1 110)))) - (mz_gL s.2 265 ((48 * (s.1 / 110)) + (cf_433_0 (mz_irem s.1 110))))) / 4))) 267 ((48 * (s.1 / 110)) + (cf_433_0 (mz_irem s.1 110)))) + (((mz_gL s.2 265 ((48 * (s.1 / 110)) + (cf_432_0 (mz_irem s.1 110)))) - (mz_gL s.2 265 ((48 * (s.1 / 110)) + (cf_433_0 (mz_irem s.1 110))))) / 4))) hr hc1 hx1 hp hC))
          exact ⟨rfl, rfl, trivial⟩
    · have hp := hp.2 h5
      refine g_weak ?_ (g_cl (cg_533_341 hd hS hR s.1 s.2 hr hc1 hx1 hp hC))
      exact ⟨rfl, rfl, trivial⟩
  · have hp := hp.2 h1
    refine g_iconst mzi_0 (g_istore_n (Nat.le_of_ble_eq_true rfl) rfl ?_)
    refine g_weak ?_ (g_cl (cg_533_349 hd hS hR 0 s.2 hr hp (hx1 _ hC)))
    exact ⟨rfl, rfl, trivial⟩
theorem cg_533_239 (hd : 2 ≤ d) (hS : mz_extR S 342) (hR : mz_rok R 342)  (v1 : Int32) (N : mz_N) {C0 : (mz_N) → Prop} (hr : ∀ (N2 : mz_N), C0 N2 → Q (.inl none) (mz_k S R N2 b t)) (hp : cp_533_239 v1 N) (hC : C0 (cf_533_239 v1 N)) : mz_G (d, mz_X0 L xs, none, [], mk_533, 7, Q) 239 mt_533_239 [(0, .ref 232), (1, .int v1)] [] false (mz_k S R N b t) := by
  obtain ⟨n, hn⟩ := hp
  exact g_loop (G := fun s => mz_G (d, mz_X0 L xs, none, [], mk_533, 7, Q) 239 mt_533_239 [(0, .ref 232), (1, .int s.1)] [] false (mz_k S R s.2 b t)) (C := C0) (fun C2 hc hx s hP hC => cb_533_239 hd hS hR  s hr hc hx hP hC) n (v1, N) hn hC
theorem cb_533_212 (hd : 2 ≤ d) (hS : mz_extR S 342) (hR : mz_rok R 342)   (s : Int32 × mz_N) {C0 : (mz_N) → Prop} (hr : ∀ (N2 : mz_N), C0 N2 → Q (.inl none) (mz_k S R N2 b t)) {C1 : ((Int32 × mz_N) ⊕ (mz_N)) → Prop} (hc1 : ∀ s2, C1 (.inl s2) → mz_G (d, mz_X0 L xs, none, [], mk_533, 7, Q) 212 mt_533_212 [(0, .ref 232), (1, .int s2.1)] [] false (mz_k S R s2.2 b t)) (hx1 : ∀ z, C1 (.inr z) → C0 z) (hp : cd_533_212  s) (hC : C1 (cq_533_212  s)) : mz_G (d, mz_X0 L xs, none, [], mk_533, 7, Q) 212 mt_533_212 [(0, .ref 232), (1, .int s.1)] [] false (mz_k S R s.2 b t) := by
  unfold cq_533_212 at hC
  unfold cd_533_212 at hp
  refine g_iload_n rfl (g_sipush mzs_240 ?_)
  refine g_icge (tg := 237) rfl ms_533_237 hC (fun h1 hC => ?_) (fun h1 hC => ?_)
  · have hp := hp.1 h1
    refine g_aload_n rfl (g_getR (mz_at hS (Nat.le_of_ble_eq_true rfl) mzcS_232) mzcf_12_47 (mz_rb hR (Nat.le_of_ble_eq_true rfl) rfl mzcR_232_47) (g_iload_n rfl (g_aload_n rfl (g_getR (mz_at hS (Nat.le_of_ble_eq_true rfl) mzcS_232) mzcf_12_45 (mz_rb hR (Nat.le_of_ble_eq_true rfl) rfl mzcR_232_45) (g_iload_n rfl ?_)))))
    obtain ⟨h2, hp⟩ := hp
    refine g_lald (mz_at hS (Nat.le_of_ble_eq_true rfl) mzcS_265) h2 ?_
    have h3 := hp
    refine g_last (mz_at hS (Nat.le_of_ble_eq_true rfl) mzcS_267) h3 (g_iinc rfl mzi_1 (Nat.le_of_ble_eq_true rfl) rfl (g_goto (tg := 212) rfl ms_533_212 ?_))
    refine g_weak ?_ (g_cl (hc1 ((s.1 + 1), mz_wL s.2 267 s.1 (mz_gL s.2 265 s.1)) hC))
    exact ⟨rfl, rfl, trivial⟩
  · have hp := hp.2 h1
    refine g_iconst mzi_0 (g_istore_n (Nat.le_of_ble_eq_true rfl) rfl ?_)
    refine g_weak ?_ (g_cl (cg_533_239 hd hS hR 0 s.2 hr hp (hx1 _ hC)))
    exact ⟨rfl, rfl, trivial⟩
theorem cg_533_212 (hd : 2 ≤ d) (hS : mz_extR S 342) (hR : mz_rok R 342)  (v1 : Int32) (N : mz_N) {C0 : (mz_N) → Prop} (hr : ∀ (N2 : mz_N), C0 N2 → Q (.inl none) (mz_k S R N2 b t)) (hp : cp_533_212 v1 N) (hC : C0 (cf_533_212 v1 N)) : mz_G (d, mz_X0 L xs, none, [], mk_533, 7, Q) 212 mt_533_212 [(0, .ref 232), (1, .int v1)] [] false (mz_k S R N b t) := by
  obtain ⟨n, hn⟩ := hp
  exact g_loop (G := fun s => mz_G (d, mz_X0 L xs, none, [], mk_533, 7, Q) 212 mt_533_212 [(0, .ref 232), (1, .int s.1)] [] false (mz_k S R s.2 b t)) (C := C0) (fun C2 hc hx s hP hC => cb_533_212 hd hS hR  s hr hc hx hP hC) n (v1, N) hn hC
theorem cg_533_204 (hd : 2 ≤ d) (hS : mz_extR S 342) (hR : mz_rok R 342)  (v1 : Int32) (N : mz_N) {C0 : (mz_N) → Prop} (hr : ∀ (N2 : mz_N), C0 N2 → Q (.inl none) (mz_k S R N2 b t)) {C1 : ((Int32 × mz_N) ⊕ (mz_N)) → Prop} (hc1 : ∀ s2, C1 (.inl s2) → mz_G (d, mz_X0 L xs, none, [], mk_533, 7, Q) 101 mt_533_101 [(0, .ref 232), (1, .int s2.1)] [] false (mz_k S R s2.2 b t)) (hx1 : ∀ z, C1 (.inr z) → C0 z) (hp : cp_533_204 v1 N) (hC : C1 (cf_533_204 v1 N)) : mz_G (d, mz_X0 L xs, none, [], mk_533, 7, Q) 204 mt_533_204 [(0, .ref 232), (1, .int v1)] [] false (mz_k S R N b t) := by
  unfold cf_533_204 at hC
  unfold cp_533_204 at hp
  refine g_iinc rfl mzi_1 (Nat.le_of_ble_eq_true rfl) rfl (g_goto (tg := 101) rfl ms_533_101 ?_)
  refine g_weak ?_ (g_cl (hc1 ((v1 + 1), N) hC))
  exact ⟨rfl, rfl, trivial⟩
theorem cg_533_198 (hd : 2 ≤ d) (hS : mz_extR S 342) (hR : mz_rok R 342)  (v1 : Int32) (v2 : Int32) (N : mz_N) {C0 : (mz_N) → Prop} (hr : ∀ (N2 : mz_N), C0 N2 → Q (.inl none) (mz_k S R N2 b t)) {C1 : ((Int32 × mz_N) ⊕ (mz_N)) → Prop} (hc1 : ∀ s2, C1 (.inl s2) → mz_G (d, mz_X0 L xs, none, [], mk_533, 7, Q) 101 mt_533_101 [(0, .ref 232), (1, .int s2.1)] [] false (mz_k S R s2.2 b t)) (hx1 : ∀ z, C1 (.inr z) → C0 z) {C2 : ((Int32 × mz_N) ⊕ ((Int32 × mz_N) ⊕ (mz_N))) → Prop} (hc2 : ∀ s2, C2 (.inl s2) → mz_G (d, mz_X0 L xs, none, [], mk_533, 7, Q) 110 mt_533_110 [(0, .ref 232), (1, .int v1), (2, .int s2.1)] [] false (mz_k S R s2.2 b t)) (hx2 : ∀ z, C2 (.inr z) → C1 z) (hp : cp_533_198 v1 v2 N) (hC : C2 (cf_533_198 v1 v2 N)) : mz_G (d, mz_X0 L xs, none, [], mk_533, 7, Q) 198 mt_533_198 [(0, .ref 232), (1, .int v1), (2, .int v2)] [] false (mz_k S R N b t) := by
  unfold cf_533_198 at hC
  unfold cp_533_198 at hp
  refine g_iinc rfl mzi_1 (Nat.le_of_ble_eq_true rfl) rfl (g_goto (tg := 110) rfl ms_533_110 ?_)
  refine g_weak ?_ (g_cl (hc2 ((v2 + 1), N) hC))
  exact ⟨rfl, rfl, rfl, trivial⟩
theorem cb_533_110 (hd : 2 ≤ d) (hS : mz_extR S 342) (hR : mz_rok R 342)  (v1 : Int32) (s : Int32 × mz_N) {C0 : (mz_N) → Prop} (hr : ∀ (N2 : mz_N), C0 N2 → Q (.inl none) (mz_k S R N2 b t)) {C1 : ((Int32 × mz_N) ⊕ (mz_N)) → Prop} (hc1 : ∀ s2, C1 (.inl s2) → mz_G (d, mz_X0 L xs, none, [], mk_533, 7, Q) 101 mt_533_101 [(0, .ref 232), (1, .int s2.1)] [] false (mz_k S R s2.2 b t)) (hx1 : ∀ z, C1 (.inr z) → C0 z) {C2 : ((Int32 × mz_N) ⊕ ((Int32 × mz_N) ⊕ (mz_N))) → Prop} (hc2 : ∀ s2, C2 (.inl s2) → mz_G (d, mz_X0 L xs, none, [], mk_533, 7, Q) 110 mt_533_110 [(0, .ref 232), (1, .int v1), (2, .int s2.1)] [] false (mz_k S R s2.2 b t)) (hx2 : ∀ z, C2 (.inr z) → C1 z) (hp : cd_533_110 v1 s) (hC : C2 (cq_533_110 v1 s)) : mz_G (d, mz_X0 L xs, none, [], mk_533, 7, Q) 110 mt_533_110 [(0, .ref 232), (1, .int v1), (2, .int s.1)] [] false (mz_k S R s.2 b t) := by
  unfold cq_533_110 at hC
  unfold cd_533_110 at hp
  refine g_iload_n rfl (g_iconst mzi_4 ?_)
  refine g_icge (tg := 204) rfl ms_533_204 hC (fun h1 hC => ?_) (fun h1 hC => ?_)
  · have hp := hp.1 h1
    refine g_aload_n rfl (g_getR (mz_at hS (Nat.le_of_ble_eq_true rfl) mzcS_232) mzcf_12_46 (mz_rb hR (Nat.le_of_ble_eq_true rfl) rfl mzcR_232_46) (g_iload_n rfl ?_))
    obtain ⟨h2, hp⟩ := hp
    refine g_lald (mz_at hS (Nat.le_of_ble_eq_true rfl) mzcS_266) h2 (g_con3 (g_lcmp ?_))
    refine g_lne (tg := 204) rfl ms_533_204 hC (fun h3 hC => ?_) (fun h3 hC => ?_)
    · have hp := hp.1 h3
      refine g_iload_n rfl (g_bipush mzb_48 (g_irem (by decide) (g_iload_n rfl ?_)))
      refine g_s2v (Nat.le_of_ble_eq_true rfl) (fun _ hq => cs_430 (Nat.le_trans (Nat.le_of_ble_eq_true rfl) hd) (hS.le (Nat.le_of_ble_eq_true rfl)) (hR.le (Nat.le_of_ble_eq_true rfl))  (mz_irem v1 48) s.1 trivial hq) (g_istore_n (Nat.le_of_ble_eq_true rfl) rfl (g_iload_n rfl (g_bipush mzb_48 (g_idiv (by decide) (g_bipush mzb_48 (g_imul (g_iload_n rfl ?_)))))))
      refine g_iadd (g_istore (Nat.le_of_ble_eq_true rfl) rfl (g_iload_n rfl ?_))
      refine g_iflt (tg := 198) rfl ms_533_198 hC (fun h5 hC => ?_) (fun h5 hC => ?_)
      · have hp := hp.1 h5
        refine g_weak ?_ (g_cl (cg_533_198 hd hS hR v1 s.1 s.2 hr hc1 hx1 hc2 hx2 hp hC))
        exact ⟨rfl, rfl, rfl, trivial⟩
      · have hp := hp.2 h5
        refine g_aload_n rfl (g_getR (mz_at hS (Nat.le_of_ble_eq_true rfl) mzcS_232) mzcf_12_3 (mz_rb hR (Nat.le_of_ble_eq_true rfl) rfl mzcR_232_3) (g_bipush mzb_110 (g_iload_n rfl (g_bipush mzb_48 (g_idiv (by decide) (g_imul (g_iload_n rfl ?_)))))))
        refine g_bipush mzb_48 (g_irem (by decide) (g_iload_n rfl ?_))
        refine g_s2v (Nat.le_of_ble_eq_true rfl) (fun _ hq => cs_431 (Nat.le_trans (Nat.le_of_ble_eq_true rfl) hd) (hS.le (Nat.le_of_ble_eq_true rfl)) (hR.le (Nat.le_of_ble_eq_true rfl))  (mz_irem v1 48) s.1 trivial hq) (g_iadd ?_)
        obtain ⟨h7, hp⟩ := hp
        refine g_iald hS.1 (mz_at hS (Nat.le_of_ble_eq_true rfl) mzcS_233) h7 ?_
        refine g_ifne (tg := 198) rfl ms_533_198 hC (fun h8 hC => ?_) (fun h8 hC => ?_)
        · have hp := hp.1 h8
          refine g_aload_n rfl (g_getR (mz_at hS (Nat.le_of_ble_eq_true rfl) mzcS_232) mzcf_12_44 (mz_rb hR (Nat.le_of_ble_eq_true rfl) rfl mzcR_232_44) (g_iload rfl ?_))
          obtain ⟨h9, hp⟩ := hp
          refine g_lald (mz_at hS (Nat.le_of_ble_eq_true rfl) mzcS_264) h9 (g_lconst mzl_0 (g_lcmp ?_))
          refine g_lne (tg := 198) rfl ms_533_198 hC (fun h10 hC => ?_) (fun h10 hC => ?_)
          · have hp := hp.1 h10
            refine g_aload_n rfl (g_getR (mz_at hS (Nat.le_of_ble_eq_true rfl) mzcS_232) mzcf_12_44 (mz_rb hR (Nat.le_of_ble_eq_true rfl) rfl mzcR_232_44) (g_iload rfl (g_con3 ?_)))
            obtain ⟨h11, hp⟩ := hp
            refine g_last (mz_at hS (Nat.le_of_ble_eq_true rfl) mzcS_264) h11 ?_
            refine g_weak ?_ (g_cl (cg_533_198 hd hS hR v1 s.1 (mz_wL s.2 264 (((v1 / 48) * 48) + (cf_430_0 (mz_irem v1 48) s.1)) 10) hr hc1 hx1 hc2 hx2 hp hC))
            exact ⟨rfl, rfl, rfl, trivial⟩
          · have hp := hp.2 h10
            refine g_weak ?_ (g_cl (cg_533_198 hd hS hR v1 s.1 s.2 hr hc1 hx1 hc2 hx2 hp hC))
            exact ⟨rfl, rfl, rfl, trivial⟩
        · have hp := hp.2 h8
          refine g_weak ?_ (g_cl (cg_533_198 hd hS hR v1 s.1 s.2 hr hc1 hx1 hc2 hx2 hp hC))
          exact ⟨rfl, rfl, rfl, trivial⟩
    · have hp := hp.2 h3
      refine g_weak ?_ (g_cl (cg_533_204 hd hS hR v1 s.2 hr hc1 hx1 hp (hx2 _ hC)))
      exact ⟨rfl, rfl, trivial⟩
  · have hp := hp.2 h1
    refine g_weak ?_ (g_cl (cg_533_204 hd hS hR v1 s.2 hr hc1 hx1 hp (hx2 _ hC)))
    exact ⟨rfl, rfl, trivial⟩
theorem cg_533_110 (hd : 2 ≤ d) (hS : mz_extR S 342) (hR : mz_rok R 342)  (v1 : Int32) (v2 : Int32) (N : mz_N) {C0 : (mz_N) → Prop} (hr : ∀ (N2 : mz_N), C0 N2 → Q (.inl none) (mz_k S R N2 b t)) {C1 : ((Int32 × mz_N) ⊕ (mz_N)) → Prop} (hc1 : ∀ s2, C1 (.inl s2) → mz_G (d, mz_X0 L xs, none, [], mk_533, 7, Q) 101 mt_533_101 [(0, .ref 232), (1, .int s2.1)] [] false (mz_k S R s2.2 b t)) (hx1 : ∀ z, C1 (.inr z) → C0 z) (hp : cp_533_110 v1 v2 N) (hC : C1 (cf_533_110 v1 v2 N)) : mz_G (d, mz_X0 L xs, none, [], mk_533, 7, Q) 110 mt_533_110 [(0, .ref 232), (1, .int v1), (2, .int v2)] [] false (mz_k S R N b t) := by
  obtain ⟨n, hn⟩ := hp
  exact g_loop (G := fun s => mz_G (d, mz_X0 L xs, none, [], mk_533, 7, Q) 110 mt_533_110 [(0, .ref 232), (1, .int v1), (2, .int s.1)] [] false (mz_k S R s.2 b t)) (C := C1) (fun C2 hc hx s hP hC => cb_533_110 hd hS hR v1 s hr hc1 hx1 hc hx hP hC) n (v2, N) hn hC
theorem cb_533_101 (hd : 2 ≤ d) (hS : mz_extR S 342) (hR : mz_rok R 342)   (s : Int32 × mz_N) {C0 : (mz_N) → Prop} (hr : ∀ (N2 : mz_N), C0 N2 → Q (.inl none) (mz_k S R N2 b t)) {C1 : ((Int32 × mz_N) ⊕ (mz_N)) → Prop} (hc1 : ∀ s2, C1 (.inl s2) → mz_G (d, mz_X0 L xs, none, [], mk_533, 7, Q) 101 mt_533_101 [(0, .ref 232), (1, .int s2.1)] [] false (mz_k S R s2.2 b t)) (hx1 : ∀ z, C1 (.inr z) → C0 z) (hp : cd_533_101  s) (hC : C1 (cq_533_101  s)) : mz_G (d, mz_X0 L xs, none, [], mk_533, 7, Q) 101 mt_533_101 [(0, .ref 232), (1, .int s.1)] [] false (mz_k S R s.2 b t) := by
  unfold cq_533_101 at hC
  unfold cd_533_101 at hp
  refine g_iload_n rfl (g_sipush mzs_240 ?_)
  refine g_icge (tg := 210) rfl ms_533_210 hC (fun h1 hC => ?_) (fun h1 hC => ?_)
  · have hp := hp.1 h1
    refine g_iconst mzi_0 (g_istore_n (Nat.le_of_ble_eq_true rfl) rfl ?_)
    refine g_weak ?_ (g_cl (cg_533_110 hd hS hR s.1 0 s.2 hr hc1 hx1 hp hC))
    exact ⟨rfl, rfl, rfl, trivial⟩
  · have hp := hp.2 h1
    refine g_iconst mzi_0 (g_istore_n (Nat.le_of_ble_eq_true rfl) rfl ?_)
    refine g_weak ?_ (g_cl (cg_533_212 hd hS hR 0 s.2 hr hp (hx1 _ hC)))
    exact ⟨rfl, rfl, trivial⟩
theorem cg_533_101 (hd : 2 ≤ d) (hS : mz_extR S 342) (hR : mz_rok R 342)  (v1 : Int32) (N : mz_N) {C0 : (mz_N) → Prop} (hr : ∀ (N2 : mz_N), C0 N2 → Q (.inl none) (mz_k S R N2 b t)) (hp : cp_533_101 v1 N) (hC : C0 (cf_533_101 v1 N)) : mz_G (d, mz_X0 L xs, none, [], mk_533, 7, Q) 101 mt_533_101 [(0, .ref 232), (1, .int v1)] [] false (mz_k S R N b t) := by
  obtain ⟨n, hn⟩ := hp
  exact g_loop (G := fun s => mz_G (d, mz_X0 L xs, none, [], mk_533, 7, Q) 101 mt_533_101 [(0, .ref 232), (1, .int s.1)] [] false (mz_k S R s.2 b t)) (C := C0) (fun C2 hc hx s hP hC => cb_533_101 hd hS hR  s hr hc hx hP hC) n (v1, N) hn hC
theorem cb_533_2 (hd : 2 ≤ d) (hS : mz_extR S 342) (hR : mz_rok R 342)   (s : Int32 × mz_N) {C0 : (mz_N) → Prop} (hr : ∀ (N2 : mz_N), C0 N2 → Q (.inl none) (mz_k S R N2 b t)) {C1 : ((Int32 × mz_N) ⊕ (mz_N)) → Prop} (hc1 : ∀ s2, C1 (.inl s2) → mz_G (d, mz_X0 L xs, none, [], mk_533, 7, Q) 2 mt_533_2 [(0, .ref 232), (1, .int s2.1)] [] false (mz_k S R s2.2 b t)) (hx1 : ∀ z, C1 (.inr z) → C0 z) (hp : cd_533_2  s) (hC : C1 (cq_533_2  s)) : mz_G (d, mz_X0 L xs, none, [], mk_533, 7, Q) 2 mt_533_2 [(0, .ref 232), (1, .int s.1)] [] false (mz_k S R s.2 b t) := by
  unfold cq_533_2 at hC
  unfold cd_533_2 at hp
  refine g_iload_n rfl (g_sipush mzs_240 ?_)
  refine g_icge (tg := 99) rfl ms_533_99 hC (fun h1 hC => ?_) (fun h1 hC => ?_)
  · have hp := hp.1 h1
    refine g_aload_n rfl (g_getR (mz_at hS (Nat.le_of_ble_eq_true rfl) mzcS_232) mzcf_12_46 (mz_rb hR (Nat.le_of_ble_eq_true rfl) rfl mzcR_232_46) (g_iload_n rfl (g_aload_n rfl (g_getR (mz_at hS (Nat.le_of_ble_eq_true rfl) mzcS_232) mzcf_12_44 (mz_rb hR (Nat.le_of_ble_eq_true rfl) rfl mzcR_232_44) (g_iload_n rfl ?_)))))
    obtain ⟨h2, hp⟩ := hp
    refine g_lald (mz_at hS (Nat.le_of_ble_eq_true rfl) mzcS_264) h2 ?_
    obtain ⟨h3, hp⟩ := hp
    refine g_last (mz_at hS (Nat.le_of_ble_eq_true rfl) mzcS_266) h3 (g_aload_n rfl (g_getR (mz_at hS (Nat.le_of_ble_eq_true rfl) mzcS_232) mzcf_12_44 (mz_rb hR (Nat.le_of_ble_eq_true rfl) rfl mzcR_232_44) (g_iload_n rfl ?_)))
    obtain ⟨h4, hp⟩ := hp
    refine g_lald (mz_at hS (Nat.le_of_ble_eq_true rfl) mzcS_264) h4 (g_lconst mzl_0 (g_lcmp ?_))
    refine g_lle (tg := 93) rfl ms_533_93 hC (fun h5 hC => ?_) (fun h5 hC => ?_)
    · have hp := hp.1 h5
      refine g_aload_n rfl (g_getR (mz_at hS (Nat.le_of_ble_eq_true rfl) mzcS_232) mzcf_12_45 (mz_rb hR (Nat.le_of_ble_eq_true rfl) rfl mzcR_232_45) (g_iload_n rfl (g_dup2 rfl rfl ?_)))
      obtain ⟨h6, hp⟩ := hp
      refine g_lald (mz_at hS (Nat.le_of_ble_eq_true rfl) mzcS_265) h6 (g_con3 (g_aload_n rfl (g_getR (mz_at hS (Nat.le_of_ble_eq_true rfl) mzcS_232) mzcf_12_44 (mz_rb hR (Nat.le_of_ble_eq_true rfl) rfl mzcR_232_44) (g_iload_n rfl ?_))))
      obtain ⟨h7, hp⟩ := hp
      refine g_lald (mz_at hS (Nat.le_of_ble_eq_true rfl) mzcS_264) h7 (g_lmul (g_ladd ?_))
      obtain ⟨h8, hp⟩ := hp
      refine g_last (mz_at hS (Nat.le_of_ble_eq_true rfl) mzcS_265) h8 ?_
      refine g_weak ?_ (g_cl (cg_533_51 hd hS hR s.1 (mz_wL (mz_wL s.2 266 s.1 (mz_gL s.2 264 s.1)) 265 s.1 ((mz_gL (mz_wL s.2 266 s.1 (mz_gL s.2 264 s.1)) 265 s.1) + (2 * (mz_gL (mz_wL s.2 266 s.1 (mz_gL s.2 264 s.1)) 264 s.1)))) hr hc1 hx1 hp hC))
      exact ⟨rfl, rfl, trivial⟩
    · have hp := hp.2 h5
      refine g_weak ?_ (g_cl (cg_533_93 hd hS hR s.1 (mz_wL s.2 266 s.1 (mz_gL s.2 264 s.1)) hr hc1 hx1 hp hC))
      exact ⟨rfl, rfl, trivial⟩
  · have hp := hp.2 h1
    refine g_iconst mzi_0 (g_istore_n (Nat.le_of_ble_eq_true rfl) rfl ?_)
    refine g_weak ?_ (g_cl (cg_533_101 hd hS hR 0 s.2 hr hp (hx1 _ hC)))
    exact ⟨rfl, rfl, trivial⟩
theorem cg_533_2 (hd : 2 ≤ d) (hS : mz_extR S 342) (hR : mz_rok R 342)  (v1 : Int32) (N : mz_N) {C0 : (mz_N) → Prop} (hr : ∀ (N2 : mz_N), C0 N2 → Q (.inl none) (mz_k S R N2 b t)) (hp : cp_533_2 v1 N) (hC : C0 (cf_533_2 v1 N)) : mz_G (d, mz_X0 L xs, none, [], mk_533, 7, Q) 2 mt_533_2 [(0, .ref 232), (1, .int v1)] [] false (mz_k S R N b t) := by
  obtain ⟨n, hn⟩ := hp
  exact g_loop (G := fun s => mz_G (d, mz_X0 L xs, none, [], mk_533, 7, Q) 2 mt_533_2 [(0, .ref 232), (1, .int s.1)] [] false (mz_k S R s.2 b t)) (C := C0) (fun C2 hc hx s hP hC => cb_533_2 hd hS hR  s hr hc hx hP hC) n (v1, N) hn hC
theorem cg_533_0 (hd : 2 ≤ d) (hS : mz_extR S 342) (hR : mz_rok R 342)  (N : mz_N) {C0 : (mz_N) → Prop} (hr : ∀ (N2 : mz_N), C0 N2 → Q (.inl none) (mz_k S R N2 b t)) (hp : cp_533_0 N) (hC : C0 (cf_533_0 N)) : mz_G (d, mz_X0 L xs, none, [], mk_533, 7, Q) 0 mk_533 [(0, .ref 232)] [] true (mz_k S R N b t) := by
  unfold cf_533_0 at hC
  unfold cp_533_0 at hp
  refine g_iconst mzi_0 (g_istore_n (Nat.le_of_ble_eq_true rfl) rfl ?_)
  refine g_weak ?_ (g_cl (cg_533_2 hd hS hR 0 N hr hp hC))
  exact ⟨rfl, rfl, trivial⟩
theorem cs_533 (hd : 3 ≤ d) (hS : mz_extR S 342) (hR : mz_rok R 342)  (N : mz_N) (hp : cp_533_0 N) (hq : Q (.inl none) (mz_k S R (cf_533_0 N) b t)) : mz_Ed (mz_X0 L xs) d 533 [.ref 232] (mz_k S R N b t) Q :=
  by
  refine g_in mzq_533 (Nat.le_of_ble_eq_true rfl) (Nat.le_of_ble_eq_true rfl) (Nat.le_trans (Nat.le_of_ble_eq_true rfl) hd) ?_
  refine g_weak ?_ (cg_533_0 (d := d - 1) (by omega) hS hR N (C0 := fun z => Q (.inl none) (mz_k S R z b t)) (fun _ h => h) hp hq)
  exact ⟨rfl, trivial⟩
/-! 536 KeptHouseModel.giveTicket (III)I -/
theorem ms_536_0 : mz_sf mk_536 0 = mk_536 := mz_sf_zero _
theorem ms_536_3 : mz_sf mk_536 3 = mt_536_3 := mz_sf_add ms_536_0 (t := 3) rfl rfl
theorem ms_536_26 : mz_sf mk_536 26 = mt_536_26 := mz_sf_add ms_536_3 (t := 23) rfl rfl
theorem ms_536_35 : mz_sf mk_536 35 = mt_536_35 := mz_sf_add ms_536_26 (t := 9) rfl rfl
theorem ms_536_59 : mz_sf mk_536 59 = mt_536_59 := mz_sf_add ms_536_35 (t := 24) rfl rfl
theorem ms_536_89 : mz_sf mk_536 89 = mt_536_89 := mz_sf_add ms_536_59 (t := 30) rfl rfl
set_option maxRecDepth 100000 in
theorem mzq_536 : mz_PG0 536 = some (12, ⟨"KeptHouseModel", "giveTicket", "(III)I"⟩, prog_14_method_123_code, 5, some .int, [], mk_536, []) := rfl
theorem cg_536_89 (hd : 0 ≤ d) (hS : mz_extR S 342) (hR : mz_rok R 342)  (v4 : Int32) (N : mz_N) {C0 : (Int32 × mz_N) → Prop} (hr : ∀ (w : Int32) (N2 : mz_N), C0 (w, N2) → Q (.inl (some (.int w))) (mz_k S R N2 b t)) (hp : cp_536_89 v4 N) (hC : C0 (cf_536_89 v4 N)) : mz_G (d, mz_X0 L xs, some .int, [], mk_536, 5, Q) 89 mt_536_89 [(0, .ref 232), (4, .int v4)] [] false (mz_k S R N b t) := by
  unfold cf_536_89 at hC
  unfold cp_536_89 at hp
  refine g_aload_n rfl (g_getR (mz_at hS (Nat.le_of_ble_eq_true rfl) mzcS_232) mzcf_12_86 (mz_rb hR (Nat.le_of_ble_eq_true rfl) rfl mzcR_232_86) (g_iload rfl (g_iconst mzi_m1 ?_)))
  have h1 := hp
  refine g_iast (mz_at hS (Nat.le_of_ble_eq_true rfl) mzcS_293) h1 (g_aload_n rfl (g_dup rfl (g_getL (mz_at hS (Nat.le_of_ble_eq_true rfl) mzcS_232) mzcf_12_87 (g_lconst mzl_1 (g_ladd (g_putL (mz_at hS (Nat.le_of_ble_eq_true rfl) mzcS_232) mzcf_12_87 (g_iload rfl ?_)))))))
  exact g_iret rfl (hr _ _ hC)
theorem cg_536_26 (hd : 0 ≤ d) (hS : mz_extR S 342) (hR : mz_rok R 342)  (v1 : Int32) (v2 : Int32) (v3 : Int32) (v4 : Int32) (N : mz_N) {C0 : (Int32 × mz_N) → Prop} (hr : ∀ (w : Int32) (N2 : mz_N), C0 (w, N2) → Q (.inl (some (.int w))) (mz_k S R N2 b t)) (hp : cp_536_26 v1 v2 v3 v4 N) (hC : C0 (cf_536_26 v1 v2 v3 v4 N)) : mz_G (d, mz_X0 L xs, some .int, [], mk_536, 5, Q) 26 mt_536_26 [(0, .ref 232), (1, .int v1), (2, .int v2), (3, .int v3), (4, .int v4)] [] false (mz_k S R N b t) := by
  unfold cf_536_26 at hC
  unfold cp_536_26 at hp
  refine g_iload rfl (g_bipush mzb_16 ?_)
  refine g_icne (tg := 35) rfl ms_536_35 hC (fun h1 hC => ?_) (fun h1 hC => ?_)
  · have hp := hp.1 h1
    refine g_iconst mzi_m1 ?_
    exact g_iret rfl (hr _ _ hC)
  · have hp := hp.2 h1
    refine g_aload_n rfl (g_getR (mz_at hS (Nat.le_of_ble_eq_true rfl) mzcS_232) mzcf_12_80 (mz_rb hR (Nat.le_of_ble_eq_true rfl) rfl mzcR_232_80) (g_iload rfl (g_iconst mzi_1 ?_)))
    obtain ⟨h2, hp⟩ := hp
    refine g_zast (z := true) (mz_at hS (Nat.le_of_ble_eq_true rfl) mzcS_287) h2 (g_aload_n rfl (g_getR (mz_at hS (Nat.le_of_ble_eq_true rfl) mzcS_232) mzcf_12_81 (mz_rb hR (Nat.le_of_ble_eq_true rfl) rfl mzcR_232_81) (g_iload rfl (g_iload_n rfl ?_))))
    obtain ⟨h3, hp⟩ := hp
    refine g_iast (mz_at hS (Nat.le_of_ble_eq_true rfl) mzcS_288) h3 (g_aload_n rfl (g_getR (mz_at hS (Nat.le_of_ble_eq_true rfl) mzcS_232) mzcf_12_82 (mz_rb hR (Nat.le_of_ble_eq_true rfl) rfl mzcR_232_82) (g_iload rfl (g_iload_n rfl ?_))))
    obtain ⟨h4, hp⟩ := hp
    refine g_iast (mz_at hS (Nat.le_of_ble_eq_true rfl) mzcS_289) h4 (g_aload_n rfl (g_getR (mz_at hS (Nat.le_of_ble_eq_true rfl) mzcS_232) mzcf_12_83 (mz_rb hR (Nat.le_of_ble_eq_true rfl) rfl mzcR_232_83) (g_iload rfl (g_iload_n rfl ?_))))
    obtain ⟨h5, hp⟩ := hp
    refine g_iast (mz_at hS (Nat.le_of_ble_eq_true rfl) mzcS_290) h5 (g_aload_n rfl (g_getR (mz_at hS (Nat.le_of_ble_eq_true rfl) mzcS_232) mzcf_12_84 (mz_rb hR (Nat.le_of_ble_eq_true rfl) rfl mzcR_232_84) (g_iload rfl (g_aload_n rfl (g_getL (mz_at hS (Nat.le_of_ble_eq_true rfl) mzcS_232) mzcf_12_2 ?_)))))
    obtain ⟨h6, hp⟩ := hp
    refine g_last (mz_at hS (Nat.le_of_ble_eq_true rfl) mzcS_291) h6 (g_aload_n rfl (g_getR (mz_at hS (Nat.le_of_ble_eq_true rfl) mzcS_232) mzcf_12_85 (mz_rb hR (Nat.le_of_ble_eq_true rfl) rfl mzcR_232_85) (g_iload rfl (g_aload_n rfl (g_getL (mz_at hS (Nat.le_of_ble_eq_true rfl) mzcS_232) mzcf_12_87 ?_)))))
    obtain ⟨h7, hp⟩ := hp
    refine g_last (mz_at hS (Nat.le_of_ble_eq_true rfl) mzcS_292) h7 ?_
    refine g_weak ?_ (g_cl (cg_536_89 hd hS hR v4 (mz_wL (mz_wL (mz_wI (mz_wI (mz_wI (mz_wI N 287 v4 (mz_b01 true)) 288 v4 v1) 289 v4 v2) 290 v4 v3) 291 v4 ((mz_wI (mz_wI (mz_wI (mz_wI N 287 v4 (mz_b01 true)) 288 v4 v1) 289 v4 v2) 290 v4 v3).2 232 2)) 292 v4 ((mz_wL (mz_wI (mz_wI (mz_wI (mz_wI N 287 v4 (mz_b01 true)) 288 v4 v1) 289 v4 v2) 290 v4 v3) 291 v4 ((mz_wI (mz_wI (mz_wI (mz_wI N 287 v4 (mz_b01 true)) 288 v4 v1) 289 v4 v2) 290 v4 v3).2 232 2)).2 232 87)) hr hp hC))
    exact ⟨rfl, rfl, trivial⟩
theorem cb_536_3 (hd : 0 ≤ d) (hS : mz_extR S 342) (hR : mz_rok R 342)  (v1 : Int32) (v2 : Int32) (v3 : Int32) (N : mz_N) (s : Int32) {C0 : (Int32 × mz_N) → Prop} (hr : ∀ (w : Int32) (N2 : mz_N), C0 (w, N2) → Q (.inl (some (.int w))) (mz_k S R N2 b t)) {C1 : ((Int32) ⊕ (Int32 × mz_N)) → Prop} (hc1 : ∀ s2, C1 (.inl s2) → mz_G (d, mz_X0 L xs, some .int, [], mk_536, 5, Q) 3 mt_536_3 [(0, .ref 232), (1, .int v1), (2, .int v2), (3, .int v3), (4, .int s2)] [] false (mz_k S R N b t)) (hx1 : ∀ z, C1 (.inr z) → C0 z) (hp : cd_536_3 v1 v2 v3 N s) (hC : C1 (cq_536_3 v1 v2 v3 N s)) : mz_G (d, mz_X0 L xs, some .int, [], mk_536, 5, Q) 3 mt_536_3 [(0, .ref 232), (1, .int v1), (2, .int v2), (3, .int v3), (4, .int s)] [] false (mz_k S R N b t) := by
  unfold cq_536_3 at hC
  unfold cd_536_3 at hp
  refine g_iload rfl (g_bipush mzb_16 ?_)
  refine g_icge (tg := 26) rfl ms_536_26 hC (fun h1 hC => ?_) (fun h1 hC => ?_)
  · have hp := hp.1 h1
    refine g_aload_n rfl (g_getR (mz_at hS (Nat.le_of_ble_eq_true rfl) mzcS_232) mzcf_12_80 (mz_rb hR (Nat.le_of_ble_eq_true rfl) rfl mzcR_232_80) (g_iload rfl ?_))
    obtain ⟨h2, hp⟩ := hp
    obtain ⟨h3, hp⟩ := hp
    refine g_zald (mz_at hS (Nat.le_of_ble_eq_true rfl) mzcS_287) h2 h3 ?_
    refine g_zeq (tg := 26) rfl ms_536_26 hC (fun h4 hC => ?_) (fun h4 hC => ?_)
    · have hp := hp.1 h4
      refine g_iinc rfl mzi_1 (Nat.le_of_ble_eq_true rfl) rfl (g_goto (tg := 3) rfl ms_536_3 ?_)
      refine g_weak ?_ (g_cl (hc1 ((s + 1)) hC))
      exact ⟨rfl, rfl, rfl, rfl, rfl, trivial⟩
    · have hp := hp.2 h4
      refine g_weak ?_ (g_cl (cg_536_26 hd hS hR v1 v2 v3 s N hr hp (hx1 _ hC)))
      exact ⟨rfl, rfl, rfl, rfl, rfl, trivial⟩
  · have hp := hp.2 h1
    refine g_weak ?_ (g_cl (cg_536_26 hd hS hR v1 v2 v3 s N hr hp (hx1 _ hC)))
    exact ⟨rfl, rfl, rfl, rfl, rfl, trivial⟩
theorem cg_536_3 (hd : 0 ≤ d) (hS : mz_extR S 342) (hR : mz_rok R 342)  (v1 : Int32) (v2 : Int32) (v3 : Int32) (v4 : Int32) (N : mz_N) {C0 : (Int32 × mz_N) → Prop} (hr : ∀ (w : Int32) (N2 : mz_N), C0 (w, N2) → Q (.inl (some (.int w))) (mz_k S R N2 b t)) (hp : cp_536_3 v1 v2 v3 v4 N) (hC : C0 (cf_536_3 v1 v2 v3 v4 N)) : mz_G (d, mz_X0 L xs, some .int, [], mk_536, 5, Q) 3 mt_536_3 [(0, .ref 232), (1, .int v1), (2, .int v2), (3, .int v3), (4, .int v4)] [] false (mz_k S R N b t) := by
  obtain ⟨n, hn⟩ := hp
  exact g_loop (G := fun s => mz_G (d, mz_X0 L xs, some .int, [], mk_536, 5, Q) 3 mt_536_3 [(0, .ref 232), (1, .int v1), (2, .int v2), (3, .int v3), (4, .int s)] [] false (mz_k S R N b t)) (C := C0) (fun C2 hc hx s hP hC => cb_536_3 hd hS hR v1 v2 v3 N s hr hc hx hP hC) n (v4) hn hC
theorem cg_536_0 (hd : 0 ≤ d) (hS : mz_extR S 342) (hR : mz_rok R 342)  (v1 : Int32) (v2 : Int32) (v3 : Int32) (N : mz_N) {C0 : (Int32 × mz_N) → Prop} (hr : ∀ (w : Int32) (N2 : mz_N), C0 (w, N2) → Q (.inl (some (.int w))) (mz_k S R N2 b t)) (hp : cp_536_0 v1 v2 v3 N) (hC : C0 (cf_536_0 v1 v2 v3 N)) : mz_G (d, mz_X0 L xs, some .int, [], mk_536, 5, Q) 0 mk_536 [(0, .ref 232), (1, .int v1), (2, .int v2), (3, .int v3)] [] true (mz_k S R N b t) := by
  unfold cf_536_0 at hC
  unfold cp_536_0 at hp
  refine g_iconst mzi_0 (g_istore (Nat.le_of_ble_eq_true rfl) rfl ?_)
  refine g_weak ?_ (g_cl (cg_536_3 hd hS hR v1 v2 v3 0 N hr hp hC))
  exact ⟨rfl, rfl, rfl, rfl, rfl, trivial⟩
theorem cs_536 (hd : 1 ≤ d) (hS : mz_extR S 342) (hR : mz_rok R 342)  (v1 : Int32) (v2 : Int32) (v3 : Int32) (N : mz_N) (hp : cp_536_0 v1 v2 v3 N) (hq : Q (.inl (some (.int ((cf_536_0 v1 v2 v3 N).1)))) (mz_k S R ((cf_536_0 v1 v2 v3 N).2) b t)) : mz_Ed (mz_X0 L xs) d 536 [.ref 232, .int v1, .int v2, .int v3] (mz_k S R N b t) Q :=
  by
  refine g_in mzq_536 (Nat.le_of_ble_eq_true rfl) (Nat.le_of_ble_eq_true rfl) (Nat.le_trans (Nat.le_of_ble_eq_true rfl) hd) ?_
  refine g_weak ?_ (cg_536_0 (d := d - 1) (by omega) hS hR v1 v2 v3 N (C0 := fun z => Q (.inl (some (.int z.1))) (mz_k S R z.2 b t)) (fun _ _ h => h) hp hq)
  exact ⟨rfl, rfl, rfl, rfl, trivial⟩
/-! 535 KeptHouseModel.wears ()Z -/
theorem ms_535_0 : mz_sf mk_535 0 = mk_535 := mz_sf_zero _
theorem ms_535_20 : mz_sf mk_535 20 = mt_535_20 := mz_sf_add ms_535_0 (t := 20) rfl rfl
theorem ms_535_21 : mz_sf mk_535 21 = mt_535_21 := mz_sf_add ms_535_20 (t := 1) rfl rfl
theorem ms_535_41 : mz_sf mk_535 41 = mt_535_41 := mz_sf_add ms_535_21 (t := 20) rfl rfl
theorem ms_535_42 : mz_sf mk_535 42 = mt_535_42 := mz_sf_add ms_535_41 (t := 1) rfl rfl
theorem ms_535_62 : mz_sf mk_535 62 = mt_535_62 := mz_sf_add ms_535_42 (t := 20) rfl rfl
theorem ms_535_63 : mz_sf mk_535 63 = mt_535_63 := mz_sf_add ms_535_62 (t := 1) rfl rfl
theorem ms_535_67 : mz_sf mk_535 67 = mt_535_67 := mz_sf_add ms_535_63 (t := 4) rfl rfl
theorem ms_535_98 : mz_sf mk_535 98 = mt_535_98 := mz_sf_add ms_535_67 (t := 31) rfl rfl
theorem ms_535_124 : mz_sf mk_535 124 = mt_535_124 := mz_sf_add ms_535_98 (t := 26) rfl rfl
theorem ms_535_135 : mz_sf mk_535 135 = mt_535_135 := mz_sf_add ms_535_124 (t := 11) rfl rfl
theorem ms_535_144 : mz_sf mk_535 144 = mt_535_144 := mz_sf_add ms_535_135 (t := 9) rfl rfl
theorem ms_535_150 : mz_sf mk_535 150 = mt_535_150 := mz_sf_add ms_535_144 (t := 6) rfl rfl
set_option maxRecDepth 100000 in
theorem mzq_535 : mz_PG0 535 = some (12, ⟨"KeptHouseModel", "wears", "()Z"⟩, prog_14_method_103_code, 3, some .boolean, [], mk_535, []) := rfl
theorem cg_535_144 (hd : 5 ≤ d) (hS : mz_extR S 342) (hR : mz_rok R 342)  (v1 : Int32) (N : mz_N) {C0 : (Bool × mz_N) → Prop} (hr : ∀ (w : Bool) (N2 : mz_N), C0 (w, N2) → Q (.inl (some (.int (mz_b01 w)))) (mz_k S R N2 b t)) {C1 : ((Int32 × mz_N) ⊕ (Bool × mz_N)) → Prop} (hc1 : ∀ s2, C1 (.inl s2) → mz_G (d, mz_X0 L xs, some .boolean, [], mk_535, 3, Q) 67 mt_535_67 [(0, .ref 232), (1, .int s2.1)] [] false (mz_k S R s2.2 b t)) (hx1 : ∀ z, C1 (.inr z) → C0 z) (hp : cp_535_144 v1 N) (hC : C1 (cf_535_144 v1 N)) : mz_G (d, mz_X0 L xs, some .boolean, [], mk_535, 3, Q) 144 mt_535_144 [(0, .ref 232), (1, .int v1)] [] false (mz_k S R N b t) := by
  unfold cf_535_144 at hC
  unfold cp_535_144 at hp
  refine g_iinc rfl mzi_1 (Nat.le_of_ble_eq_true rfl) rfl (g_goto (tg := 67) rfl ms_535_67 ?_)
  refine g_weak ?_ (g_cl (hc1 ((v1 + 1), N) hC))
  exact ⟨rfl, rfl, trivial⟩
theorem cg_535_135 (hd : 5 ≤ d) (hS : mz_extR S 342) (hR : mz_rok R 342)  (v1 : Int32) (N : mz_N) {C0 : (Bool × mz_N) → Prop} (hr : ∀ (w : Bool) (N2 : mz_N), C0 (w, N2) → Q (.inl (some (.int (mz_b01 w)))) (mz_k S R N2 b t)) {C1 : ((Int32 × mz_N) ⊕ (Bool × mz_N)) → Prop} (hc1 : ∀ s2, C1 (.inl s2) → mz_G (d, mz_X0 L xs, some .boolean, [], mk_535, 3, Q) 67 mt_535_67 [(0, .ref 232), (1, .int s2.1)] [] false (mz_k S R s2.2 b t)) (hx1 : ∀ z, C1 (.inr z) → C0 z) (hp : cp_535_135 v1 N) (hC : C1 (cf_535_135 v1 N)) : mz_G (d, mz_X0 L xs, some .boolean, [], mk_535, 3, Q) 135 mt_535_135 [(0, .ref 232), (1, .int v1)] [] false (mz_k S R N b t) := by
  unfold cf_535_135 at hC
  unfold cp_535_135 at hp
  refine g_aload_n rfl ?_
  obtain ⟨h1, hp⟩ := hp
  refine g_v1v (Nat.le_of_ble_eq_true rfl) (mz_at hS (Nat.le_of_ble_eq_true rfl) mzcS_232) (fun _ hq => cs_474 (Nat.le_trans (Nat.le_of_ble_eq_true rfl) hd) (hS.le (Nat.le_of_ble_eq_true rfl)) (hR.le (Nat.le_of_ble_eq_true rfl))  N h1 hq) ?_
  refine g_zne (tg := 144) rfl ms_535_144 hC (fun h2 hC => ?_) (fun h2 hC => ?_)
  · have hp := hp.1 h2
    refine g_weak ?_ (g_cl (cg_535_144 hd hS hR v1 ((cf_474_0 N).2) hr hc1 hx1 hp hC))
    exact ⟨rfl, rfl, trivial⟩
  · have hp := hp.2 h2
    refine g_iconst mzi_0 ?_
    exact g_zret (z := false) rfl (hr _ _ (hx1 _ hC))
theorem cg_535_124 (hd : 5 ≤ d) (hS : mz_extR S 342) (hR : mz_rok R 342)  (v1 : Int32) (v2 : Int32) (N : mz_N) {C0 : (Bool × mz_N) → Prop} (hr : ∀ (w : Bool) (N2 : mz_N), C0 (w, N2) → Q (.inl (some (.int (mz_b01 w)))) (mz_k S R N2 b t)) {C1 : ((Int32 × mz_N) ⊕ (Bool × mz_N)) → Prop} (hc1 : ∀ s2, C1 (.inl s2) → mz_G (d, mz_X0 L xs, some .boolean, [], mk_535, 3, Q) 67 mt_535_67 [(0, .ref 232), (1, .int s2.1)] [] false (mz_k S R s2.2 b t)) (hx1 : ∀ z, C1 (.inr z) → C0 z) (hp : cp_535_124 v1 v2 N) (hC : C1 (cf_535_124 v1 v2 N)) : mz_G (d, mz_X0 L xs, some .boolean, [], mk_535, 3, Q) 124 mt_535_124 [(0, .ref 232), (1, .int v1), (2, .int v2)] [] false (mz_k S R N b t) := by
  unfold cf_535_124 at hC
  unfold cp_535_124 at hp
  refine g_iload_n rfl ?_
  refine g_iflt (tg := 135) rfl ms_535_135 hC (fun h1 hC => ?_) (fun h1 hC => ?_)
  · have hp := hp.1 h1
    refine g_weak ?_ (g_cl (cg_535_135 hd hS hR v1 N hr hc1 hx1 hp hC))
    exact ⟨rfl, rfl, trivial⟩
  · have hp := hp.2 h1
    refine g_aload_n rfl (g_bipush mzb_12 (g_iload_n rfl ?_))
    obtain ⟨h2, hp⟩ := hp
    refine g_v3n (Nat.le_of_ble_eq_true rfl) (mz_at hS (Nat.le_of_ble_eq_true rfl) mzcS_232) (fun _ hq => cs_472 (Nat.le_trans (Nat.le_of_ble_eq_true rfl) hd) (hS.le (Nat.le_of_ble_eq_true rfl)) (hR.le (Nat.le_of_ble_eq_true rfl))  12 v2 N h2 hq) ?_
    refine g_weak ?_ (g_cl (cg_535_135 hd hS hR v1 (cf_472_0 12 v2 N) hr hc1 hx1 hp hC))
    exact ⟨rfl, rfl, trivial⟩
theorem cb_535_67 (hd : 5 ≤ d) (hS : mz_extR S 342) (hR : mz_rok R 342)   (s : Int32 × mz_N) {C0 : (Bool × mz_N) → Prop} (hr : ∀ (w : Bool) (N2 : mz_N), C0 (w, N2) → Q (.inl (some (.int (mz_b01 w)))) (mz_k S R N2 b t)) {C1 : ((Int32 × mz_N) ⊕ (Bool × mz_N)) → Prop} (hc1 : ∀ s2, C1 (.inl s2) → mz_G (d, mz_X0 L xs, some .boolean, [], mk_535, 3, Q) 67 mt_535_67 [(0, .ref 232), (1, .int s2.1)] [] false (mz_k S R s2.2 b t)) (hx1 : ∀ z, C1 (.inr z) → C0 z) (hp : cd_535_67  s) (hC : C1 (cq_535_67  s)) : mz_G (d, mz_X0 L xs, some .boolean, [], mk_535, 3, Q) 67 mt_535_67 [(0, .ref 232), (1, .int s.1)] [] false (mz_k S R s.2 b t) := by
  unfold cq_535_67 at hC
  unfold cd_535_67 at hp
  refine g_iload_n rfl (g_iconst mzi_3 ?_)
  refine g_icge (tg := 150) rfl ms_535_150 hC (fun h1 hC => ?_) (fun h1 hC => ?_)
  · have hp := hp.1 h1
    refine g_aload_n rfl (g_getR (mz_at hS (Nat.le_of_ble_eq_true rfl) mzcS_232) mzcf_12_102 (mz_rb hR (Nat.le_of_ble_eq_true rfl) rfl mzcR_232_102) (g_iload_n rfl ?_))
    obtain ⟨h2, hp⟩ := hp
    obtain ⟨h3, hp⟩ := hp
    refine g_zald (mz_at hS (Nat.le_of_ble_eq_true rfl) mzcS_307) h2 h3 ?_
    refine g_zne (tg := 144) rfl ms_535_144 hC (fun h4 hC => ?_) (fun h4 hC => ?_)
    · have hp := hp.1 h4
      refine g_weak ?_ (g_cl (cg_535_144 hd hS hR s.1 s.2 hr hc1 hx1 hp hC))
      exact ⟨rfl, rfl, trivial⟩
    · have hp := hp.2 h4
      refine g_aload_n rfl (g_getR (mz_at hS (Nat.le_of_ble_eq_true rfl) mzcS_232) mzcf_12_100 (mz_rb hR (Nat.le_of_ble_eq_true rfl) rfl mzcR_232_100) (g_iload_n rfl ?_))
      obtain ⟨h5, hp⟩ := hp
      refine g_lald (mz_at hS (Nat.le_of_ble_eq_true rfl) mzcS_305) h5 (g_aload_n rfl (g_getR (mz_at hS (Nat.le_of_ble_eq_true rfl) mzcS_232) mzcf_12_23 (mz_rb hR (Nat.le_of_ble_eq_true rfl) rfl mzcR_232_23) (g_iload_n rfl ?_)))
      obtain ⟨h6, hp⟩ := hp
      refine g_iald hS.1 (mz_at hS (Nat.le_of_ble_eq_true rfl) mzcS_250) h6 (g_i2l (g_lcmp ?_))
      refine g_llt (tg := 144) rfl ms_535_144 hC (fun h7 hC => ?_) (fun h7 hC => ?_)
      · have hp := hp.1 h7
        refine g_weak ?_ (g_cl (cg_535_144 hd hS hR s.1 s.2 hr hc1 hx1 hp hC))
        exact ⟨rfl, rfl, trivial⟩
      · have hp := hp.2 h7
        refine g_aload_n rfl (g_getR (mz_at hS (Nat.le_of_ble_eq_true rfl) mzcS_232) mzcf_12_102 (mz_rb hR (Nat.le_of_ble_eq_true rfl) rfl mzcR_232_102) (g_iload_n rfl (g_iconst mzi_1 ?_)))
        obtain ⟨h8, hp⟩ := hp
        refine g_zast (z := true) (mz_at hS (Nat.le_of_ble_eq_true rfl) mzcS_307) h8 (g_aload_n rfl ?_)
        refine g_v1n (Nat.le_of_ble_eq_true rfl) (mz_at hS (Nat.le_of_ble_eq_true rfl) mzcS_232) (fun _ hq => cs_471 (Nat.le_trans (Nat.le_of_ble_eq_true rfl) hd) (hS.le (Nat.le_of_ble_eq_true rfl)) (hR.le (Nat.le_of_ble_eq_true rfl))  (mz_wI s.2 307 s.1 (mz_b01 true)) trivial hq) (g_aload_n rfl (g_bipush mzb_11 (g_iload_n rfl ?_)))
        obtain ⟨h10, hp⟩ := hp
        refine g_v3n (Nat.le_of_ble_eq_true rfl) (mz_at hS (Nat.le_of_ble_eq_true rfl) mzcS_232) (fun _ hq => cs_472 (Nat.le_trans (Nat.le_of_ble_eq_true rfl) hd) (hS.le (Nat.le_of_ble_eq_true rfl)) (hR.le (Nat.le_of_ble_eq_true rfl))  11 s.1 (cf_471_0 (mz_wI s.2 307 s.1 (mz_b01 true))) h10 hq) (g_aload_n rfl (g_iconst mzi_0 (g_iload_n rfl (g_iload_n rfl ?_))))
        obtain ⟨h11, hp⟩ := hp
        refine g_v4v (Nat.le_of_ble_eq_true rfl) (mz_at hS (Nat.le_of_ble_eq_true rfl) mzcS_232) (fun _ hq => cs_536 (Nat.le_trans (Nat.le_of_ble_eq_true rfl) hd) (hS.le (Nat.le_of_ble_eq_true rfl)) (hR.le (Nat.le_of_ble_eq_true rfl))  0 s.1 s.1 (cf_472_0 11 s.1 (cf_471_0 (mz_wI s.2 307 s.1 (mz_b01 true)))) h11 hq) (g_istore_n (Nat.le_of_ble_eq_true rfl) rfl ?_)
        refine g_weak ?_ (g_cl (cg_535_124 hd hS hR s.1 ((cf_536_0 0 s.1 s.1 (cf_472_0 11 s.1 (cf_471_0 (mz_wI s.2 307 s.1 (mz_b01 true))))).1) ((cf_536_0 0 s.1 s.1 (cf_472_0 11 s.1 (cf_471_0 (mz_wI s.2 307 s.1 (mz_b01 true))))).2) hr hc1 hx1 hp hC))
        exact ⟨rfl, rfl, rfl, trivial⟩
  · have hp := hp.2 h1
    refine g_iconst mzi_1 ?_
    exact g_zret (z := true) rfl (hr _ _ (hx1 _ hC))
theorem cg_535_67 (hd : 5 ≤ d) (hS : mz_extR S 342) (hR : mz_rok R 342)  (v1 : Int32) (N : mz_N) {C0 : (Bool × mz_N) → Prop} (hr : ∀ (w : Bool) (N2 : mz_N), C0 (w, N2) → Q (.inl (some (.int (mz_b01 w)))) (mz_k S R N2 b t)) (hp : cp_535_67 v1 N) (hC : C0 (cf_535_67 v1 N)) : mz_G (d, mz_X0 L xs, some .boolean, [], mk_535, 3, Q) 67 mt_535_67 [(0, .ref 232), (1, .int v1)] [] false (mz_k S R N b t) := by
  obtain ⟨n, hn⟩ := hp
  exact g_loop (G := fun s => mz_G (d, mz_X0 L xs, some .boolean, [], mk_535, 3, Q) 67 mt_535_67 [(0, .ref 232), (1, .int s.1)] [] false (mz_k S R s.2 b t)) (C := C0) (fun C2 hc hx s hP hC => cb_535_67 hd hS hR  s hr hc hx hP hC) n (v1, N) hn hC
theorem cg_535_63 (hd : 5 ≤ d) (hS : mz_extR S 342) (hR : mz_rok R 342)  (s1 : Int32) (s2 : Int64) (s3 : Int64) (N : mz_N) {C0 : (Bool × mz_N) → Prop} (hr : ∀ (w : Bool) (N2 : mz_N), C0 (w, N2) → Q (.inl (some (.int (mz_b01 w)))) (mz_k S R N2 b t)) (hp : cp_535_63 s1 s2 s3 N) (hC : C0 (cf_535_63 s1 s2 s3 N)) : mz_G (d, mz_X0 L xs, some .boolean, [], mk_535, 3, Q) 63 mt_535_63 [(0, .ref 232)] [.long s3, .long s2, .int s1, .ref 305] false (mz_k S R N b t) := by
  unfold cf_535_63 at hC
  unfold cp_535_63 at hp
  refine g_ladd ?_
  obtain ⟨h1, hp⟩ := hp
  refine g_last (mz_at hS (Nat.le_of_ble_eq_true rfl) mzcS_305) h1 (g_iconst mzi_0 (g_istore_n (Nat.le_of_ble_eq_true rfl) rfl ?_))
  refine g_weak ?_ (g_cl (cg_535_67 hd hS hR 0 (mz_wL N 305 s1 (s2 + s3)) hr hp hC))
  exact ⟨rfl, rfl, trivial⟩
theorem cg_535_42 (hd : 5 ≤ d) (hS : mz_extR S 342) (hR : mz_rok R 342)  (s1 : Int32) (s2 : Int64) (s3 : Int64) (N : mz_N) {C0 : (Bool × mz_N) → Prop} (hr : ∀ (w : Bool) (N2 : mz_N), C0 (w, N2) → Q (.inl (some (.int (mz_b01 w)))) (mz_k S R N2 b t)) (hp : cp_535_42 s1 s2 s3 N) (hC : C0 (cf_535_42 s1 s2 s3 N)) : mz_G (d, mz_X0 L xs, some .boolean, [], mk_535, 3, Q) 42 mt_535_42 [(0, .ref 232)] [.long s3, .long s2, .int s1, .ref 305] false (mz_k S R N b t) := by
  unfold cf_535_42 at hC
  unfold cp_535_42 at hp
  refine g_ladd ?_
  obtain ⟨h1, hp⟩ := hp
  refine g_last (mz_at hS (Nat.le_of_ble_eq_true rfl) mzcS_305) h1 (g_aload_n rfl (g_getR (mz_at hS (Nat.le_of_ble_eq_true rfl) mzcS_232) mzcf_12_100 (mz_rb hR (Nat.le_of_ble_eq_true rfl) rfl mzcR_232_100) (g_iconst mzi_2 (g_dup2 rfl rfl (g_lald (mz_at hS (Nat.le_of_ble_eq_true rfl) mzcS_305) (mz_ibd (by decide)) (g_aload_n rfl ?_))))))
  obtain ⟨h2, hp⟩ := hp
  refine g_getZ (mz_at hS (Nat.le_of_ble_eq_true rfl) mzcS_232) mzcf_12_65 h2 ?_
  refine g_zeq (tg := 62) rfl ms_535_62 hC (fun h3 hC => ?_) (fun h3 hC => ?_)
  · have hp := hp.1 h3
    refine g_lconst mzl_1 (g_goto (tg := 63) rfl ms_535_63 ?_)
    refine g_weak ?_ (g_cl (cg_535_63 hd hS hR 2 (mz_gL (mz_wL N 305 s1 (s2 + s3)) 305 2) 1 (mz_wL N 305 s1 (s2 + s3)) hr hp hC))
    exact ⟨rfl, trivial⟩
  · have hp := hp.2 h3
    refine g_lconst mzl_0 ?_
    refine g_weak ?_ (g_cl (cg_535_63 hd hS hR 2 (mz_gL (mz_wL N 305 s1 (s2 + s3)) 305 2) 0 (mz_wL N 305 s1 (s2 + s3)) hr hp hC))
    exact ⟨rfl, trivial⟩
theorem cg_535_21 (hd : 5 ≤ d) (hS : mz_extR S 342) (hR : mz_rok R 342)  (s1 : Int32) (s2 : Int64) (s3 : Int64) (N : mz_N) {C0 : (Bool × mz_N) → Prop} (hr : ∀ (w : Bool) (N2 : mz_N), C0 (w, N2) → Q (.inl (some (.int (mz_b01 w)))) (mz_k S R N2 b t)) (hp : cp_535_21 s1 s2 s3 N) (hC : C0 (cf_535_21 s1 s2 s3 N)) : mz_G (d, mz_X0 L xs, some .boolean, [], mk_535, 3, Q) 21 mt_535_21 [(0, .ref 232)] [.long s3, .long s2, .int s1, .ref 305] true (mz_k S R N b t) := by
  unfold cf_535_21 at hC
  unfold cp_535_21 at hp
  refine g_ladd ?_
  obtain ⟨h1, hp⟩ := hp
  refine g_last (mz_at hS (Nat.le_of_ble_eq_true rfl) mzcS_305) h1 (g_aload_n rfl (g_getR (mz_at hS (Nat.le_of_ble_eq_true rfl) mzcS_232) mzcf_12_100 (mz_rb hR (Nat.le_of_ble_eq_true rfl) rfl mzcR_232_100) (g_iconst mzi_1 (g_dup2 rfl rfl (g_lald (mz_at hS (Nat.le_of_ble_eq_true rfl) mzcS_305) (mz_ibd (by decide)) (g_aload_n rfl ?_))))))
  obtain ⟨h2, hp⟩ := hp
  refine g_getZ (mz_at hS (Nat.le_of_ble_eq_true rfl) mzcS_232) mzcf_12_64 h2 ?_
  refine g_zeq (tg := 41) rfl ms_535_41 hC (fun h3 hC => ?_) (fun h3 hC => ?_)
  · have hp := hp.1 h3
    refine g_lconst mzl_1 (g_goto (tg := 42) rfl ms_535_42 ?_)
    refine g_weak ?_ (g_cl (cg_535_42 hd hS hR 1 (mz_gL (mz_wL N 305 s1 (s2 + s3)) 305 1) 1 (mz_wL N 305 s1 (s2 + s3)) hr hp hC))
    exact ⟨rfl, trivial⟩
  · have hp := hp.2 h3
    refine g_lconst mzl_0 ?_
    refine g_weak ?_ (g_cl (cg_535_42 hd hS hR 1 (mz_gL (mz_wL N 305 s1 (s2 + s3)) 305 1) 0 (mz_wL N 305 s1 (s2 + s3)) hr hp hC))
    exact ⟨rfl, trivial⟩
theorem cg_535_0 (hd : 5 ≤ d) (hS : mz_extR S 342) (hR : mz_rok R 342)  (N : mz_N) {C0 : (Bool × mz_N) → Prop} (hr : ∀ (w : Bool) (N2 : mz_N), C0 (w, N2) → Q (.inl (some (.int (mz_b01 w)))) (mz_k S R N2 b t)) (hp : cp_535_0 N) (hC : C0 (cf_535_0 N)) : mz_G (d, mz_X0 L xs, some .boolean, [], mk_535, 3, Q) 0 mk_535 [(0, .ref 232)] [] true (mz_k S R N b t) := by
  unfold cf_535_0 at hC
  unfold cp_535_0 at hp
  refine g_aload_n rfl (g_getR (mz_at hS (Nat.le_of_ble_eq_true rfl) mzcS_232) mzcf_12_100 (mz_rb hR (Nat.le_of_ble_eq_true rfl) rfl mzcR_232_100) (g_iconst mzi_0 (g_dup2 rfl rfl (g_lald (mz_at hS (Nat.le_of_ble_eq_true rfl) mzcS_305) (mz_ibd (by decide)) (g_aload_n rfl (g_getL (mz_at hS (Nat.le_of_ble_eq_true rfl) mzcS_232) mzcf_12_66 (g_lconst mzl_0 ?_)))))))
  refine g_lcmp ?_
  refine g_lle (tg := 20) rfl ms_535_20 hC (fun h1 hC => ?_) (fun h1 hC => ?_)
  · have hp := hp.1 h1
    refine g_lconst mzl_1 (g_goto (tg := 21) rfl ms_535_21 ?_)
    refine g_weak ?_ (cg_535_21 hd hS hR 0 (mz_gL N 305 0) 1 N hr hp hC)
    exact ⟨rfl, trivial⟩
  · have hp := hp.2 h1
    refine g_lconst mzl_0 ?_
    refine g_weak ?_ (cg_535_21 hd hS hR 0 (mz_gL N 305 0) 0 N hr hp hC)
    exact ⟨rfl, trivial⟩
theorem cs_535 (hd : 6 ≤ d) (hS : mz_extR S 342) (hR : mz_rok R 342)  (N : mz_N) (hp : cp_535_0 N) (hq : Q (.inl (some (.int (mz_b01 ((cf_535_0 N).1))))) (mz_k S R ((cf_535_0 N).2) b t)) : mz_Ed (mz_X0 L xs) d 535 [.ref 232] (mz_k S R N b t) Q :=
  by
  refine g_in mzq_535 (Nat.le_of_ble_eq_true rfl) (Nat.le_of_ble_eq_true rfl) (Nat.le_trans (Nat.le_of_ble_eq_true rfl) hd) ?_
  refine g_weak ?_ (cg_535_0 (d := d - 1) (by omega) hS hR N (C0 := fun z => Q (.inl (some (.int (mz_b01 z.1)))) (mz_k S R z.2 b t)) (fun _ _ h => h) hp hq)
  exact ⟨rfl, trivial⟩
end Fn30
