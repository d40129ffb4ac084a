/-! THE FUNCTIONS: written by program: each method comes to its function. -/
section Fn32
variable {L : Nat} {xs : Nat → Int32} {d : Nat} {S : mz_S} {R : Nat → Nat → Option Nat} {Q : mz_Q} {N : mz_N} {b : Bool} {t : Nat}
/-! 507 KeptHouseModel.minute ()Z -/
theorem ms_507_0 : mz_sf mk_507 0 = mk_507 := mz_sf_zero _
theorem ms_507_14 : mz_sf mk_507 14 = mt_507_14 := mz_sf_add ms_507_0 (t := 14) rfl rfl
theorem ms_507_34 : mz_sf mk_507 34 = mt_507_34 := mz_sf_add ms_507_14 (t := 20) rfl rfl
theorem ms_507_52 : mz_sf mk_507 52 = mt_507_52 := mz_sf_add ms_507_34 (t := 18) rfl rfl
theorem ms_507_79 : mz_sf mk_507 79 = mt_507_79 := mz_sf_add ms_507_52 (t := 27) rfl rfl
theorem ms_507_83 : mz_sf mk_507 83 = mt_507_83 := mz_sf_add ms_507_79 (t := 4) rfl rfl
theorem ms_507_100 : mz_sf mk_507 100 = mt_507_100 := mz_sf_add ms_507_83 (t := 17) rfl rfl
theorem ms_507_115 : mz_sf mk_507 115 = mt_507_115 := mz_sf_add ms_507_100 (t := 15) rfl rfl
theorem ms_507_121 : mz_sf mk_507 121 = mt_507_121 := mz_sf_add ms_507_115 (t := 6) rfl rfl
theorem ms_507_140 : mz_sf mk_507 140 = mt_507_140 := mz_sf_add ms_507_121 (t := 19) rfl rfl
theorem ms_507_156 : mz_sf mk_507 156 = mt_507_156 := mz_sf_add ms_507_140 (t := 16) rfl rfl
theorem ms_507_174 : mz_sf mk_507 174 = mt_507_174 := mz_sf_add ms_507_156 (t := 18) rfl rfl
set_option maxRecDepth 100000 in
theorem mzq_507 : mz_PG0 507 = some (12, ⟨"KeptHouseModel", "minute", "()Z"⟩, prog_14_method_86_code, 3, some .boolean, [], mk_507, []) := rfl
theorem cb_507_156 (hd : 7 ≤ d) (hS : mz_extR S 342) (hR : mz_rok R 342)   (s : Int32 × mz_N) {C0 : (Bool × mz_N) → Prop} (hr : ∀ (w : Bool) (N2 : mz_N), C0 (w, N2) → Q (.inl (some (.int (mz_b01 w)))) (mz_k S R N2 b t)) {C1 : ((Int32 × mz_N) ⊕ (Bool × mz_N)) → Prop} (hc1 : ∀ s2, C1 (.inl s2) → mz_G (d, mz_X0 L xs, some .boolean, [], mk_507, 3, Q) 156 mt_507_156 [(0, .ref 232), (2, .int s2.1)] [] false (mz_k S R s2.2 b t)) (hx1 : ∀ z, C1 (.inr z) → C0 z) (hp : cd_507_156  s) (hC : C1 (cq_507_156  s)) : mz_G (d, mz_X0 L xs, some .boolean, [], mk_507, 3, Q) 156 mt_507_156 [(0, .ref 232), (2, .int s.1)] [] false (mz_k S R s.2 b t) := by
  unfold cq_507_156 at hC
  unfold cd_507_156 at hp
  refine g_iload_n rfl (g_iconst mzi_3 ?_)
  refine g_icge (tg := 174) rfl ms_507_174 hC (fun h1 hC => ?_) (fun h1 hC => ?_)
  · have hp := hp.1 h1
    refine g_aload_n rfl (g_bipush mzb_11 (g_iload_n rfl ?_))
    have h2 := hp
    refine g_v3n (Nat.le_of_ble_eq_true rfl) (mz_at hS (Nat.le_of_ble_eq_true rfl) mzcS_232) (fun _ hq => cs_472 (Nat.le_trans (Nat.le_of_ble_eq_true rfl) hd) (hS.le (Nat.le_of_ble_eq_true rfl)) (hR.le (Nat.le_of_ble_eq_true rfl))  11 s.1 s.2 h2 hq) (g_iinc rfl mzi_1 (Nat.le_of_ble_eq_true rfl) rfl (g_goto (tg := 156) rfl ms_507_156 ?_))
    refine g_weak ?_ (g_cl (hc1 ((s.1 + 1), (cf_472_0 11 s.1 s.2)) hC))
    exact ⟨rfl, rfl, trivial⟩
  · have hp := hp.2 h1
    refine g_aload_n rfl ?_
    have h3 := hp
    refine g_v1v (Nat.le_of_ble_eq_true rfl) (mz_at hS (Nat.le_of_ble_eq_true rfl) mzcS_232) (fun _ hq => cs_474 (Nat.le_trans (Nat.le_of_ble_eq_true rfl) hd) (hS.le (Nat.le_of_ble_eq_true rfl)) (hR.le (Nat.le_of_ble_eq_true rfl))  s.2 h3 hq) ?_
    exact g_zret (z := ((cf_474_0 s.2).1)) rfl (hr _ _ (hx1 _ hC))
theorem cg_507_156 (hd : 7 ≤ d) (hS : mz_extR S 342) (hR : mz_rok R 342)  (v2 : Int32) (N : mz_N) {C0 : (Bool × mz_N) → Prop} (hr : ∀ (w : Bool) (N2 : mz_N), C0 (w, N2) → Q (.inl (some (.int (mz_b01 w)))) (mz_k S R N2 b t)) (hp : cp_507_156 v2 N) (hC : C0 (cf_507_156 v2 N)) : mz_G (d, mz_X0 L xs, some .boolean, [], mk_507, 3, Q) 156 mt_507_156 [(0, .ref 232), (2, .int v2)] [] false (mz_k S R N b t) := by
  obtain ⟨n, hn⟩ := hp
  exact g_loop (G := fun s => mz_G (d, mz_X0 L xs, some .boolean, [], mk_507, 3, Q) 156 mt_507_156 [(0, .ref 232), (2, .int s.1)] [] false (mz_k S R s.2 b t)) (C := C0) (fun C2 hc hx s hP hC => cb_507_156 hd hS hR  s hr hc hx hP hC) n (v2, N) hn hC
theorem cb_507_121 (hd : 7 ≤ d) (hS : mz_extR S 342) (hR : mz_rok R 342)   (s : Int32 × mz_N) {C0 : (Bool × mz_N) → Prop} (hr : ∀ (w : Bool) (N2 : mz_N), C0 (w, N2) → Q (.inl (some (.int (mz_b01 w)))) (mz_k S R N2 b t)) {C1 : ((Int32 × mz_N) ⊕ (Bool × mz_N)) → Prop} (hc1 : ∀ s2, C1 (.inl s2) → mz_G (d, mz_X0 L xs, some .boolean, [], mk_507, 3, Q) 121 mt_507_121 [(0, .ref 232), (2, .int s2.1)] [] false (mz_k S R s2.2 b t)) (hx1 : ∀ z, C1 (.inr z) → C0 z) (hp : cd_507_121  s) (hC : C1 (cq_507_121  s)) : mz_G (d, mz_X0 L xs, some .boolean, [], mk_507, 3, Q) 121 mt_507_121 [(0, .ref 232), (2, .int s.1)] [] false (mz_k S R s.2 b t) := by
  unfold cq_507_121 at hC
  unfold cd_507_121 at hp
  refine g_iload_n rfl (g_bipush mzb_10 ?_)
  refine g_icge (tg := 140) rfl ms_507_140 hC (fun h1 hC => ?_) (fun h1 hC => ?_)
  · have hp := hp.1 h1
    refine g_aload_n rfl (g_bipush mzb_8 (g_iload_n rfl ?_))
    have h2 := hp
    refine g_v3n (Nat.le_of_ble_eq_true rfl) (mz_at hS (Nat.le_of_ble_eq_true rfl) mzcS_232) (fun _ hq => cs_472 (Nat.le_trans (Nat.le_of_ble_eq_true rfl) hd) (hS.le (Nat.le_of_ble_eq_true rfl)) (hR.le (Nat.le_of_ble_eq_true rfl))  8 s.1 s.2 h2 hq) (g_iinc rfl mzi_1 (Nat.le_of_ble_eq_true rfl) rfl (g_goto (tg := 121) rfl ms_507_121 ?_))
    refine g_weak ?_ (g_cl (hc1 ((s.1 + 1), (cf_472_0 8 s.1 s.2)) hC))
    exact ⟨rfl, rfl, trivial⟩
  · have hp := hp.2 h1
    refine g_aload_n rfl (g_bipush mzb_9 (g_iconst mzi_0 ?_))
    obtain ⟨h3, hp⟩ := hp
    refine g_v3n (Nat.le_of_ble_eq_true rfl) (mz_at hS (Nat.le_of_ble_eq_true rfl) mzcS_232) (fun _ hq => cs_472 (Nat.le_trans (Nat.le_of_ble_eq_true rfl) hd) (hS.le (Nat.le_of_ble_eq_true rfl)) (hR.le (Nat.le_of_ble_eq_true rfl))  9 0 s.2 h3 hq) (g_aload_n rfl (g_bipush mzb_10 (g_iconst mzi_0 ?_)))
    obtain ⟨h4, hp⟩ := hp
    refine g_v3n (Nat.le_of_ble_eq_true rfl) (mz_at hS (Nat.le_of_ble_eq_true rfl) mzcS_232) (fun _ hq => cs_472 (Nat.le_trans (Nat.le_of_ble_eq_true rfl) hd) (hS.le (Nat.le_of_ble_eq_true rfl)) (hR.le (Nat.le_of_ble_eq_true rfl))  10 0 (cf_472_0 9 0 s.2) h4 hq) (g_iconst mzi_0 (g_istore_n (Nat.le_of_ble_eq_true rfl) rfl ?_))
    refine g_weak ?_ (g_cl (cg_507_156 hd hS hR 0 (cf_472_0 10 0 (cf_472_0 9 0 s.2)) hr hp (hx1 _ hC)))
    exact ⟨rfl, rfl, trivial⟩
theorem cg_507_121 (hd : 7 ≤ d) (hS : mz_extR S 342) (hR : mz_rok R 342)  (v2 : Int32) (N : mz_N) {C0 : (Bool × mz_N) → Prop} (hr : ∀ (w : Bool) (N2 : mz_N), C0 (w, N2) → Q (.inl (some (.int (mz_b01 w)))) (mz_k S R N2 b t)) (hp : cp_507_121 v2 N) (hC : C0 (cf_507_121 v2 N)) : mz_G (d, mz_X0 L xs, some .boolean, [], mk_507, 3, Q) 121 mt_507_121 [(0, .ref 232), (2, .int v2)] [] false (mz_k S R N b t) := by
  obtain ⟨n, hn⟩ := hp
  exact g_loop (G := fun s => mz_G (d, mz_X0 L xs, some .boolean, [], mk_507, 3, Q) 121 mt_507_121 [(0, .ref 232), (2, .int s.1)] [] false (mz_k S R s.2 b t)) (C := C0) (fun C2 hc hx s hP hC => cb_507_121 hd hS hR  s hr hc hx hP hC) n (v2, N) hn hC
theorem cg_507_100 (hd : 7 ≤ d) (hS : mz_extR S 342) (hR : mz_rok R 342)  (N : mz_N) {C0 : (Bool × mz_N) → Prop} (hr : ∀ (w : Bool) (N2 : mz_N), C0 (w, N2) → Q (.inl (some (.int (mz_b01 w)))) (mz_k S R N2 b t)) (hp : cp_507_100 N) (hC : C0 (cf_507_100 N)) : mz_G (d, mz_X0 L xs, some .boolean, [], mk_507, 3, Q) 100 mt_507_100 [(0, .ref 232)] [] false (mz_k S R N b t) := by
  unfold cf_507_100 at hC
  unfold cp_507_100 at hp
  refine g_aload_n rfl (g_getL (mz_at hS (Nat.le_of_ble_eq_true rfl) mzcS_232) mzcf_12_2 (g_con3 (g_lrem (by decide) (g_lconst mzl_0 (g_lcmp ?_)))))
  refine g_leq (tg := 115) rfl ms_507_115 hC (fun h1 hC => ?_) (fun h1 hC => ?_)
  · have hp := hp.1 h1
    refine g_aload_n rfl ?_
    refine g_v1n (Nat.le_of_ble_eq_true rfl) (mz_at hS (Nat.le_of_ble_eq_true rfl) mzcS_232) (fun _ hq => cs_471 (Nat.le_trans (Nat.le_of_ble_eq_true rfl) hd) (hS.le (Nat.le_of_ble_eq_true rfl)) (hR.le (Nat.le_of_ble_eq_true rfl))  N trivial hq) (g_iconst mzi_0 (g_istore_n (Nat.le_of_ble_eq_true rfl) rfl ?_))
    refine g_weak ?_ (g_cl (cg_507_121 hd hS hR 0 (cf_471_0 N) hr hp hC))
    exact ⟨rfl, rfl, trivial⟩
  · have hp := hp.2 h1
    refine g_iconst mzi_1 ?_
    exact g_zret (z := true) rfl (hr _ _ hC)
theorem cg_507_83 (hd : 7 ≤ d) (hS : mz_extR S 342) (hR : mz_rok R 342)  (N : mz_N) {C0 : (Bool × mz_N) → Prop} (hr : ∀ (w : Bool) (N2 : mz_N), C0 (w, N2) → Q (.inl (some (.int (mz_b01 w)))) (mz_k S R N2 b t)) (hp : cp_507_83 N) (hC : C0 (cf_507_83 N)) : mz_G (d, mz_X0 L xs, some .boolean, [], mk_507, 3, Q) 83 mt_507_83 [(0, .ref 232)] [] false (mz_k S R N b t) := by
  unfold cf_507_83 at hC
  unfold cp_507_83 at hp
  refine g_aload_n rfl (g_getL (mz_at hS (Nat.le_of_ble_eq_true rfl) mzcS_232) mzcf_12_2 (g_con3 (g_lrem (by decide) (g_lconst mzl_0 (g_lcmp ?_)))))
  refine g_lne (tg := 100) rfl ms_507_100 hC (fun h1 hC => ?_) (fun h1 hC => ?_)
  · have hp := hp.1 h1
    refine g_aload_n rfl ?_
    obtain ⟨h2, hp⟩ := hp
    refine g_v1n (Nat.le_of_ble_eq_true rfl) (mz_at hS (Nat.le_of_ble_eq_true rfl) mzcS_232) (fun _ hq => cs_541 (Nat.le_trans (Nat.le_of_ble_eq_true rfl) hd) (hS.le (Nat.le_of_ble_eq_true rfl)) (hR.le (Nat.le_of_ble_eq_true rfl))  N h2 hq) ?_
    refine g_weak ?_ (g_cl (cg_507_100 hd hS hR (cf_541_0 N) hr hp hC))
    exact ⟨rfl, trivial⟩
  · have hp := hp.2 h1
    refine g_weak ?_ (g_cl (cg_507_100 hd hS hR N hr hp hC))
    exact ⟨rfl, trivial⟩
theorem cg_507_79 (hd : 7 ≤ d) (hS : mz_extR S 342) (hR : mz_rok R 342)  (N : mz_N) {C0 : (Bool × mz_N) → Prop} (hr : ∀ (w : Bool) (N2 : mz_N), C0 (w, N2) → Q (.inl (some (.int (mz_b01 w)))) (mz_k S R N2 b t)) (hp : cp_507_79 N) (hC : C0 (cf_507_79 N)) : mz_G (d, mz_X0 L xs, some .boolean, [], mk_507, 3, Q) 79 mt_507_79 [(0, .ref 232)] [] false (mz_k S R N b t) := by
  unfold cf_507_79 at hC
  unfold cp_507_79 at hp
  refine g_aload_n rfl ?_
  obtain ⟨h1, hp⟩ := hp
  refine g_v1n (Nat.le_of_ble_eq_true rfl) (mz_at hS (Nat.le_of_ble_eq_true rfl) mzcS_232) (fun _ hq => cs_539 (Nat.le_trans (Nat.le_of_ble_eq_true rfl) hd) (hS.le (Nat.le_of_ble_eq_true rfl)) (hR.le (Nat.le_of_ble_eq_true rfl))  N h1 hq) ?_
  refine g_weak ?_ (g_cl (cg_507_83 hd hS hR (cf_539_0 N) hr hp hC))
  exact ⟨rfl, trivial⟩
theorem cg_507_34 (hd : 7 ≤ d) (hS : mz_extR S 342) (hR : mz_rok R 342)  (v1 : Int32) (N : mz_N) {C0 : (Bool × mz_N) → Prop} (hr : ∀ (w : Bool) (N2 : mz_N), C0 (w, N2) → Q (.inl (some (.int (mz_b01 w)))) (mz_k S R N2 b t)) (hp : cp_507_34 v1 N) (hC : C0 (cf_507_34 v1 N)) : mz_G (d, mz_X0 L xs, some .boolean, [], mk_507, 3, Q) 34 mt_507_34 [(0, .ref 232), (1, .int v1)] [] false (mz_k S R N b t) := by
  unfold cf_507_34 at hC
  unfold cp_507_34 at hp
  refine g_aload_n rfl (g_iload_n rfl ?_)
  obtain ⟨h1, hp⟩ := hp
  refine g_v2n (Nat.le_of_ble_eq_true rfl) (mz_at hS (Nat.le_of_ble_eq_true rfl) mzcS_232) (fun _ hq => cs_531 (Nat.le_trans (Nat.le_of_ble_eq_true rfl) hd) (hS.le (Nat.le_of_ble_eq_true rfl)) (hR.le (Nat.le_of_ble_eq_true rfl))  v1 N h1 hq) (g_aload_n rfl ?_)
  obtain ⟨h2, hp⟩ := hp
  refine g_v1n (Nat.le_of_ble_eq_true rfl) (mz_at hS (Nat.le_of_ble_eq_true rfl) mzcS_232) (fun _ hq => cs_533 (Nat.le_trans (Nat.le_of_ble_eq_true rfl) hd) (hS.le (Nat.le_of_ble_eq_true rfl)) (hR.le (Nat.le_of_ble_eq_true rfl))  (cf_531_0 v1 N) h2 hq) (g_aload_n rfl ?_)
  obtain ⟨h3, hp⟩ := hp
  refine g_v1v (Nat.le_of_ble_eq_true rfl) (mz_at hS (Nat.le_of_ble_eq_true rfl) mzcS_232) (fun _ hq => cs_535 (Nat.le_trans (Nat.le_of_ble_eq_true rfl) hd) (hS.le (Nat.le_of_ble_eq_true rfl)) (hR.le (Nat.le_of_ble_eq_true rfl))  (cf_533_0 (cf_531_0 v1 N)) h3 hq) ?_
  refine g_zne (tg := 52) rfl ms_507_52 hC (fun h4 hC => ?_) (fun h4 hC => ?_)
  · have hp := hp.1 h4
    refine g_aload_n rfl ?_
    obtain ⟨h5, hp⟩ := hp
    refine g_v1n (Nat.le_of_ble_eq_true rfl) (mz_at hS (Nat.le_of_ble_eq_true rfl) mzcS_232) (fun _ hq => cs_537 (Nat.le_trans (Nat.le_of_ble_eq_true rfl) hd) (hS.le (Nat.le_of_ble_eq_true rfl)) (hR.le (Nat.le_of_ble_eq_true rfl))  ((cf_535_0 (cf_533_0 (cf_531_0 v1 N))).2) h5 hq) (g_aload_n rfl (g_dup rfl (g_getL (mz_at hS (Nat.le_of_ble_eq_true rfl) mzcS_232) mzcf_12_2 (g_lconst mzl_1 (g_ladd (g_putL (mz_at hS (Nat.le_of_ble_eq_true rfl) mzcS_232) mzcf_12_2 (g_aload_n rfl ?_)))))))
    refine g_getL (mz_at hS (Nat.le_of_ble_eq_true rfl) mzcS_232) mzcf_12_2 (g_con3 (g_lrem (by decide) (g_lconst mzl_0 (g_lcmp ?_))))
    refine g_lne (tg := 83) rfl ms_507_83 hC (fun h6 hC => ?_) (fun h6 hC => ?_)
    · have hp := hp.1 h6
      refine g_weak ?_ (g_cl (cg_507_79 hd hS hR (mz_pL (cf_537_0 ((cf_535_0 (cf_533_0 (cf_531_0 v1 N))).2)) 232 2 (((cf_537_0 ((cf_535_0 (cf_533_0 (cf_531_0 v1 N))).2)).2 232 2) + 1)) hr hp hC))
      exact ⟨rfl, trivial⟩
    · have hp := hp.2 h6
      refine g_weak ?_ (g_cl (cg_507_83 hd hS hR (mz_pL (cf_537_0 ((cf_535_0 (cf_533_0 (cf_531_0 v1 N))).2)) 232 2 (((cf_537_0 ((cf_535_0 (cf_533_0 (cf_531_0 v1 N))).2)).2 232 2) + 1)) hr hp hC))
      exact ⟨rfl, trivial⟩
  · have hp := hp.2 h4
    refine g_iconst mzi_0 ?_
    exact g_zret (z := false) rfl (hr _ _ hC)
theorem cg_507_0 (hd : 7 ≤ d) (hS : mz_extR S 342) (hR : mz_rok R 342)  (N : mz_N) {C0 : (Bool × mz_N) → Prop} (hr : ∀ (w : Bool) (N2 : mz_N), C0 (w, N2) → Q (.inl (some (.int (mz_b01 w)))) (mz_k S R N2 b t)) (hp : cp_507_0 N) (hC : C0 (cf_507_0 N)) : mz_G (d, mz_X0 L xs, some .boolean, [], mk_507, 3, Q) 0 mk_507 [(0, .ref 232)] [] true (mz_k S R N b t) := by
  unfold cf_507_0 at hC
  unfold cp_507_0 at hp
  refine g_aload_n rfl ?_
  refine g_v1v (Nat.le_of_ble_eq_true rfl) (mz_at hS (Nat.le_of_ble_eq_true rfl) mzcS_232) (fun _ hq => cs_508 (Nat.le_trans (Nat.le_of_ble_eq_true rfl) hd) (hS.le (Nat.le_of_ble_eq_true rfl)) (hR.le (Nat.le_of_ble_eq_true rfl))  N trivial hq) (g_istore_n (Nat.le_of_ble_eq_true rfl) rfl (g_aload_n rfl ?_))
  obtain ⟨h2, hp⟩ := hp
  refine g_v1v (Nat.le_of_ble_eq_true rfl) (mz_at hS (Nat.le_of_ble_eq_true rfl) mzcS_232) (fun _ hq => cs_509 (Nat.le_trans (Nat.le_of_ble_eq_true rfl) hd) (hS.le (Nat.le_of_ble_eq_true rfl)) (hR.le (Nat.le_of_ble_eq_true rfl))  N h2 hq) ?_
  refine g_zne (tg := 14) rfl ms_507_14 hC (fun h3 hC => ?_) (fun h3 hC => ?_)
  · have hp := hp.1 h3
    refine g_aload_n rfl (g_iload_n rfl ?_)
    obtain ⟨h4, hp⟩ := hp
    refine g_v2n (Nat.le_of_ble_eq_true rfl) (mz_at hS (Nat.le_of_ble_eq_true rfl) mzcS_232) (fun _ hq => cs_511 (Nat.le_trans (Nat.le_of_ble_eq_true rfl) hd) (hS.le (Nat.le_of_ble_eq_true rfl)) (hR.le (Nat.le_of_ble_eq_true rfl))  (cf_508_0 N) ((cf_509_0 N).2) h4 hq) (g_aload_n rfl (g_iload_n rfl ?_))
    obtain ⟨h5, hp⟩ := hp
    refine g_v2n (Nat.le_of_ble_eq_true rfl) (mz_at hS (Nat.le_of_ble_eq_true rfl) mzcS_232) (fun _ hq => cs_518 (Nat.le_trans (Nat.le_of_ble_eq_true rfl) hd) (hS.le (Nat.le_of_ble_eq_true rfl)) (hR.le (Nat.le_of_ble_eq_true rfl))  (cf_508_0 N) (cf_511_0 (cf_508_0 N) ((cf_509_0 N).2)) h5 hq) (g_aload_n rfl (g_iload_n rfl ?_))
    obtain ⟨h6, hp⟩ := hp
    refine g_v2n (Nat.le_of_ble_eq_true rfl) (mz_at hS (Nat.le_of_ble_eq_true rfl) mzcS_232) (fun _ hq => cs_522 (Nat.le_trans (Nat.le_of_ble_eq_true rfl) hd) (hS.le (Nat.le_of_ble_eq_true rfl)) (hR.le (Nat.le_of_ble_eq_true rfl))  (cf_508_0 N) (cf_518_0 (cf_508_0 N) (cf_511_0 (cf_508_0 N) ((cf_509_0 N).2))) h6 hq) (g_aload_n rfl (g_iload_n rfl ?_))
    obtain ⟨h7, hp⟩ := hp
    refine g_v2n (Nat.le_of_ble_eq_true rfl) (mz_at hS (Nat.le_of_ble_eq_true rfl) mzcS_232) (fun _ hq => cs_524 (Nat.le_trans (Nat.le_of_ble_eq_true rfl) hd) (hS.le (Nat.le_of_ble_eq_true rfl)) (hR.le (Nat.le_of_ble_eq_true rfl))  (cf_508_0 N) (cf_522_0 (cf_508_0 N) (cf_518_0 (cf_508_0 N) (cf_511_0 (cf_508_0 N) ((cf_509_0 N).2)))) h7 hq) ?_
    refine g_weak ?_ (g_cl (cg_507_34 hd hS hR (cf_508_0 N) (cf_524_0 (cf_508_0 N) (cf_522_0 (cf_508_0 N) (cf_518_0 (cf_508_0 N) (cf_511_0 (cf_508_0 N) ((cf_509_0 N).2))))) hr hp hC))
    exact ⟨rfl, rfl, trivial⟩
  · have hp := hp.2 h3
    refine g_iconst mzi_0 ?_
    exact g_zret (z := false) rfl (hr _ _ hC)
theorem cs_507 (hd : 8 ≤ d) (hS : mz_extR S 342) (hR : mz_rok R 342)  (N : mz_N) (hp : cp_507_0 N) (hq : Q (.inl (some (.int (mz_b01 ((cf_507_0 N).1))))) (mz_k S R ((cf_507_0 N).2) b t)) : mz_Ed (mz_X0 L xs) d 507 [.ref 232] (mz_k S R N b t) Q :=
  by
  refine g_in mzq_507 (Nat.le_of_ble_eq_true rfl) (Nat.le_of_ble_eq_true rfl) (Nat.le_trans (Nat.le_of_ble_eq_true rfl) hd) ?_
  refine g_weak ?_ (cg_507_0 (d := d - 1) (by omega) hS hR N (C0 := fun z => Q (.inl (some (.int (mz_b01 z.1)))) (mz_k S R z.2 b t)) (fun _ _ h => h) hp hq)
  exact ⟨rfl, trivial⟩
/-! 506 KeptHouseModel.run (I)I -/
theorem ms_506_0 : mz_sf mk_506 0 = mk_506 := mz_sf_zero _
theorem ms_506_28 : mz_sf mk_506 28 = mt_506_28 := mz_sf_add ms_506_0 (t := 28) rfl rfl
theorem ms_506_29 : mz_sf mk_506 29 = mt_506_29 := mz_sf_add ms_506_28 (t := 1) rfl rfl
theorem ms_506_37 : mz_sf mk_506 37 = mt_506_37 := mz_sf_add ms_506_29 (t := 8) rfl rfl
theorem ms_506_39 : mz_sf mk_506 39 = mt_506_39 := mz_sf_add ms_506_37 (t := 2) rfl rfl
theorem ms_506_55 : mz_sf mk_506 55 = mt_506_55 := mz_sf_add ms_506_39 (t := 16) rfl rfl
theorem ms_506_61 : mz_sf mk_506 61 = mt_506_61 := mz_sf_add ms_506_55 (t := 6) rfl rfl
set_option maxRecDepth 100000 in
theorem mzq_506 : mz_PG0 506 = some (12, ⟨"KeptHouseModel", "run", "(I)I"⟩, prog_14_method_83_code, 3, some .int, [], mk_506, []) := rfl
theorem cb_506_39 (hd : 8 ≤ d) (hS : mz_extR S 342) (hR : mz_rok R 342)  (v1 : Int32) (s : Int32 × mz_N) {C0 : (Int32 × mz_N) → Prop} (hr : ∀ (w : Int32) (N2 : mz_N), C0 (w, N2) → Q (.inl (some (.int w))) (mz_k S R N2 b t)) {C1 : ((Int32 × mz_N) ⊕ (Int32 × mz_N)) → Prop} (hc1 : ∀ s2, C1 (.inl s2) → mz_G (d, mz_X0 L xs, some .int, [], mk_506, 3, Q) 39 mt_506_39 [(0, .ref 232), (1, .int v1), (2, .int s2.1)] [] false (mz_k S R s2.2 b t)) (hx1 : ∀ z, C1 (.inr z) → C0 z) (hp : cd_506_39 v1 s) (hC : C1 (cq_506_39 v1 s)) : mz_G (d, mz_X0 L xs, some .int, [], mk_506, 3, Q) 39 mt_506_39 [(0, .ref 232), (1, .int v1), (2, .int s.1)] [] false (mz_k S R s.2 b t) := by
  unfold cq_506_39 at hC
  unfold cd_506_39 at hp
  refine g_iload_n rfl (g_iload_n rfl ?_)
  refine g_icge (tg := 61) rfl ms_506_61 hC (fun h1 hC => ?_) (fun h1 hC => ?_)
  · have hp := hp.1 h1
    refine g_aload_n rfl ?_
    have h2 := hp
    refine g_v1v (Nat.le_of_ble_eq_true rfl) (mz_at hS (Nat.le_of_ble_eq_true rfl) mzcS_232) (fun _ hq => cs_507 (Nat.le_trans (Nat.le_of_ble_eq_true rfl) hd) (hS.le (Nat.le_of_ble_eq_true rfl)) (hR.le (Nat.le_of_ble_eq_true rfl))  s.2 h2 hq) ?_
    refine g_zne (tg := 55) rfl ms_506_55 hC (fun h3 hC => ?_) (fun h3 hC => ?_)
    · refine g_iinc rfl mzi_1 (Nat.le_of_ble_eq_true rfl) rfl (g_goto (tg := 39) rfl ms_506_39 ?_)
      refine g_weak ?_ (g_cl (hc1 ((s.1 + 1), (cf_507_0 s.2).2) hC))
      exact ⟨rfl, rfl, rfl, trivial⟩
    · refine g_sipush mzs_m1001 ?_
      exact g_iret rfl (hr _ _ (hx1 _ hC))
  · have hp := hp.2 h1
    refine g_aload_n rfl (g_getL (mz_at hS (Nat.le_of_ble_eq_true rfl) mzcS_232) mzcf_12_2 (g_l2i ?_))
    exact g_iret rfl (hr _ _ (hx1 _ hC))
theorem cg_506_39 (hd : 8 ≤ d) (hS : mz_extR S 342) (hR : mz_rok R 342)  (v1 : Int32) (v2 : Int32) (N : mz_N) {C0 : (Int32 × mz_N) → Prop} (hr : ∀ (w : Int32) (N2 : mz_N), C0 (w, N2) → Q (.inl (some (.int w))) (mz_k S R N2 b t)) (hp : cp_506_39 v1 v2 N) (hC : C0 (cf_506_39 v1 v2 N)) : mz_G (d, mz_X0 L xs, some .int, [], mk_506, 3, Q) 39 mt_506_39 [(0, .ref 232), (1, .int v1), (2, .int v2)] [] false (mz_k S R N b t) := by
  obtain ⟨n, hn⟩ := hp
  exact g_loop (G := fun s => mz_G (d, mz_X0 L xs, some .int, [], mk_506, 3, Q) 39 mt_506_39 [(0, .ref 232), (1, .int v1), (2, .int s.1)] [] false (mz_k S R s.2 b t)) (C := C0) (fun C2 hc hx s hP hC => cb_506_39 hd hS hR v1 s hr hc hx hP hC) n (v2, N) hn hC
theorem cg_506_29 (hd : 8 ≤ d) (hS : mz_extR S 342) (hR : mz_rok R 342)  (s1 : Bool) (s2 : Bool) (v1 : Int32) (N : mz_N) {C0 : (Int32 × mz_N) → Prop} (hr : ∀ (w : Int32) (N2 : mz_N), C0 (w, N2) → Q (.inl (some (.int w))) (mz_k S R N2 b t)) (hp : cp_506_29 s1 s2 v1 N) (hC : C0 (cf_506_29 s1 s2 v1 N)) : mz_G (d, mz_X0 L xs, some .int, [], mk_506, 3, Q) 29 mt_506_29 [(0, .ref 232), (1, .int v1)] [.int (mz_b01 s2), .int (mz_b01 s1), .ref 232] false (mz_k S R N b t) := by
  unfold cf_506_29 at hC
  unfold cp_506_29 at hp
  obtain ⟨h1, hp⟩ := hp
  refine g_v3v (Nat.le_of_ble_eq_true rfl) (mz_at hS (Nat.le_of_ble_eq_true rfl) mzcS_232) (fun _ hq => cs_462 (Nat.le_trans (Nat.le_of_ble_eq_true rfl) hd) (hS.le (Nat.le_of_ble_eq_true rfl)) (hR.le (Nat.le_of_ble_eq_true rfl))  s1 s2 N h1 hq) ?_
  refine g_zeq (tg := 37) rfl ms_506_37 hC (fun h2 hC => ?_) (fun h2 hC => ?_)
  · have hp := hp.1 h2
    refine g_iconst mzi_0 ?_
    exact g_iret rfl (hr _ _ hC)
  · have hp := hp.2 h2
    refine g_iconst mzi_0 (g_istore_n (Nat.le_of_ble_eq_true rfl) rfl ?_)
    refine g_weak ?_ (g_cl (cg_506_39 hd hS hR v1 0 ((cf_462_0 s1 s2 N).2) hr hp hC))
    exact ⟨rfl, rfl, rfl, trivial⟩
theorem cg_506_0 (hd : 8 ≤ d) (hS : mz_extR S 342) (hR : mz_rok R 342)  (v1 : Int32) (N : mz_N) {C0 : (Int32 × mz_N) → Prop} (hr : ∀ (w : Int32) (N2 : mz_N), C0 (w, N2) → Q (.inl (some (.int w))) (mz_k S R N2 b t)) (hp : cp_506_0 v1 N) (hC : C0 (cf_506_0 v1 N)) : mz_G (d, mz_X0 L xs, some .int, [], mk_506, 3, Q) 0 mk_506 [(0, .ref 232), (1, .int v1)] [] true (mz_k S R N b t) := by
  unfold cf_506_0 at hC
  unfold cp_506_0 at hp
  refine g_aload_n rfl (g_iload_n rfl (g_i2l (g_lconst mzl_1 (g_con3 ?_))))
  refine g_s3v (Nat.le_of_ble_eq_true rfl) (fun _ hq => cs_466 (Nat.le_trans (Nat.le_of_ble_eq_true rfl) hd) (hS.le (Nat.le_of_ble_eq_true rfl)) (hR.le (Nat.le_of_ble_eq_true rfl))  v1.toInt64 1 120 trivial hq) (g_aload_n rfl (g_getL (mz_at hS (Nat.le_of_ble_eq_true rfl) mzcS_232) mzcf_12_2 (g_iload_n rfl (g_i2l (g_ladd (g_con3 (g_lcmp ?_)))))))
  refine g_lgt (tg := 28) rfl ms_506_28 hC (fun h2 hC => ?_) (fun h2 hC => ?_)
  · have hp := hp.1 h2
    refine g_iconst mzi_0 ?_
    refine g_weak ?_ (g_cl (cg_506_29 hd hS hR (cf_466_0 v1.toInt64 1 120) false v1 N hr hp hC))
    exact ⟨rfl, rfl, trivial⟩
  · have hp := hp.2 h2
    refine g_iconst mzi_1 (g_goto (tg := 29) rfl ms_506_29 ?_)
    refine g_weak ?_ (g_cl (cg_506_29 hd hS hR (cf_466_0 v1.toInt64 1 120) true v1 N hr hp hC))
    exact ⟨rfl, rfl, trivial⟩
theorem cs_506 (hd : 9 ≤ d) (hS : mz_extR S 342) (hR : mz_rok R 342)  (v1 : Int32) (N : mz_N) (hp : cp_506_0 v1 N) (hq : Q (.inl (some (.int ((cf_506_0 v1 N).1)))) (mz_k S R ((cf_506_0 v1 N).2) b t)) : mz_Ed (mz_X0 L xs) d 506 [.ref 232, .int v1] (mz_k S R N b t) Q :=
  by
  refine g_in mzq_506 (Nat.le_of_ble_eq_true rfl) (Nat.le_of_ble_eq_true rfl) (Nat.le_trans (Nat.le_of_ble_eq_true rfl) hd) ?_
  refine g_weak ?_ (cg_506_0 (d := d - 1) (by omega) hS hR v1 N (C0 := fun z => Q (.inl (some (.int z.1))) (mz_k S R z.2 b t)) (fun _ _ h => h) hp hq)
  exact ⟨rfl, rfl, trivial⟩
/-! 545 KeptHouseModel.alarms ()I -/
theorem ms_545_0 : mz_sf mk_545 0 = mk_545 := mz_sf_zero _
theorem ms_545_11 : mz_sf mk_545 11 = mt_545_11 := mz_sf_add ms_545_0 (t := 11) rfl rfl
theorem ms_545_15 : mz_sf mk_545 15 = mt_545_15 := mz_sf_add ms_545_11 (t := 4) rfl rfl
set_option maxRecDepth 100000 in
theorem mzq_545 : mz_PG0 545 = some (12, ⟨"KeptHouseModel", "alarms", "()I"⟩, prog_14_method_106_code, 1, some .int, [], mk_545, []) := rfl
theorem cg_545_0 (hd : 1 ≤ d) (hS : mz_extR S 342) (hR : mz_rok R 342)  (N : mz_N) {C0 : (Int32 × mz_N) → Prop} (hr : ∀ (w : Int32) (N2 : mz_N), C0 (w, N2) → Q (.inl (some (.int w))) (mz_k S R N2 b t)) (hp : cp_545_0 N) (hC : C0 (cf_545_0 N)) : mz_G (d, mz_X0 L xs, some .int, [], mk_545, 1, Q) 0 mk_545 [(0, .ref 232)] [] true (mz_k S R N b t) := by
  unfold cf_545_0 at hC
  unfold cp_545_0 at hp
  refine g_aload_n rfl ?_
  have h1 := hp
  refine g_v1v (Nat.le_of_ble_eq_true rfl) (mz_at hS (Nat.le_of_ble_eq_true rfl) mzcS_232) (fun _ hq => cs_484 (Nat.le_trans (Nat.le_of_ble_eq_true rfl) hd) (hS.le (Nat.le_of_ble_eq_true rfl)) (hR.le (Nat.le_of_ble_eq_true rfl))  N h1 hq) ?_
  refine g_zeq (tg := 11) rfl ms_545_11 hC (fun h2 hC => ?_) (fun h2 hC => ?_)
  · refine g_iconst mzi_0 (g_goto (tg := 15) rfl ms_545_15 ?_)
    exact g_iret rfl (hr _ _ hC)
  · refine g_aload_n rfl (g_getI (mz_at hS (Nat.le_of_ble_eq_true rfl) mzcS_232) mzcf_12_72 ?_)
    exact g_iret rfl (hr _ _ hC)
theorem cs_545 (hd : 2 ≤ d) (hS : mz_extR S 342) (hR : mz_rok R 342)  (N : mz_N) (hp : cp_545_0 N) (hq : Q (.inl (some (.int ((cf_545_0 N).1)))) (mz_k S R ((cf_545_0 N).2) b t)) : mz_Ed (mz_X0 L xs) d 545 [.ref 232] (mz_k S R N b t) Q :=
  by
  refine g_in mzq_545 (Nat.le_of_ble_eq_true rfl) (Nat.le_of_ble_eq_true rfl) (Nat.le_trans (Nat.le_of_ble_eq_true rfl) hd) ?_
  refine g_weak ?_ (cg_545_0 (d := d - 1) (by omega) hS hR N (C0 := fun z => Q (.inl (some (.int z.1))) (mz_k S R z.2 b t)) (fun _ _ h => h) hp hq)
  exact ⟨rfl, trivial⟩
/-! 547 KeptHouseModel.isKept (III)Z -/
theorem ms_547_0 : mz_sf mk_547 0 = mk_547 := mz_sf_zero _
theorem ms_547_18 : mz_sf mk_547 18 = mt_547_18 := mz_sf_add ms_547_0 (t := 18) rfl rfl
theorem ms_547_19 : mz_sf mk_547 19 = mt_547_19 := mz_sf_add ms_547_18 (t := 1) rfl rfl
set_option maxRecDepth 100000 in
theorem mzq_547 : mz_PG0 547 = some (12, ⟨"KeptHouseModel", "isKept", "(III)Z"⟩, prog_14_method_107_code, 3, some .boolean, [], mk_547, []) := rfl
theorem cg_547_0 (hd : 0 ≤ d) (hS : mz_extR S 342) (hR : mz_rok R 342)  (v0 : Int32) (v1 : Int32) (v2 : Int32) {C0 : (Bool) → Prop} (hr : ∀ (w : Bool), C0 w → Q (.inl (some (.int (mz_b01 w)))) (mz_k S R N b t)) (hp : cp_547_0 v0 v1 v2) (hC : C0 (cf_547_0 v0 v1 v2)) : mz_G (d, mz_X0 L xs, some .boolean, [], mk_547, 3, Q) 0 mk_547 [(0, .int v0), (1, .int v1), (2, .int v2)] [] true (mz_k S R N b t) := by
  unfold cf_547_0 at hC
  unfold cp_547_0 at hp
  refine g_iload_n rfl ?_
  refine g_iflt (tg := 18) rfl ms_547_18 hC (fun h1 hC => ?_) (fun h1 hC => ?_)
  · refine g_iconst mzi_0 ?_
    exact g_zret (z := false) rfl (hr _ hC)
  · refine g_iload_n rfl (g_iload_n rfl ?_)
    refine g_icge (tg := 18) rfl ms_547_18 hC (fun h2 hC => ?_) (fun h2 hC => ?_)
    · refine g_iload_n rfl (g_iload_n rfl ?_)
      refine g_icge (tg := 18) rfl ms_547_18 hC (fun h3 hC => ?_) (fun h3 hC => ?_)
      · refine g_iconst mzi_1 (g_goto (tg := 19) rfl ms_547_19 ?_)
        exact g_zret (z := true) rfl (hr _ hC)
      · refine g_iconst mzi_0 ?_
        exact g_zret (z := false) rfl (hr _ hC)
    · refine g_iconst mzi_0 ?_
      exact g_zret (z := false) rfl (hr _ hC)
theorem cs_547 (hd : 1 ≤ d) (hS : mz_extR S 342) (hR : mz_rok R 342)  (v0 : Int32) (v1 : Int32) (v2 : Int32) (hp : cp_547_0 v0 v1 v2) (hq : Q (.inl (some (.int (mz_b01 (cf_547_0 v0 v1 v2))))) (mz_k S R N b t)) : mz_Ed (mz_X0 L xs) d 547 [.int v0, .int v1, .int v2] (mz_k S R N b t) Q :=
  by
  refine g_in mzq_547 (Nat.le_of_ble_eq_true rfl) (Nat.le_of_ble_eq_true rfl) (Nat.le_trans (Nat.le_of_ble_eq_true rfl) hd) ?_
  refine g_weak ?_ (cg_547_0 (d := d - 1) (by omega) hS hR v0 v1 v2 (C0 := fun z => Q (.inl (some (.int (mz_b01 z)))) (mz_k S R N b t)) (fun _ h => h) hp hq)
  exact ⟨rfl, rfl, rfl, trivial⟩
/-! 546 KeptHouseModel.alarm (II)I -/
theorem ms_546_0 : mz_sf mk_546 0 = mk_546 := mz_sf_zero _
theorem ms_546_28 : mz_sf mk_546 28 = mt_546_28 := mz_sf_add ms_546_0 (t := 28) rfl rfl
theorem ms_546_29 : mz_sf mk_546 29 = mt_546_29 := mz_sf_add ms_546_28 (t := 1) rfl rfl
theorem ms_546_38 : mz_sf mk_546 38 = mt_546_38 := mz_sf_add ms_546_29 (t := 9) rfl rfl
theorem ms_546_63 : mz_sf mk_546 63 = mt_546_63 := mz_sf_add ms_546_38 (t := 25) rfl rfl
theorem ms_546_70 : mz_sf mk_546 70 = mt_546_70 := mz_sf_add ms_546_63 (t := 7) rfl rfl
set_option maxRecDepth 100000 in
theorem mzq_546 : mz_PG0 546 = some (12, ⟨"KeptHouseModel", "alarm", "(II)I"⟩, prog_14_method_108_code, 4, some .int, [], mk_546, []) := rfl
theorem cg_546_29 (hd : 1 ≤ d) (hS : mz_extR S 342) (hR : mz_rok R 342)  (s1 : Bool) (v1 : Int32) (v2 : Int32) (N : mz_N) {C0 : (Int32 × mz_N) → Prop} (hr : ∀ (w : Int32) (N2 : mz_N), C0 (w, N2) → Q (.inl (some (.int w))) (mz_k S R N2 b t)) (hp : cp_546_29 s1 v1 v2 N) (hC : C0 (cf_546_29 s1 v1 v2 N)) : mz_G (d, mz_X0 L xs, some .int, [], mk_546, 4, Q) 29 mt_546_29 [(0, .ref 232), (1, .int v1), (2, .int v2)] [.int (mz_b01 s1), .ref 232] false (mz_k S R N b t) := by
  unfold cf_546_29 at hC
  unfold cp_546_29 at hp
  refine g_iconst mzi_1 ?_
  obtain ⟨h1, hp⟩ := hp
  refine g_v3v (Nat.le_of_ble_eq_true rfl) (mz_at hS (Nat.le_of_ble_eq_true rfl) mzcS_232) (fun _ hq => cs_462 (Nat.le_trans (Nat.le_of_ble_eq_true rfl) hd) (hS.le (Nat.le_of_ble_eq_true rfl)) (hR.le (Nat.le_of_ble_eq_true rfl))  s1 true N h1 hq) ?_
  refine g_zeq (tg := 38) rfl ms_546_38 hC (fun h2 hC => ?_) (fun h2 hC => ?_)
  · have hp := hp.1 h2
    refine g_iconst mzi_0 ?_
    exact g_iret rfl (hr _ _ hC)
  · have hp := hp.2 h2
    refine g_aload_n rfl (g_getI (mz_at hS (Nat.le_of_ble_eq_true rfl) mzcS_232) mzcf_12_72 (g_iconst mzi_1 (g_isub (g_iload_n rfl (g_isub (g_bipush mzb_32 (g_irem (by decide) ?_)))))))
    refine g_istore_n (Nat.le_of_ble_eq_true rfl) rfl (g_iload_n rfl ?_)
    refine g_ifne (tg := 63) rfl ms_546_63 hC (fun h3 hC => ?_) (fun h3 hC => ?_)
    · have hp := hp.1 h3
      refine g_aload_n rfl (g_getR (mz_at hS (Nat.le_of_ble_eq_true rfl) mzcS_232) mzcf_12_73 (mz_rb hR (Nat.le_of_ble_eq_true rfl) rfl mzcR_232_73) (g_iload_n rfl ?_))
      have h4 := hp
      refine g_iald hS.1 (mz_at hS (Nat.le_of_ble_eq_true rfl) mzcS_280) h4 (g_goto (tg := 70) rfl ms_546_70 ?_)
      exact g_iret rfl (hr _ _ hC)
    · have hp := hp.2 h3
      refine g_aload_n rfl (g_getR (mz_at hS (Nat.le_of_ble_eq_true rfl) mzcS_232) mzcf_12_74 (mz_rb hR (Nat.le_of_ble_eq_true rfl) rfl mzcR_232_74) (g_iload_n rfl ?_))
      have h5 := hp
      refine g_lald (mz_at hS (Nat.le_of_ble_eq_true rfl) mzcS_281) h5 (g_l2i ?_)
      exact g_iret rfl (hr _ _ hC)
theorem cg_546_28 (hd : 1 ≤ d) (hS : mz_extR S 342) (hR : mz_rok R 342)  (v1 : Int32) (v2 : Int32) (N : mz_N) {C0 : (Int32 × mz_N) → Prop} (hr : ∀ (w : Int32) (N2 : mz_N), C0 (w, N2) → Q (.inl (some (.int w))) (mz_k S R N2 b t)) (hp : cp_546_28 v1 v2 N) (hC : C0 (cf_546_28 v1 v2 N)) : mz_G (d, mz_X0 L xs, some .int, [], mk_546, 4, Q) 28 mt_546_28 [(0, .ref 232), (1, .int v1), (2, .int v2)] [.ref 232] false (mz_k S R N b t) := by
  unfold cf_546_28 at hC
  unfold cp_546_28 at hp
  refine g_iconst mzi_0 ?_
  refine g_weak ?_ (g_cl (cg_546_29 hd hS hR false v1 v2 N hr hp hC))
  exact ⟨rfl, rfl, rfl, trivial⟩
theorem cg_546_0 (hd : 1 ≤ d) (hS : mz_extR S 342) (hR : mz_rok R 342)  (v1 : Int32) (v2 : Int32) (N : mz_N) {C0 : (Int32 × mz_N) → Prop} (hr : ∀ (w : Int32) (N2 : mz_N), C0 (w, N2) → Q (.inl (some (.int w))) (mz_k S R N2 b t)) (hp : cp_546_0 v1 v2 N) (hC : C0 (cf_546_0 v1 v2 N)) : mz_G (d, mz_X0 L xs, some .int, [], mk_546, 4, Q) 0 mk_546 [(0, .ref 232), (1, .int v1), (2, .int v2)] [] true (mz_k S R N b t) := by
  unfold cf_546_0 at hC
  unfold cp_546_0 at hp
  refine g_aload_n rfl (g_iload_n rfl (g_aload_n rfl (g_getI (mz_at hS (Nat.le_of_ble_eq_true rfl) mzcS_232) mzcf_12_72 (g_bipush mzb_32 ?_))))
  refine g_s3v (Nat.le_of_ble_eq_true rfl) (fun _ hq => cs_547 (Nat.le_trans (Nat.le_of_ble_eq_true rfl) hd) (hS.le (Nat.le_of_ble_eq_true rfl)) (hR.le (Nat.le_of_ble_eq_true rfl))  v1 (N.1 232 72) 32 trivial hq) ?_
  refine g_zeq (tg := 28) rfl ms_546_28 hC (fun h2 hC => ?_) (fun h2 hC => ?_)
  · have hp := hp.1 h2
    refine g_iload_n rfl (g_i2l (g_lconst mzl_0 (g_lconst mzl_1 ?_)))
    refine g_s3v (Nat.le_of_ble_eq_true rfl) (fun _ hq => cs_466 (Nat.le_trans (Nat.le_of_ble_eq_true rfl) hd) (hS.le (Nat.le_of_ble_eq_true rfl)) (hR.le (Nat.le_of_ble_eq_true rfl))  v2.toInt64 0 1 trivial hq) ?_
    refine g_zeq (tg := 28) rfl ms_546_28 hC (fun h4 hC => ?_) (fun h4 hC => ?_)
    · have hp := hp.1 h4
      refine g_iconst mzi_1 (g_goto (tg := 29) rfl ms_546_29 ?_)
      refine g_weak ?_ (g_cl (cg_546_29 hd hS hR true v1 v2 N hr hp hC))
      exact ⟨rfl, rfl, rfl, trivial⟩
    · have hp := hp.2 h4
      refine g_weak ?_ (g_cl (cg_546_28 hd hS hR v1 v2 N hr hp hC))
      exact ⟨rfl, rfl, rfl, trivial⟩
  · have hp := hp.2 h2
    refine g_weak ?_ (g_cl (cg_546_28 hd hS hR v1 v2 N hr hp hC))
    exact ⟨rfl, rfl, rfl, trivial⟩
theorem cs_546 (hd : 2 ≤ d) (hS : mz_extR S 342) (hR : mz_rok R 342)  (v1 : Int32) (v2 : Int32) (N : mz_N) (hp : cp_546_0 v1 v2 N) (hq : Q (.inl (some (.int ((cf_546_0 v1 v2 N).1)))) (mz_k S R ((cf_546_0 v1 v2 N).2) b t)) : mz_Ed (mz_X0 L xs) d 546 [.ref 232, .int v1, .int v2] (mz_k S R N b t) Q :=
  by
  refine g_in mzq_546 (Nat.le_of_ble_eq_true rfl) (Nat.le_of_ble_eq_true rfl) (Nat.le_trans (Nat.le_of_ble_eq_true rfl) hd) ?_
  refine g_weak ?_ (cg_546_0 (d := d - 1) (by omega) hS hR v1 v2 N (C0 := fun z => Q (.inl (some (.int z.1))) (mz_k S R z.2 b t)) (fun _ _ h => h) hp hq)
  exact ⟨rfl, rfl, rfl, trivial⟩
/-! 548 KeptHouseModel.mains (Z)Z -/
theorem ms_548_0 : mz_sf mk_548 0 = mk_548 := mz_sf_zero _
theorem ms_548_9 : mz_sf mk_548 9 = mt_548_9 := mz_sf_add ms_548_0 (t := 9) rfl rfl
set_option maxRecDepth 100000 in
theorem mzq_548 : mz_PG0 548 = some (12, ⟨"KeptHouseModel", "mains", "(Z)Z"⟩, prog_14_method_109_code, 3, some .boolean, [], mk_548, []) := rfl
theorem cg_548_0 (hd : 1 ≤ d) (hS : mz_extR S 342) (hR : mz_rok R 342)  (v1 : Bool) (N : mz_N) {C0 : (Bool × mz_N) → Prop} (hr : ∀ (w : Bool) (N2 : mz_N), C0 (w, N2) → Q (.inl (some (.int (mz_b01 w)))) (mz_k S R N2 b t)) (hp : cp_548_0 v1 N) (hC : C0 (cf_548_0 v1 N)) : mz_G (d, mz_X0 L xs, some .boolean, [], mk_548, 3, Q) 0 mk_548 [(0, .ref 232), (1, .int (mz_b01 v1))] [] true (mz_k S R N b t) := by
  unfold cf_548_0 at hC
  unfold cp_548_0 at hp
  refine g_aload_n rfl ?_
  obtain ⟨h1, hp⟩ := hp
  refine g_v1v (Nat.le_of_ble_eq_true rfl) (mz_at hS (Nat.le_of_ble_eq_true rfl) mzcS_232) (fun _ hq => cs_484 (Nat.le_trans (Nat.le_of_ble_eq_true rfl) hd) (hS.le (Nat.le_of_ble_eq_true rfl)) (hR.le (Nat.le_of_ble_eq_true rfl))  N h1 hq) ?_
  refine g_zeq (tg := 9) rfl ms_548_9 hC (fun h2 hC => ?_) (fun h2 hC => ?_)
  · have hp := hp.1 h2
    refine g_iconst mzi_0 ?_
    exact g_zret (z := false) rfl (hr _ _ hC)
  · have hp := hp.2 h2
    refine g_aload_n rfl ?_
    have h3 := hp
    refine g_getZ (mz_at hS (Nat.le_of_ble_eq_true rfl) mzcS_232) mzcf_12_52 h3 (g_istore_n (Nat.le_of_ble_eq_true rfl) rfl (g_aload_n rfl (g_iload_n rfl (g_putZ (z := v1) (mz_at hS (Nat.le_of_ble_eq_true rfl) mzcS_232) mzcf_12_52 (g_iload_n rfl ?_)))))
    exact g_zret (z := (mz_fZ ((cf_484_0 N).2) 232 52)) rfl (hr _ _ hC)
theorem cs_548 (hd : 2 ≤ d) (hS : mz_extR S 342) (hR : mz_rok R 342)  (v1 : Bool) (N : mz_N) (hp : cp_548_0 v1 N) (hq : Q (.inl (some (.int (mz_b01 ((cf_548_0 v1 N).1))))) (mz_k S R ((cf_548_0 v1 N).2) b t)) : mz_Ed (mz_X0 L xs) d 548 [.ref 232, .int (mz_b01 v1)] (mz_k S R N b t) Q :=
  by
  refine g_in mzq_548 (Nat.le_of_ble_eq_true rfl) (Nat.le_of_ble_eq_true rfl) (Nat.le_trans (Nat.le_of_ble_eq_true rfl) hd) ?_
  refine g_weak ?_ (cg_548_0 (d := d - 1) (by omega) hS hR v1 N (C0 := fun z => Q (.inl (some (.int (mz_b01 z.1)))) (mz_k S R z.2 b t)) (fun _ _ h => h) hp hq)
  exact ⟨rfl, rfl, trivial⟩
/-! 549 KeptHouseModel.fuel (I)I -/
theorem ms_549_0 : mz_sf mk_549 0 = mk_549 := mz_sf_zero _
theorem ms_549_19 : mz_sf mk_549 19 = mt_549_19 := mz_sf_add ms_549_0 (t := 19) rfl rfl
theorem ms_549_38 : mz_sf mk_549 38 = mt_549_38 := mz_sf_add ms_549_19 (t := 19) rfl rfl
theorem ms_549_44 : mz_sf mk_549 44 = mt_549_44 := mz_sf_add ms_549_38 (t := 6) rfl rfl
set_option maxRecDepth 100000 in
theorem mzq_549 : mz_PG0 549 = some (12, ⟨"KeptHouseModel", "fuel", "(I)I"⟩, prog_14_method_110_code, 2, some .int, [], mk_549, []) := rfl
theorem cg_549_44 (hd : 1 ≤ d) (hS : mz_extR S 342) (hR : mz_rok R 342)  (s1 : Int32) (N : mz_N) {C0 : (Int32 × mz_N) → Prop} (hr : ∀ (w : Int32) (N2 : mz_N), C0 (w, N2) → Q (.inl (some (.int w))) (mz_k S R N2 b t)) (hp : cp_549_44 s1 N) (hC : C0 (cf_549_44 s1 N)) : mz_G (d, mz_X0 L xs, some .int, [], mk_549, 2, Q) 44 mt_549_44 [(0, .ref 232)] [.int s1, .ref 232] false (mz_k S R N b t) := by
  unfold cf_549_44 at hC
  unfold cp_549_44 at hp
  refine g_putI (mz_at hS (Nat.le_of_ble_eq_true rfl) mzcS_232) mzcf_12_53 (g_aload_n rfl (g_getI (mz_at hS (Nat.le_of_ble_eq_true rfl) mzcS_232) mzcf_12_53 ?_))
  exact g_iret rfl (hr _ _ hC)
theorem cg_549_0 (hd : 1 ≤ d) (hS : mz_extR S 342) (hR : mz_rok R 342)  (v1 : Int32) (N : mz_N) {C0 : (Int32 × mz_N) → Prop} (hr : ∀ (w : Int32) (N2 : mz_N), C0 (w, N2) → Q (.inl (some (.int w))) (mz_k S R N2 b t)) (hp : cp_549_0 v1 N) (hC : C0 (cf_549_0 v1 N)) : mz_G (d, mz_X0 L xs, some .int, [], mk_549, 2, Q) 0 mk_549 [(0, .ref 232), (1, .int v1)] [] true (mz_k S R N b t) := by
  unfold cf_549_0 at hC
  unfold cp_549_0 at hp
  refine g_aload_n rfl (g_iload_n rfl (g_i2l (g_lconst mzl_0 (g_con3 ?_))))
  refine g_s3v (Nat.le_of_ble_eq_true rfl) (fun _ hq => cs_466 (Nat.le_trans (Nat.le_of_ble_eq_true rfl) hd) (hS.le (Nat.le_of_ble_eq_true rfl)) (hR.le (Nat.le_of_ble_eq_true rfl))  v1.toInt64 0 1000 trivial hq) (g_iconst mzi_1 ?_)
  obtain ⟨h2, hp⟩ := hp
  refine g_v3v (Nat.le_of_ble_eq_true rfl) (mz_at hS (Nat.le_of_ble_eq_true rfl) mzcS_232) (fun _ hq => cs_462 (Nat.le_trans (Nat.le_of_ble_eq_true rfl) hd) (hS.le (Nat.le_of_ble_eq_true rfl)) (hR.le (Nat.le_of_ble_eq_true rfl))  (cf_466_0 v1.toInt64 0 1000) true N h2 hq) ?_
  refine g_zeq (tg := 19) rfl ms_549_19 hC (fun h3 hC => ?_) (fun h3 hC => ?_)
  · have hp := hp.1 h3
    refine g_iconst mzi_0 ?_
    exact g_iret rfl (hr _ _ hC)
  · have hp := hp.2 h3
    refine g_aload_n rfl (g_aload_n rfl (g_getI (mz_at hS (Nat.le_of_ble_eq_true rfl) mzcS_232) mzcf_12_53 (g_iload_n rfl (g_iadd (g_sipush mzs_1000 ?_)))))
    refine g_icle (tg := 38) rfl ms_549_38 hC (fun h4 hC => ?_) (fun h4 hC => ?_)
    · have hp := hp.1 h4
      refine g_sipush mzs_1000 (g_goto (tg := 44) rfl ms_549_44 ?_)
      refine g_weak ?_ (g_cl (cg_549_44 hd hS hR 1000 ((cf_462_0 (cf_466_0 v1.toInt64 0 1000) true N).2) hr hp hC))
      exact ⟨rfl, trivial⟩
    · have hp := hp.2 h4
      refine g_aload_n rfl (g_getI (mz_at hS (Nat.le_of_ble_eq_true rfl) mzcS_232) mzcf_12_53 (g_iload_n rfl (g_iadd ?_)))
      refine g_weak ?_ (g_cl (cg_549_44 hd hS hR ((((cf_462_0 (cf_466_0 v1.toInt64 0 1000) true N).2).1 232 53) + v1) ((cf_462_0 (cf_466_0 v1.toInt64 0 1000) true N).2) hr hp hC))
      exact ⟨rfl, trivial⟩
theorem cs_549 (hd : 2 ≤ d) (hS : mz_extR S 342) (hR : mz_rok R 342)  (v1 : Int32) (N : mz_N) (hp : cp_549_0 v1 N) (hq : Q (.inl (some (.int ((cf_549_0 v1 N).1)))) (mz_k S R ((cf_549_0 v1 N).2) b t)) : mz_Ed (mz_X0 L xs) d 549 [.ref 232, .int v1] (mz_k S R N b t) Q :=
  by
  refine g_in mzq_549 (Nat.le_of_ble_eq_true rfl) (Nat.le_of_ble_eq_true rfl) (Nat.le_trans (Nat.le_of_ble_eq_true rfl) hd) ?_
  refine g_weak ?_ (cg_549_0 (d := d - 1) (by omega) hS hR v1 N (C0 := fun z => Q (.inl (some (.int z.1))) (mz_k S R z.2 b t)) (fun _ _ h => h) hp hq)
  exact ⟨rfl, rfl, trivial⟩
/-! 550 KeptHouseModel.reset (I)Z -/
theorem ms_550_0 : mz_sf mk_550 0 = mk_550 := mz_sf_zero _
theorem ms_550_26 : mz_sf mk_550 26 = mt_550_26 := mz_sf_add ms_550_0 (t := 26) rfl rfl
theorem ms_550_28 : mz_sf mk_550 28 = mt_550_28 := mz_sf_add ms_550_26 (t := 2) rfl rfl
set_option maxRecDepth 100000 in
theorem mzq_550 : mz_PG0 550 = some (12, ⟨"KeptHouseModel", "reset", "(I)Z"⟩, prog_14_method_111_code, 2, some .boolean, [], mk_550, []) := rfl
theorem cg_550_0 (hd : 1 ≤ d) (hS : mz_extR S 342) (hR : mz_rok R 342)  (v1 : Int32) (N : mz_N) {C0 : (Bool × mz_N) → Prop} (hr : ∀ (w : Bool) (N2 : mz_N), C0 (w, N2) → Q (.inl (some (.int (mz_b01 w)))) (mz_k S R N2 b t)) (hp : cp_550_0 v1 N) (hC : C0 (cf_550_0 v1 N)) : mz_G (d, mz_X0 L xs, some .boolean, [], mk_550, 2, Q) 0 mk_550 [(0, .ref 232), (1, .int v1)] [] true (mz_k S R N b t) := by
  unfold cf_550_0 at hC
  unfold cp_550_0 at hp
  refine g_aload_n rfl (g_iload_n rfl (g_i2l (g_lconst mzl_0 (g_con3 ?_))))
  refine g_s3v (Nat.le_of_ble_eq_true rfl) (fun _ hq => cs_466 (Nat.le_trans (Nat.le_of_ble_eq_true rfl) hd) (hS.le (Nat.le_of_ble_eq_true rfl)) (hR.le (Nat.le_of_ble_eq_true rfl))  v1.toInt64 0 10 trivial hq) (g_iconst mzi_1 ?_)
  obtain ⟨h2, hp⟩ := hp
  refine g_v3v (Nat.le_of_ble_eq_true rfl) (mz_at hS (Nat.le_of_ble_eq_true rfl) mzcS_232) (fun _ hq => cs_462 (Nat.le_trans (Nat.le_of_ble_eq_true rfl) hd) (hS.le (Nat.le_of_ble_eq_true rfl)) (hR.le (Nat.le_of_ble_eq_true rfl))  (cf_466_0 v1.toInt64 0 10) true N h2 hq) ?_
  refine g_zne (tg := 26) rfl ms_550_26 hC (fun h3 hC => ?_) (fun h3 hC => ?_)
  · have hp := hp.1 h3
    refine g_iconst mzi_0 ?_
    exact g_zret (z := false) rfl (hr _ _ hC)
  · have hp := hp.2 h3
    refine g_aload_n rfl (g_getR (mz_at hS (Nat.le_of_ble_eq_true rfl) mzcS_232) mzcf_12_59 (mz_rb hR (Nat.le_of_ble_eq_true rfl) rfl mzcR_232_59) (g_iload_n rfl ?_))
    obtain ⟨h4, hp⟩ := hp
    obtain ⟨h5, hp⟩ := hp
    refine g_zald (mz_at hS (Nat.le_of_ble_eq_true rfl) mzcS_275) h4 h5 ?_
    refine g_zne (tg := 28) rfl ms_550_28 hC (fun h6 hC => ?_) (fun h6 hC => ?_)
    · have hp := hp.1 h6
      refine g_aload_n rfl (g_getR (mz_at hS (Nat.le_of_ble_eq_true rfl) mzcS_232) mzcf_12_59 (mz_rb hR (Nat.le_of_ble_eq_true rfl) rfl mzcR_232_59) (g_iload_n rfl (g_iconst mzi_0 ?_)))
      obtain ⟨h7, hp⟩ := hp
      refine g_zast (z := false) (mz_at hS (Nat.le_of_ble_eq_true rfl) mzcS_275) h7 (g_aload_n rfl (g_getR (mz_at hS (Nat.le_of_ble_eq_true rfl) mzcS_232) mzcf_12_58 (mz_rb hR (Nat.le_of_ble_eq_true rfl) rfl mzcR_232_58) (g_iload_n rfl (g_iconst mzi_0 ?_))))
      have h8 := hp
      refine g_iast (mz_at hS (Nat.le_of_ble_eq_true rfl) mzcS_274) h8 (g_iconst mzi_1 ?_)
      exact g_zret (z := true) rfl (hr _ _ hC)
    · have hp := hp.2 h6
      refine g_iconst mzi_0 ?_
      exact g_zret (z := false) rfl (hr _ _ hC)
theorem cs_550 (hd : 2 ≤ d) (hS : mz_extR S 342) (hR : mz_rok R 342)  (v1 : Int32) (N : mz_N) (hp : cp_550_0 v1 N) (hq : Q (.inl (some (.int (mz_b01 ((cf_550_0 v1 N).1))))) (mz_k S R ((cf_550_0 v1 N).2) b t)) : mz_Ed (mz_X0 L xs) d 550 [.ref 232, .int v1] (mz_k S R N b t) Q :=
  by
  refine g_in mzq_550 (Nat.le_of_ble_eq_true rfl) (Nat.le_of_ble_eq_true rfl) (Nat.le_trans (Nat.le_of_ble_eq_true rfl) hd) ?_
  refine g_weak ?_ (cg_550_0 (d := d - 1) (by omega) hS hR v1 N (C0 := fun z => Q (.inl (some (.int (mz_b01 z.1)))) (mz_k S R z.2 b t)) (fun _ _ h => h) hp hq)
  exact ⟨rfl, rfl, trivial⟩
/-! 551 KeptHouseModel.circuit (II)I -/
theorem ms_551_0 : mz_sf mk_551 0 = mk_551 := mz_sf_zero _
theorem ms_551_29 : mz_sf mk_551 29 = mt_551_29 := mz_sf_add ms_551_0 (t := 29) rfl rfl
theorem ms_551_30 : mz_sf mk_551 30 = mt_551_30 := mz_sf_add ms_551_29 (t := 1) rfl rfl
theorem ms_551_39 : mz_sf mk_551 39 = mt_551_39 := mz_sf_add ms_551_30 (t := 9) rfl rfl
theorem ms_551_83 : mz_sf mk_551 83 = mt_551_83 := mz_sf_add ms_551_39 (t := 44) rfl rfl
theorem ms_551_90 : mz_sf mk_551 90 = mt_551_90 := mz_sf_add ms_551_83 (t := 7) rfl rfl
theorem ms_551_103 : mz_sf mk_551 103 = mt_551_103 := mz_sf_add ms_551_90 (t := 13) rfl rfl
theorem ms_551_104 : mz_sf mk_551 104 = mt_551_104 := mz_sf_add ms_551_103 (t := 1) rfl rfl
theorem ms_551_105 : mz_sf mk_551 105 = mt_551_105 := mz_sf_add ms_551_104 (t := 1) rfl rfl
theorem ms_551_118 : mz_sf mk_551 118 = mt_551_118 := mz_sf_add ms_551_105 (t := 13) rfl rfl
theorem ms_551_119 : mz_sf mk_551 119 = mt_551_119 := mz_sf_add ms_551_118 (t := 1) rfl rfl
theorem ms_551_120 : mz_sf mk_551 120 = mt_551_120 := mz_sf_add ms_551_119 (t := 1) rfl rfl
theorem ms_551_127 : mz_sf mk_551 127 = mt_551_127 := mz_sf_add ms_551_120 (t := 7) rfl rfl
set_option maxRecDepth 100000 in
theorem mzq_551 : mz_PG0 551 = some (12, ⟨"KeptHouseModel", "circuit", "(II)I"⟩, prog_14_method_112_code, 3, some .int, [], mk_551, []) := rfl
theorem cg_551_30 (hd : 1 ≤ d) (hS : mz_extR S 342) (hR : mz_rok R 342)  (s1 : Bool) (v1 : Int32) (v2 : Int32) (N : mz_N) {C0 : (Int32 × mz_N) → Prop} (hr : ∀ (w : Int32) (N2 : mz_N), C0 (w, N2) → Q (.inl (some (.int w))) (mz_k S R N2 b t)) (hp : cp_551_30 s1 v1 v2 N) (hC : C0 (cf_551_30 s1 v1 v2 N)) : mz_G (d, mz_X0 L xs, some .int, [], mk_551, 3, Q) 30 mt_551_30 [(0, .ref 232), (1, .int v1), (2, .int v2)] [.int (mz_b01 s1), .ref 232] false (mz_k S R N b t) := by
  unfold cf_551_30 at hC
  unfold cp_551_30 at hp
  refine g_iconst mzi_1 ?_
  obtain ⟨h1, hp⟩ := hp
  refine g_v3v (Nat.le_of_ble_eq_true rfl) (mz_at hS (Nat.le_of_ble_eq_true rfl) mzcS_232) (fun _ hq => cs_462 (Nat.le_trans (Nat.le_of_ble_eq_true rfl) hd) (hS.le (Nat.le_of_ble_eq_true rfl)) (hR.le (Nat.le_of_ble_eq_true rfl))  s1 true N h1 hq) ?_
  refine g_zeq (tg := 39) rfl ms_551_39 hC (fun h2 hC => ?_) (fun h2 hC => ?_)
  · have hp := hp.1 h2
    refine g_iconst mzi_0 ?_
    exact g_iret rfl (hr _ _ hC)
  · have hp := hp.2 h2
    refine g_iload_n rfl ?_
    refine mz_cs hC (fun h3 hC => ?_) (fun h3 hC => ?_)
    · have hp := hp.1 h3
      refine g_brn (tg := 76) (by rw [h3]; rfl) (by decide) rfl ?_
      refine g_aload_n rfl (g_getR (mz_at hS (Nat.le_of_ble_eq_true rfl) mzcS_232) mzcf_12_56 (mz_rb hR (Nat.le_of_ble_eq_true rfl) rfl mzcR_232_56) (g_iload_n rfl ?_))
      have h17 := hp
      refine g_iald hS.1 (mz_at hS (Nat.le_of_ble_eq_true rfl) mzcS_272) h17 ?_
      exact g_iret rfl (hr _ _ hC)
    · have hp := hp.2 h3
      refine mz_cs hC (fun h4 hC => ?_) (fun h4 hC => ?_)
      · have hp := hp.1 h4
        refine g_br (tg := 83) (by rw [h4]; rfl) ms_551_83 ?_
        refine g_aload_n rfl (g_getR (mz_at hS (Nat.le_of_ble_eq_true rfl) mzcS_232) mzcf_12_58 (mz_rb hR (Nat.le_of_ble_eq_true rfl) rfl mzcR_232_58) (g_iload_n rfl ?_))
        have h16 := hp
        refine g_iald hS.1 (mz_at hS (Nat.le_of_ble_eq_true rfl) mzcS_274) h16 ?_
        exact g_iret rfl (hr _ _ hC)
      · have hp := hp.2 h4
        refine mz_cs hC (fun h5 hC => ?_) (fun h5 hC => ?_)
        · have hp := hp.1 h5
          refine g_br (tg := 90) (by rw [h5]; rfl) ms_551_90 ?_
          refine g_aload_n rfl (g_getR (mz_at hS (Nat.le_of_ble_eq_true rfl) mzcS_232) mzcf_12_59 (mz_rb hR (Nat.le_of_ble_eq_true rfl) rfl mzcR_232_59) (g_iload_n rfl ?_))
          obtain ⟨h13, hp⟩ := hp
          have h14 := hp
          refine g_zald (mz_at hS (Nat.le_of_ble_eq_true rfl) mzcS_275) h13 h14 ?_
          refine g_zeq (tg := 103) rfl ms_551_103 hC (fun h15 hC => ?_) (fun h15 hC => ?_)
          · refine g_iconst mzi_1 (g_goto (tg := 104) rfl ms_551_104 ?_)
            exact g_iret rfl (hr _ _ hC)
          · refine g_iconst mzi_0 ?_
            exact g_iret rfl (hr _ _ hC)
        · have hp := hp.2 h5
          refine mz_cs hC (fun h6 hC => ?_) (fun h6 hC => ?_)
          · have hp := hp.1 h6
            refine g_br (tg := 105) (by rw [h6]; rfl) ms_551_105 ?_
            refine g_aload_n rfl (g_getR (mz_at hS (Nat.le_of_ble_eq_true rfl) mzcS_232) mzcf_12_57 (mz_rb hR (Nat.le_of_ble_eq_true rfl) rfl mzcR_232_57) (g_iload_n rfl ?_))
            obtain ⟨h10, hp⟩ := hp
            have h11 := hp
            refine g_zald (mz_at hS (Nat.le_of_ble_eq_true rfl) mzcS_273) h10 h11 ?_
            refine g_zeq (tg := 118) rfl ms_551_118 hC (fun h12 hC => ?_) (fun h12 hC => ?_)
            · refine g_iconst mzi_1 (g_goto (tg := 119) rfl ms_551_119 ?_)
              exact g_iret rfl (hr _ _ hC)
            · refine g_iconst mzi_0 ?_
              exact g_iret rfl (hr _ _ hC)
          · have hp := hp.2 h6
            refine mz_cs hC (fun h7 hC => ?_) (fun h7 hC => ?_)
            · have hp := hp.1 h7
              refine g_br (tg := 120) (by rw [h7]; rfl) ms_551_120 ?_
              refine g_aload_n rfl (g_getR (mz_at hS (Nat.le_of_ble_eq_true rfl) mzcS_232) mzcf_12_19 (mz_rb hR (Nat.le_of_ble_eq_true rfl) rfl mzcR_232_19) (g_iload_n rfl ?_))
              have h9 := hp
              refine g_iald hS.1 (mz_at hS (Nat.le_of_ble_eq_true rfl) mzcS_247) h9 ?_
              exact g_iret rfl (hr _ _ hC)
            · have hp := hp.2 h7
              refine g_br (tg := 127) ((mz_tsw_d (l := [0, 1, 2, 3, 4]) (mz_rng 0 4) ⟨h3, h4, h5, h6, h7, trivial⟩).trans (mz_tg_t rfl)) ms_551_127 ?_
              refine g_aload_n rfl (g_getR (mz_at hS (Nat.le_of_ble_eq_true rfl) mzcS_232) mzcf_12_20 (mz_rb hR (Nat.le_of_ble_eq_true rfl) rfl mzcR_232_20) (g_iload_n rfl ?_))
              have h8 := hp
              refine g_iald hS.1 (mz_at hS (Nat.le_of_ble_eq_true rfl) mzcS_248) h8 ?_
              exact g_iret rfl (hr _ _ hC)
theorem cg_551_29 (hd : 1 ≤ d) (hS : mz_extR S 342) (hR : mz_rok R 342)  (v1 : Int32) (v2 : Int32) (N : mz_N) {C0 : (Int32 × mz_N) → Prop} (hr : ∀ (w : Int32) (N2 : mz_N), C0 (w, N2) → Q (.inl (some (.int w))) (mz_k S R N2 b t)) (hp : cp_551_29 v1 v2 N) (hC : C0 (cf_551_29 v1 v2 N)) : mz_G (d, mz_X0 L xs, some .int, [], mk_551, 3, Q) 29 mt_551_29 [(0, .ref 232), (1, .int v1), (2, .int v2)] [.ref 232] false (mz_k S R N b t) := by
  unfold cf_551_29 at hC
  unfold cp_551_29 at hp
  refine g_iconst mzi_0 ?_
  refine g_weak ?_ (g_cl (cg_551_30 hd hS hR false v1 v2 N hr hp hC))
  exact ⟨rfl, rfl, rfl, trivial⟩
theorem cg_551_0 (hd : 1 ≤ d) (hS : mz_extR S 342) (hR : mz_rok R 342)  (v1 : Int32) (v2 : Int32) (N : mz_N) {C0 : (Int32 × mz_N) → Prop} (hr : ∀ (w : Int32) (N2 : mz_N), C0 (w, N2) → Q (.inl (some (.int w))) (mz_k S R N2 b t)) (hp : cp_551_0 v1 v2 N) (hC : C0 (cf_551_0 v1 v2 N)) : mz_G (d, mz_X0 L xs, some .int, [], mk_551, 3, Q) 0 mk_551 [(0, .ref 232), (1, .int v1), (2, .int v2)] [] true (mz_k S R N b t) := by
  unfold cf_551_0 at hC
  unfold cp_551_0 at hp
  refine g_aload_n rfl (g_iload_n rfl (g_i2l (g_lconst mzl_0 (g_con3 ?_))))
  refine g_s3v (Nat.le_of_ble_eq_true rfl) (fun _ hq => cs_466 (Nat.le_trans (Nat.le_of_ble_eq_true rfl) hd) (hS.le (Nat.le_of_ble_eq_true rfl)) (hR.le (Nat.le_of_ble_eq_true rfl))  v1.toInt64 0 10 trivial hq) ?_
  refine g_zeq (tg := 29) rfl ms_551_29 hC (fun h2 hC => ?_) (fun h2 hC => ?_)
  · have hp := hp.1 h2
    refine g_iload_n rfl (g_i2l (g_lconst mzl_0 (g_con3 ?_)))
    refine g_s3v (Nat.le_of_ble_eq_true rfl) (fun _ hq => cs_466 (Nat.le_trans (Nat.le_of_ble_eq_true rfl) hd) (hS.le (Nat.le_of_ble_eq_true rfl)) (hR.le (Nat.le_of_ble_eq_true rfl))  v2.toInt64 0 5 trivial hq) ?_
    refine g_zeq (tg := 29) rfl ms_551_29 hC (fun h4 hC => ?_) (fun h4 hC => ?_)
    · have hp := hp.1 h4
      refine g_iconst mzi_1 (g_goto (tg := 30) rfl ms_551_30 ?_)
      refine g_weak ?_ (g_cl (cg_551_30 hd hS hR true v1 v2 N hr hp hC))
      exact ⟨rfl, rfl, rfl, trivial⟩
    · have hp := hp.2 h4
      refine g_weak ?_ (g_cl (cg_551_29 hd hS hR v1 v2 N hr hp hC))
      exact ⟨rfl, rfl, rfl, trivial⟩
  · have hp := hp.2 h2
    refine g_weak ?_ (g_cl (cg_551_29 hd hS hR v1 v2 N hr hp hC))
    exact ⟨rfl, rfl, rfl, trivial⟩
theorem cs_551 (hd : 2 ≤ d) (hS : mz_extR S 342) (hR : mz_rok R 342)  (v1 : Int32) (v2 : Int32) (N : mz_N) (hp : cp_551_0 v1 v2 N) (hq : Q (.inl (some (.int ((cf_551_0 v1 v2 N).1)))) (mz_k S R ((cf_551_0 v1 v2 N).2) b t)) : mz_Ed (mz_X0 L xs) d 551 [.ref 232, .int v1, .int v2] (mz_k S R N b t) Q :=
  by
  refine g_in mzq_551 (Nat.le_of_ble_eq_true rfl) (Nat.le_of_ble_eq_true rfl) (Nat.le_trans (Nat.le_of_ble_eq_true rfl) hd) ?_
  refine g_weak ?_ (cg_551_0 (d := d - 1) (by omega) hS hR v1 v2 N (C0 := fun z => Q (.inl (some (.int z.1))) (mz_k S R z.2 b t)) (fun _ _ h => h) hp hq)
  exact ⟨rfl, rfl, rfl, trivial⟩
/-! 552 KeptHouseModel.state (I)I -/
theorem ms_552_0 : mz_sf mk_552 0 = mk_552 := mz_sf_zero _
theorem ms_552_19 : mz_sf mk_552 19 = mt_552_19 := mz_sf_add ms_552_0 (t := 19) rfl rfl
theorem ms_552_81 : mz_sf mk_552 81 = mt_552_81 := mz_sf_add ms_552_19 (t := 62) rfl rfl
theorem ms_552_86 : mz_sf mk_552 86 = mt_552_86 := mz_sf_add ms_552_81 (t := 5) rfl rfl
theorem ms_552_91 : mz_sf mk_552 91 = mt_552_91 := mz_sf_add ms_552_86 (t := 5) rfl rfl
theorem ms_552_96 : mz_sf mk_552 96 = mt_552_96 := mz_sf_add ms_552_91 (t := 5) rfl rfl
theorem ms_552_107 : mz_sf mk_552 107 = mt_552_107 := mz_sf_add ms_552_96 (t := 11) rfl rfl
theorem ms_552_108 : mz_sf mk_552 108 = mt_552_108 := mz_sf_add ms_552_107 (t := 1) rfl rfl
theorem ms_552_109 : mz_sf mk_552 109 = mt_552_109 := mz_sf_add ms_552_108 (t := 1) rfl rfl
theorem ms_552_114 : mz_sf mk_552 114 = mt_552_114 := mz_sf_add ms_552_109 (t := 5) rfl rfl
theorem ms_552_120 : mz_sf mk_552 120 = mt_552_120 := mz_sf_add ms_552_114 (t := 6) rfl rfl
theorem ms_552_126 : mz_sf mk_552 126 = mt_552_126 := mz_sf_add ms_552_120 (t := 6) rfl rfl
theorem ms_552_137 : mz_sf mk_552 137 = mt_552_137 := mz_sf_add ms_552_126 (t := 11) rfl rfl
theorem ms_552_138 : mz_sf mk_552 138 = mt_552_138 := mz_sf_add ms_552_137 (t := 1) rfl rfl
theorem ms_552_139 : mz_sf mk_552 139 = mt_552_139 := mz_sf_add ms_552_138 (t := 1) rfl rfl
theorem ms_552_150 : mz_sf mk_552 150 = mt_552_150 := mz_sf_add ms_552_139 (t := 11) rfl rfl
theorem ms_552_151 : mz_sf mk_552 151 = mt_552_151 := mz_sf_add ms_552_150 (t := 1) rfl rfl
theorem ms_552_152 : mz_sf mk_552 152 = mt_552_152 := mz_sf_add ms_552_151 (t := 1) rfl rfl
set_option maxRecDepth 100000 in
theorem mzq_552 : mz_PG0 552 = some (12, ⟨"KeptHouseModel", "state", "(I)I"⟩, prog_14_method_113_code, 2, some .int, [], mk_552, []) := rfl
theorem cg_552_0 (hd : 1 ≤ d) (hS : mz_extR S 342) (hR : mz_rok R 342)  (v1 : Int32) (N : mz_N) {C0 : (Int32 × mz_N) → Prop} (hr : ∀ (w : Int32) (N2 : mz_N), C0 (w, N2) → Q (.inl (some (.int w))) (mz_k S R N2 b t)) (hp : cp_552_0 v1 N) (hC : C0 (cf_552_0 v1 N)) : mz_G (d, mz_X0 L xs, some .int, [], mk_552, 2, Q) 0 mk_552 [(0, .ref 232), (1, .int v1)] [] true (mz_k S R N b t) := by
  unfold cf_552_0 at hC
  unfold cp_552_0 at hp
  refine g_aload_n rfl (g_iload_n rfl (g_i2l (g_lconst mzl_0 (g_con3 ?_))))
  refine g_s3v (Nat.le_of_ble_eq_true rfl) (fun _ hq => cs_466 (Nat.le_trans (Nat.le_of_ble_eq_true rfl) hd) (hS.le (Nat.le_of_ble_eq_true rfl)) (hR.le (Nat.le_of_ble_eq_true rfl))  v1.toInt64 0 10 trivial hq) (g_iconst mzi_1 ?_)
  obtain ⟨h2, hp⟩ := hp
  refine g_v3v (Nat.le_of_ble_eq_true rfl) (mz_at hS (Nat.le_of_ble_eq_true rfl) mzcS_232) (fun _ hq => cs_462 (Nat.le_trans (Nat.le_of_ble_eq_true rfl) hd) (hS.le (Nat.le_of_ble_eq_true rfl)) (hR.le (Nat.le_of_ble_eq_true rfl))  (cf_466_0 v1.toInt64 0 10) true N h2 hq) ?_
  refine g_zeq (tg := 19) rfl ms_552_19 hC (fun h3 hC => ?_) (fun h3 hC => ?_)
  · have hp := hp.1 h3
    refine g_iconst mzi_0 ?_
    exact g_iret rfl (hr _ _ hC)
  · have hp := hp.2 h3
    refine g_iload_n rfl ?_
    refine mz_cs hC (fun h4 hC => ?_) (fun h4 hC => ?_)
    · have hp := hp.1 h4
      refine g_brn (tg := 76) (by rw [h4]; rfl) (by decide) rfl ?_
      refine g_aload_n rfl (g_getI (mz_at hS (Nat.le_of_ble_eq_true rfl) mzcS_232) mzcf_12_54 ?_)
      exact g_iret rfl (hr _ _ hC)
    · have hp := hp.2 h4
      refine mz_cs hC (fun h5 hC => ?_) (fun h5 hC => ?_)
      · have hp := hp.1 h5
        refine g_br (tg := 81) (by rw [h5]; rfl) ms_552_81 ?_
        refine g_aload_n rfl (g_getI (mz_at hS (Nat.le_of_ble_eq_true rfl) mzcS_232) mzcf_12_53 ?_)
        exact g_iret rfl (hr _ _ hC)
      · have hp := hp.2 h5
        refine mz_cs hC (fun h6 hC => ?_) (fun h6 hC => ?_)
        · have hp := hp.1 h6
          refine g_br (tg := 86) (by rw [h6]; rfl) ms_552_86 ?_
          refine g_aload_n rfl (g_getI (mz_at hS (Nat.le_of_ble_eq_true rfl) mzcS_232) mzcf_12_55 ?_)
          exact g_iret rfl (hr _ _ hC)
        · have hp := hp.2 h6
          refine mz_cs hC (fun h7 hC => ?_) (fun h7 hC => ?_)
          · have hp := hp.1 h7
            refine g_br (tg := 91) (by rw [h7]; rfl) ms_552_91 ?_
            refine g_aload_n rfl (g_getI (mz_at hS (Nat.le_of_ble_eq_true rfl) mzcS_232) mzcf_12_61 ?_)
            exact g_iret rfl (hr _ _ hC)
          · have hp := hp.2 h7
            refine mz_cs hC (fun h8 hC => ?_) (fun h8 hC => ?_)
            · have hp := hp.1 h8
              refine g_br (tg := 96) (by rw [h8]; rfl) ms_552_96 ?_
              refine g_aload_n rfl ?_
              have h18 := hp
              refine g_getZ (mz_at hS (Nat.le_of_ble_eq_true rfl) mzcS_232) mzcf_12_63 h18 ?_
              refine g_zeq (tg := 107) rfl ms_552_107 hC (fun h19 hC => ?_) (fun h19 hC => ?_)
              · refine g_iconst mzi_1 (g_goto (tg := 108) rfl ms_552_108 ?_)
                exact g_iret rfl (hr _ _ hC)
              · refine g_iconst mzi_0 ?_
                exact g_iret rfl (hr _ _ hC)
            · have hp := hp.2 h8
              refine mz_cs hC (fun h9 hC => ?_) (fun h9 hC => ?_)
              · have hp := hp.1 h9
                refine g_br (tg := 109) (by rw [h9]; rfl) ms_552_109 ?_
                refine g_aload_n rfl (g_getI (mz_at hS (Nat.le_of_ble_eq_true rfl) mzcS_232) mzcf_12_62 ?_)
                exact g_iret rfl (hr _ _ hC)
              · have hp := hp.2 h9
                refine mz_cs hC (fun h10 hC => ?_) (fun h10 hC => ?_)
                · have hp := hp.1 h10
                  refine g_br (tg := 114) (by rw [h10]; rfl) ms_552_114 ?_
                  refine g_aload_n rfl (g_getL (mz_at hS (Nat.le_of_ble_eq_true rfl) mzcS_232) mzcf_12_68 (g_l2i ?_))
                  exact g_iret rfl (hr _ _ hC)
                · have hp := hp.2 h10
                  refine mz_cs hC (fun h11 hC => ?_) (fun h11 hC => ?_)
                  · have hp := hp.1 h11
                    refine g_br (tg := 120) (by rw [h11]; rfl) ms_552_120 ?_
                    refine g_aload_n rfl (g_getL (mz_at hS (Nat.le_of_ble_eq_true rfl) mzcS_232) mzcf_12_66 (g_l2i ?_))
                    exact g_iret rfl (hr _ _ hC)
                  · have hp := hp.2 h11
                    refine mz_cs hC (fun h12 hC => ?_) (fun h12 hC => ?_)
                    · have hp := hp.1 h12
                      refine g_br (tg := 126) (by rw [h12]; rfl) ms_552_126 ?_
                      refine g_aload_n rfl ?_
                      have h16 := hp
                      refine g_getZ (mz_at hS (Nat.le_of_ble_eq_true rfl) mzcS_232) mzcf_12_64 h16 ?_
                      refine g_zeq (tg := 137) rfl ms_552_137 hC (fun h17 hC => ?_) (fun h17 hC => ?_)
                      · refine g_iconst mzi_1 (g_goto (tg := 138) rfl ms_552_138 ?_)
                        exact g_iret rfl (hr _ _ hC)
                      · refine g_iconst mzi_0 ?_
                        exact g_iret rfl (hr _ _ hC)
                    · have hp := hp.2 h12
                      refine mz_cs hC (fun h13 hC => ?_) (fun h13 hC => ?_)
                      · have hp := hp.1 h13
                        refine g_br (tg := 139) (by rw [h13]; rfl) ms_552_139 ?_
                        refine g_aload_n rfl ?_
                        have h14 := hp
                        refine g_getZ (mz_at hS (Nat.le_of_ble_eq_true rfl) mzcS_232) mzcf_12_65 h14 ?_
                        refine g_zeq (tg := 150) rfl ms_552_150 hC (fun h15 hC => ?_) (fun h15 hC => ?_)
                        · refine g_iconst mzi_1 (g_goto (tg := 151) rfl ms_552_151 ?_)
                          exact g_iret rfl (hr _ _ hC)
                        · refine g_iconst mzi_0 ?_
                          exact g_iret rfl (hr _ _ hC)
                      · have hp := hp.2 h13
                        refine g_br (tg := 152) ((mz_tsw_d (l := [0, 1, 2, 3, 4, 5, 6, 7, 8, 9]) (mz_rng 0 9) ⟨h4, h5, h6, h7, h8, h9, h10, h11, h12, h13, trivial⟩).trans (mz_tg_t rfl)) ms_552_152 ?_
                        refine g_aload_n rfl (g_getL (mz_at hS (Nat.le_of_ble_eq_true rfl) mzcS_232) mzcf_12_2 (g_l2i ?_))
                        exact g_iret rfl (hr _ _ hC)
theorem cs_552 (hd : 2 ≤ d) (hS : mz_extR S 342) (hR : mz_rok R 342)  (v1 : Int32) (N : mz_N) (hp : cp_552_0 v1 N) (hq : Q (.inl (some (.int ((cf_552_0 v1 N).1)))) (mz_k S R ((cf_552_0 v1 N).2) b t)) : mz_Ed (mz_X0 L xs) d 552 [.ref 232, .int v1] (mz_k S R N b t) Q :=
  by
  refine g_in mzq_552 (Nat.le_of_ble_eq_true rfl) (Nat.le_of_ble_eq_true rfl) (Nat.le_trans (Nat.le_of_ble_eq_true rfl) hd) ?_
  refine g_weak ?_ (cg_552_0 (d := d - 1) (by omega) hS hR v1 N (C0 := fun z => Q (.inl (some (.int z.1))) (mz_k S R z.2 b t)) (fun _ _ h => h) hp hq)
  exact ⟨rfl, rfl, trivial⟩
/-! 553 KeptHouseModel.cell (III)J -/
theorem ms_553_0 : mz_sf mk_553 0 = mk_553 := mz_sf_zero _
theorem ms_553_25 : mz_sf mk_553 25 = mt_553_25 := mz_sf_add ms_553_0 (t := 25) rfl rfl
theorem ms_553_26 : mz_sf mk_553 26 = mt_553_26 := mz_sf_add ms_553_25 (t := 1) rfl rfl
theorem ms_553_35 : mz_sf mk_553 35 = mt_553_35 := mz_sf_add ms_553_26 (t := 9) rfl rfl
theorem ms_553_57 : mz_sf mk_553 57 = mt_553_57 := mz_sf_add ms_553_35 (t := 22) rfl rfl
theorem ms_553_72 : mz_sf mk_553 72 = mt_553_72 := mz_sf_add ms_553_57 (t := 15) rfl rfl
theorem ms_553_87 : mz_sf mk_553 87 = mt_553_87 := mz_sf_add ms_553_72 (t := 15) rfl rfl
theorem ms_553_102 : mz_sf mk_553 102 = mt_553_102 := mz_sf_add ms_553_87 (t := 15) rfl rfl
theorem ms_553_117 : mz_sf mk_553 117 = mt_553_117 := mz_sf_add ms_553_102 (t := 15) rfl rfl
theorem ms_553_124 : mz_sf mk_553 124 = mt_553_124 := mz_sf_add ms_553_117 (t := 7) rfl rfl
set_option maxRecDepth 100000 in
theorem mzq_553 : mz_PG0 553 = some (12, ⟨"KeptHouseModel", "cell", "(III)J"⟩, prog_14_method_114_code, 5, some .long, [], mk_553, []) := rfl
theorem cg_553_26 (hd : 2 ≤ d) (hS : mz_extR S 342) (hR : mz_rok R 342)  (s1 : Bool) (v1 : Int32) (v2 : Int32) (v3 : Int32) (N : mz_N) {C0 : (Int64 × mz_N) → Prop} (hr : ∀ (w : Int64) (N2 : mz_N), C0 (w, N2) → Q (.inl (some (.long w))) (mz_k S R N2 b t)) (hp : cp_553_26 s1 v1 v2 v3 N) (hC : C0 (cf_553_26 s1 v1 v2 v3 N)) : mz_G (d, mz_X0 L xs, some .long, [], mk_553, 5, Q) 26 mt_553_26 [(0, .ref 232), (1, .int v1), (2, .int v2), (3, .int v3)] [.int (mz_b01 s1), .ref 232] false (mz_k S R N b t) := by
  unfold cf_553_26 at hC
  unfold cp_553_26 at hp
  refine g_iconst mzi_1 ?_
  obtain ⟨h1, hp⟩ := hp
  refine g_v3v (Nat.le_of_ble_eq_true rfl) (mz_at hS (Nat.le_of_ble_eq_true rfl) mzcS_232) (fun _ hq => cs_462 (Nat.le_trans (Nat.le_of_ble_eq_true rfl) hd) (hS.le (Nat.le_of_ble_eq_true rfl)) (hR.le (Nat.le_of_ble_eq_true rfl))  s1 true N h1 hq) ?_
  refine g_zeq (tg := 35) rfl ms_553_35 hC (fun h2 hC => ?_) (fun h2 hC => ?_)
  · have hp := hp.1 h2
    refine g_lconst mzl_0 ?_
    exact g_lret rfl (hr _ _ hC)
  · have hp := hp.2 h2
    refine g_bipush mzb_48 (g_iload_n rfl (g_imul (g_iload_n rfl (g_iadd (g_istore (Nat.le_of_ble_eq_true rfl) rfl (g_iload_n rfl ?_))))))
    refine g_ifne (tg := 57) rfl ms_553_57 hC (fun h3 hC => ?_) (fun h3 hC => ?_)
    · have hp := hp.1 h3
      refine g_aload_n rfl (g_getR (mz_at hS (Nat.le_of_ble_eq_true rfl) mzcS_232) mzcf_12_40 (mz_rb hR (Nat.le_of_ble_eq_true rfl) rfl mzcR_232_40) (g_iload rfl ?_))
      have h4 := hp
      refine g_lald (mz_at hS (Nat.le_of_ble_eq_true rfl) mzcS_260) h4 (g_goto (tg := 124) rfl ms_553_124 ?_)
      exact g_lret rfl (hr _ _ hC)
    · have hp := hp.2 h3
      refine g_iload_n rfl (g_iconst mzi_1 ?_)
      refine g_icne (tg := 72) rfl ms_553_72 hC (fun h5 hC => ?_) (fun h5 hC => ?_)
      · have hp := hp.1 h5
        refine g_aload_n rfl (g_getR (mz_at hS (Nat.le_of_ble_eq_true rfl) mzcS_232) mzcf_12_41 (mz_rb hR (Nat.le_of_ble_eq_true rfl) rfl mzcR_232_41) (g_iload rfl ?_))
        have h6 := hp
        refine g_lald (mz_at hS (Nat.le_of_ble_eq_true rfl) mzcS_261) h6 (g_goto (tg := 124) rfl ms_553_124 ?_)
        exact g_lret rfl (hr _ _ hC)
      · have hp := hp.2 h5
        refine g_iload_n rfl (g_iconst mzi_2 ?_)
        refine g_icne (tg := 87) rfl ms_553_87 hC (fun h7 hC => ?_) (fun h7 hC => ?_)
        · have hp := hp.1 h7
          refine g_aload_n rfl (g_getR (mz_at hS (Nat.le_of_ble_eq_true rfl) mzcS_232) mzcf_12_42 (mz_rb hR (Nat.le_of_ble_eq_true rfl) rfl mzcR_232_42) (g_iload rfl ?_))
          have h8 := hp
          refine g_lald (mz_at hS (Nat.le_of_ble_eq_true rfl) mzcS_262) h8 (g_goto (tg := 124) rfl ms_553_124 ?_)
          exact g_lret rfl (hr _ _ hC)
        · have hp := hp.2 h7
          refine g_iload_n rfl (g_iconst mzi_3 ?_)
          refine g_icne (tg := 102) rfl ms_553_102 hC (fun h9 hC => ?_) (fun h9 hC => ?_)
          · have hp := hp.1 h9
            refine g_aload_n rfl (g_getR (mz_at hS (Nat.le_of_ble_eq_true rfl) mzcS_232) mzcf_12_43 (mz_rb hR (Nat.le_of_ble_eq_true rfl) rfl mzcR_232_43) (g_iload rfl ?_))
            have h10 := hp
            refine g_lald (mz_at hS (Nat.le_of_ble_eq_true rfl) mzcS_263) h10 (g_goto (tg := 124) rfl ms_553_124 ?_)
            exact g_lret rfl (hr _ _ hC)
          · have hp := hp.2 h9
            refine g_iload_n rfl (g_iconst mzi_4 ?_)
            refine g_icne (tg := 117) rfl ms_553_117 hC (fun h11 hC => ?_) (fun h11 hC => ?_)
            · have hp := hp.1 h11
              refine g_aload_n rfl (g_getR (mz_at hS (Nat.le_of_ble_eq_true rfl) mzcS_232) mzcf_12_44 (mz_rb hR (Nat.le_of_ble_eq_true rfl) rfl mzcR_232_44) (g_iload rfl ?_))
              have h12 := hp
              refine g_lald (mz_at hS (Nat.le_of_ble_eq_true rfl) mzcS_264) h12 (g_goto (tg := 124) rfl ms_553_124 ?_)
              exact g_lret rfl (hr _ _ hC)
            · have hp := hp.2 h11
              refine g_aload_n rfl (g_getR (mz_at hS (Nat.le_of_ble_eq_true rfl) mzcS_232) mzcf_12_45 (mz_rb hR (Nat.le_of_ble_eq_true rfl) rfl mzcR_232_45) (g_iload rfl ?_))
              have h13 := hp
              refine g_lald (mz_at hS (Nat.le_of_ble_eq_true rfl) mzcS_265) h13 ?_
              exact g_lret rfl (hr _ _ hC)
theorem cg_553_25 (hd : 2 ≤ d) (hS : mz_extR S 342) (hR : mz_rok R 342)  (v1 : Int32) (v2 : Int32) (v3 : Int32) (N : mz_N) {C0 : (Int64 × mz_N) → Prop} (hr : ∀ (w : Int64) (N2 : mz_N), C0 (w, N2) → Q (.inl (some (.long w))) (mz_k S R N2 b t)) (hp : cp_553_25 v1 v2 v3 N) (hC : C0 (cf_553_25 v1 v2 v3 N)) : mz_G (d, mz_X0 L xs, some .long, [], mk_553, 5, Q) 25 mt_553_25 [(0, .ref 232), (1, .int v1), (2, .int v2), (3, .int v3)] [.ref 232] false (mz_k S R N b t) := by
  unfold cf_553_25 at hC
  unfold cp_553_25 at hp
  refine g_iconst mzi_0 ?_
  refine g_weak ?_ (g_cl (cg_553_26 hd hS hR false v1 v2 v3 N hr hp hC))
  exact ⟨rfl, rfl, rfl, rfl, trivial⟩
theorem cg_553_0 (hd : 2 ≤ d) (hS : mz_extR S 342) (hR : mz_rok R 342)  (v1 : Int32) (v2 : Int32) (v3 : Int32) (N : mz_N) {C0 : (Int64 × mz_N) → Prop} (hr : ∀ (w : Int64) (N2 : mz_N), C0 (w, N2) → Q (.inl (some (.long w))) (mz_k S R N2 b t)) (hp : cp_553_0 v1 v2 v3 N) (hC : C0 (cf_553_0 v1 v2 v3 N)) : mz_G (d, mz_X0 L xs, some .long, [], mk_553, 5, Q) 0 mk_553 [(0, .ref 232), (1, .int v1), (2, .int v2), (3, .int v3)] [] true (mz_k S R N b t) := by
  unfold cf_553_0 at hC
  unfold cp_553_0 at hp
  refine g_aload_n rfl (g_iload_n rfl (g_iload_n rfl ?_))
  refine g_s2v (Nat.le_of_ble_eq_true rfl) (fun _ hq => cs_491 (Nat.le_trans (Nat.le_of_ble_eq_true rfl) hd) (hS.le (Nat.le_of_ble_eq_true rfl)) (hR.le (Nat.le_of_ble_eq_true rfl))  v1 v2 trivial hq) ?_
  refine g_zeq (tg := 25) rfl ms_553_25 hC (fun h2 hC => ?_) (fun h2 hC => ?_)
  · have hp := hp.1 h2
    refine g_iload_n rfl (g_i2l (g_lconst mzl_0 (g_con3 ?_)))
    refine g_s3v (Nat.le_of_ble_eq_true rfl) (fun _ hq => cs_466 (Nat.le_trans (Nat.le_of_ble_eq_true rfl) hd) (hS.le (Nat.le_of_ble_eq_true rfl)) (hR.le (Nat.le_of_ble_eq_true rfl))  v3.toInt64 0 5 trivial hq) ?_
    refine g_zeq (tg := 25) rfl ms_553_25 hC (fun h4 hC => ?_) (fun h4 hC => ?_)
    · have hp := hp.1 h4
      refine g_iconst mzi_1 (g_goto (tg := 26) rfl ms_553_26 ?_)
      refine g_weak ?_ (g_cl (cg_553_26 hd hS hR true v1 v2 v3 N hr hp hC))
      exact ⟨rfl, rfl, rfl, rfl, trivial⟩
    · have hp := hp.2 h4
      refine g_weak ?_ (g_cl (cg_553_25 hd hS hR v1 v2 v3 N hr hp hC))
      exact ⟨rfl, rfl, rfl, rfl, trivial⟩
  · have hp := hp.2 h2
    refine g_weak ?_ (g_cl (cg_553_25 hd hS hR v1 v2 v3 N hr hp hC))
    exact ⟨rfl, rfl, rfl, rfl, trivial⟩
theorem cs_553 (hd : 3 ≤ d) (hS : mz_extR S 342) (hR : mz_rok R 342)  (v1 : Int32) (v2 : Int32) (v3 : Int32) (N : mz_N) (hp : cp_553_0 v1 v2 v3 N) (hq : Q (.inl (some (.long ((cf_553_0 v1 v2 v3 N).1)))) (mz_k S R ((cf_553_0 v1 v2 v3 N).2) b t)) : mz_Ed (mz_X0 L xs) d 553 [.ref 232, .int v1, .int v2, .int v3] (mz_k S R N b t) Q :=
  by
  refine g_in mzq_553 (Nat.le_of_ble_eq_true rfl) (Nat.le_of_ble_eq_true rfl) (Nat.le_trans (Nat.le_of_ble_eq_true rfl) hd) ?_
  refine g_weak ?_ (cg_553_0 (d := d - 1) (by omega) hS hR v1 v2 v3 N (C0 := fun z => Q (.inl (some (.long z.1))) (mz_k S R z.2 b t)) (fun _ _ h => h) hp hq)
  exact ⟨rfl, rfl, rfl, rfl, trivial⟩
/-! 554 KeptHouseModel.ignite (II)Z -/
theorem ms_554_0 : mz_sf mk_554 0 = mk_554 := mz_sf_zero _
theorem ms_554_29 : mz_sf mk_554 29 = mt_554_29 := mz_sf_add ms_554_0 (t := 29) rfl rfl
theorem ms_554_31 : mz_sf mk_554 31 = mt_554_31 := mz_sf_add ms_554_29 (t := 2) rfl rfl
set_option maxRecDepth 100000 in
theorem mzq_554 : mz_PG0 554 = some (12, ⟨"KeptHouseModel", "ignite", "(II)Z"⟩, prog_14_method_115_code, 3, some .boolean, [], mk_554, []) := rfl
theorem cg_554_0 (hd : 2 ≤ d) (hS : mz_extR S 342) (hR : mz_rok R 342)  (v1 : Int32) (v2 : Int32) (N : mz_N) {C0 : (Bool × mz_N) → Prop} (hr : ∀ (w : Bool) (N2 : mz_N), C0 (w, N2) → Q (.inl (some (.int (mz_b01 w)))) (mz_k S R N2 b t)) (hp : cp_554_0 v1 v2 N) (hC : C0 (cf_554_0 v1 v2 N)) : mz_G (d, mz_X0 L xs, some .boolean, [], mk_554, 3, Q) 0 mk_554 [(0, .ref 232), (1, .int v1), (2, .int v2)] [] true (mz_k S R N b t) := by
  unfold cf_554_0 at hC
  unfold cp_554_0 at hp
  refine g_aload_n rfl (g_iload_n rfl (g_iload_n rfl ?_))
  refine g_s2v (Nat.le_of_ble_eq_true rfl) (fun _ hq => cs_491 (Nat.le_trans (Nat.le_of_ble_eq_true rfl) hd) (hS.le (Nat.le_of_ble_eq_true rfl)) (hR.le (Nat.le_of_ble_eq_true rfl))  v1 v2 trivial hq) (g_iconst mzi_1 ?_)
  obtain ⟨h2, hp⟩ := hp
  refine g_v3v (Nat.le_of_ble_eq_true rfl) (mz_at hS (Nat.le_of_ble_eq_true rfl) mzcS_232) (fun _ hq => cs_462 (Nat.le_trans (Nat.le_of_ble_eq_true rfl) hd) (hS.le (Nat.le_of_ble_eq_true rfl)) (hR.le (Nat.le_of_ble_eq_true rfl))  (cf_491_0 v1 v2) true N h2 hq) ?_
  refine g_zne (tg := 29) rfl ms_554_29 hC (fun h3 hC => ?_) (fun h3 hC => ?_)
  · have hp := hp.1 h3
    refine g_iconst mzi_0 ?_
    exact g_zret (z := false) rfl (hr _ _ hC)
  · have hp := hp.2 h3
    refine g_aload_n rfl (g_getR (mz_at hS (Nat.le_of_ble_eq_true rfl) mzcS_232) mzcf_12_44 (mz_rb hR (Nat.le_of_ble_eq_true rfl) rfl mzcR_232_44) (g_bipush mzb_48 (g_iload_n rfl (g_imul (g_iload_n rfl (g_iadd ?_))))))
    obtain ⟨h4, hp⟩ := hp
    refine g_lald (mz_at hS (Nat.le_of_ble_eq_true rfl) mzcS_264) h4 (g_lconst mzl_0 (g_lcmp ?_))
    refine g_lle (tg := 31) rfl ms_554_31 hC (fun h5 hC => ?_) (fun h5 hC => ?_)
    · have hp := hp.1 h5
      refine g_iconst mzi_0 ?_
      exact g_zret (z := false) rfl (hr _ _ hC)
    · have hp := hp.2 h5
      refine g_aload_n rfl (g_getR (mz_at hS (Nat.le_of_ble_eq_true rfl) mzcS_232) mzcf_12_44 (mz_rb hR (Nat.le_of_ble_eq_true rfl) rfl mzcR_232_44) (g_bipush mzb_48 (g_iload_n rfl (g_imul (g_iload_n rfl (g_iadd (g_con3 ?_)))))))
      have h6 := hp
      refine g_last (mz_at hS (Nat.le_of_ble_eq_true rfl) mzcS_264) h6 (g_iconst mzi_1 ?_)
      exact g_zret (z := true) rfl (hr _ _ hC)
theorem cs_554 (hd : 3 ≤ d) (hS : mz_extR S 342) (hR : mz_rok R 342)  (v1 : Int32) (v2 : Int32) (N : mz_N) (hp : cp_554_0 v1 v2 N) (hq : Q (.inl (some (.int (mz_b01 ((cf_554_0 v1 v2 N).1))))) (mz_k S R ((cf_554_0 v1 v2 N).2) b t)) : mz_Ed (mz_X0 L xs) d 554 [.ref 232, .int v1, .int v2] (mz_k S R N b t) Q :=
  by
  refine g_in mzq_554 (Nat.le_of_ble_eq_true rfl) (Nat.le_of_ble_eq_true rfl) (Nat.le_trans (Nat.le_of_ble_eq_true rfl) hd) ?_
  refine g_weak ?_ (cg_554_0 (d := d - 1) (by omega) hS hR v1 v2 N (C0 := fun z => Q (.inl (some (.int (mz_b01 z.1)))) (mz_k S R z.2 b t)) (fun _ _ h => h) hp hq)
  exact ⟨rfl, rfl, rfl, trivial⟩
/-! 556 KeptHouseModel.isDetected (I)Z -/
theorem ms_556_0 : mz_sf mk_556 0 = mk_556 := mz_sf_zero _
theorem ms_556_24 : mz_sf mk_556 24 = mt_556_24 := mz_sf_add ms_556_0 (t := 24) rfl rfl
theorem ms_556_28 : mz_sf mk_556 28 = mt_556_28 := mz_sf_add ms_556_24 (t := 4) rfl rfl
theorem ms_556_29 : mz_sf mk_556 29 = mt_556_29 := mz_sf_add ms_556_28 (t := 1) rfl rfl
set_option maxRecDepth 100000 in
theorem mzq_556 : mz_PG0 556 = some (12, ⟨"KeptHouseModel", "isDetected", "(I)Z"⟩, prog_14_method_82_code, 2, some .boolean, [], mk_556, []) := rfl
theorem cg_556_0 (hd : 1 ≤ d) (hS : mz_extR S 342) (hR : mz_rok R 342)  (v1 : Int32) (N : mz_N) {C0 : (Bool) → Prop} (hr : ∀ (w : Bool), C0 w → Q (.inl (some (.int (mz_b01 w)))) (mz_k S R N b t)) (hp : cp_556_0 v1 N) (hC : C0 (cf_556_0 v1 N)) : mz_G (d, mz_X0 L xs, some .boolean, [], mk_556, 2, Q) 0 mk_556 [(0, .ref 232), (1, .int v1)] [] true (mz_k S R N b t) := by
  unfold cf_556_0 at hC
  unfold cp_556_0 at hp
  refine g_aload_n rfl (g_aload_n rfl (g_getR (mz_at hS (Nat.le_of_ble_eq_true rfl) mzcS_232) mzcf_12_45 (mz_rb hR (Nat.le_of_ble_eq_true rfl) rfl mzcR_232_45) (g_iload_n rfl ?_)))
  obtain ⟨h1, hp⟩ := hp
  refine g_v3v (Nat.le_of_ble_eq_true rfl) (mz_at hS (Nat.le_of_ble_eq_true rfl) mzcS_232) (fun _ hq => cs_488 (Nat.le_trans (Nat.le_of_ble_eq_true rfl) hd) (hS.le (Nat.le_of_ble_eq_true rfl)) (hR.le (Nat.le_of_ble_eq_true rfl)) 265 (mz_at hS (Nat.le_of_ble_eq_true rfl) mzcS_265) v1 N h1 hq) (g_con3 (g_aload_n rfl (g_getR (mz_at hS (Nat.le_of_ble_eq_true rfl) mzcS_232) mzcf_12_9 (mz_rb hR (Nat.le_of_ble_eq_true rfl) rfl mzcR_232_9) (g_iload_n rfl ?_))))
  have h2 := hp
  refine g_iald hS.1 (mz_at hS (Nat.le_of_ble_eq_true rfl) mzcS_237) h2 (g_i2l (g_lmul (g_lcmp ?_)))
  refine g_lle (tg := 28) rfl ms_556_28 hC (fun h3 hC => ?_) (fun h3 hC => ?_)
  · refine g_iconst mzi_1 (g_goto (tg := 29) rfl ms_556_29 ?_)
    exact g_zret (z := true) rfl (hr _ hC)
  · refine g_iconst mzi_0 ?_
    exact g_zret (z := false) rfl (hr _ hC)
theorem cs_556 (hd : 2 ≤ d) (hS : mz_extR S 342) (hR : mz_rok R 342)  (v1 : Int32) (N : mz_N) (hp : cp_556_0 v1 N) (hq : Q (.inl (some (.int (mz_b01 (cf_556_0 v1 N))))) (mz_k S R N b t)) : mz_Ed (mz_X0 L xs) d 556 [.ref 232, .int v1] (mz_k S R N b t) Q :=
  by
  refine g_in mzq_556 (Nat.le_of_ble_eq_true rfl) (Nat.le_of_ble_eq_true rfl) (Nat.le_trans (Nat.le_of_ble_eq_true rfl) hd) ?_
  refine g_weak ?_ (cg_556_0 (d := d - 1) (by omega) hS hR v1 N (C0 := fun z => Q (.inl (some (.int (mz_b01 z)))) (mz_k S R N b t)) (fun _ h => h) hp hq)
  exact ⟨rfl, rfl, trivial⟩
/-! 555 KeptHouseModel.detected (I)Z -/
theorem ms_555_0 : mz_sf mk_555 0 = mk_555 := mz_sf_zero _
theorem ms_555_21 : mz_sf mk_555 21 = mt_555_21 := mz_sf_add ms_555_0 (t := 21) rfl rfl
theorem ms_555_33 : mz_sf mk_555 33 = mt_555_33 := mz_sf_add ms_555_21 (t := 12) rfl rfl
theorem ms_555_34 : mz_sf mk_555 34 = mt_555_34 := mz_sf_add ms_555_33 (t := 1) rfl rfl
set_option maxRecDepth 100000 in
theorem mzq_555 : mz_PG0 555 = some (12, ⟨"KeptHouseModel", "detected", "(I)Z"⟩, prog_14_method_116_code, 2, some .boolean, [], mk_555, []) := rfl
theorem cg_555_33 (hd : 2 ≤ d) (hS : mz_extR S 342) (hR : mz_rok R 342)  (N : mz_N) {C0 : (Bool × mz_N) → Prop} (hr : ∀ (w : Bool) (N2 : mz_N), C0 (w, N2) → Q (.inl (some (.int (mz_b01 w)))) (mz_k S R N2 b t)) (hp : cp_555_33 N) (hC : C0 (cf_555_33 N)) : mz_G (d, mz_X0 L xs, some .boolean, [], mk_555, 2, Q) 33 mt_555_33 [] [] false (mz_k S R N b t) := by
  unfold cf_555_33 at hC
  unfold cp_555_33 at hp
  refine g_iconst mzi_0 ?_
  exact g_zret (z := false) rfl (hr _ _ hC)
theorem cg_555_21 (hd : 2 ≤ d) (hS : mz_extR S 342) (hR : mz_rok R 342)  (v1 : Int32) (N : mz_N) {C0 : (Bool × mz_N) → Prop} (hr : ∀ (w : Bool) (N2 : mz_N), C0 (w, N2) → Q (.inl (some (.int (mz_b01 w)))) (mz_k S R N2 b t)) (hp : cp_555_21 v1 N) (hC : C0 (cf_555_21 v1 N)) : mz_G (d, mz_X0 L xs, some .boolean, [], mk_555, 2, Q) 21 mt_555_21 [(0, .ref 232), (1, .int v1)] [] false (mz_k S R N b t) := by
  unfold cf_555_21 at hC
  unfold cp_555_21 at hp
  refine g_aload_n rfl (g_iload_n rfl ?_)
  obtain ⟨h1, hp⟩ := hp
  refine g_v2v (Nat.le_of_ble_eq_true rfl) (mz_at hS (Nat.le_of_ble_eq_true rfl) mzcS_232) (fun _ hq => cs_556 (Nat.le_trans (Nat.le_of_ble_eq_true rfl) hd) (hS.le (Nat.le_of_ble_eq_true rfl)) (hR.le (Nat.le_of_ble_eq_true rfl))  v1 N h1 hq) ?_
  refine g_zeq (tg := 33) rfl ms_555_33 hC (fun h2 hC => ?_) (fun h2 hC => ?_)
  · have hp := hp.1 h2
    refine g_iconst mzi_1 (g_goto (tg := 34) rfl ms_555_34 ?_)
    exact g_zret (z := true) rfl (hr _ _ hC)
  · have hp := hp.2 h2
    refine g_weak ?_ (g_cl (cg_555_33 hd hS hR N hr hp hC))
    exact trivial
theorem cg_555_0 (hd : 2 ≤ d) (hS : mz_extR S 342) (hR : mz_rok R 342)  (v1 : Int32) (N : mz_N) {C0 : (Bool × mz_N) → Prop} (hr : ∀ (w : Bool) (N2 : mz_N), C0 (w, N2) → Q (.inl (some (.int (mz_b01 w)))) (mz_k S R N2 b t)) (hp : cp_555_0 v1 N) (hC : C0 (cf_555_0 v1 N)) : mz_G (d, mz_X0 L xs, some .boolean, [], mk_555, 2, Q) 0 mk_555 [(0, .ref 232), (1, .int v1)] [] true (mz_k S R N b t) := by
  unfold cf_555_0 at hC
  unfold cp_555_0 at hp
  refine g_aload_n rfl (g_iload_n rfl (g_i2l (g_lconst mzl_0 (g_aload_n rfl (g_getI (mz_at hS (Nat.le_of_ble_eq_true rfl) mzcS_232) mzcf_12_7 (g_iconst mzi_1 (g_isub ?_)))))))
  refine g_i2l ?_
  refine g_s3v (Nat.le_of_ble_eq_true rfl) (fun _ hq => cs_466 (Nat.le_trans (Nat.le_of_ble_eq_true rfl) hd) (hS.le (Nat.le_of_ble_eq_true rfl)) (hR.le (Nat.le_of_ble_eq_true rfl))  v1.toInt64 0 (((N.1 232 7) - 1).toInt64) trivial hq) (g_iconst mzi_1 ?_)
  obtain ⟨h2, hp⟩ := hp
  refine g_v3v (Nat.le_of_ble_eq_true rfl) (mz_at hS (Nat.le_of_ble_eq_true rfl) mzcS_232) (fun _ hq => cs_462 (Nat.le_trans (Nat.le_of_ble_eq_true rfl) hd) (hS.le (Nat.le_of_ble_eq_true rfl)) (hR.le (Nat.le_of_ble_eq_true rfl))  (cf_466_0 v1.toInt64 0 (((N.1 232 7) - 1).toInt64)) true N h2 hq) ?_
  refine g_zne (tg := 33) rfl ms_555_33 hC (fun h3 hC => ?_) (fun h3 hC => ?_)
  · have hp := hp.1 h3
    refine g_weak ?_ (g_cl (cg_555_33 hd hS hR ((cf_462_0 (cf_466_0 v1.toInt64 0 (((N.1 232 7) - 1).toInt64)) true N).2) hr hp hC))
    exact trivial
  · have hp := hp.2 h3
    refine g_weak ?_ (g_cl (cg_555_21 hd hS hR v1 ((cf_462_0 (cf_466_0 v1.toInt64 0 (((N.1 232 7) - 1).toInt64)) true N).2) hr hp hC))
    exact ⟨rfl, rfl, trivial⟩
theorem cs_555 (hd : 3 ≤ d) (hS : mz_extR S 342) (hR : mz_rok R 342)  (v1 : Int32) (N : mz_N) (hp : cp_555_0 v1 N) (hq : Q (.inl (some (.int (mz_b01 ((cf_555_0 v1 N).1))))) (mz_k S R ((cf_555_0 v1 N).2) b t)) : mz_Ed (mz_X0 L xs) d 555 [.ref 232, .int v1] (mz_k S R N b t) Q :=
  by
  refine g_in mzq_555 (Nat.le_of_ble_eq_true rfl) (Nat.le_of_ble_eq_true rfl) (Nat.le_trans (Nat.le_of_ble_eq_true rfl) hd) ?_
  refine g_weak ?_ (cg_555_0 (d := d - 1) (by omega) hS hR v1 N (C0 := fun z => Q (.inl (some (.int (mz_b01 z.1)))) (mz_k S R z.2 b t)) (fun _ _ h => h) hp hq)
  exact ⟨rfl, rfl, trivial⟩
/-! 558 KeptHouseModel.isPoint (II)Z -/
theorem ms_558_0 : mz_sf mk_558 0 = mk_558 := mz_sf_zero _
theorem ms_558_26 : mz_sf mk_558 26 = mt_558_26 := mz_sf_add ms_558_0 (t := 26) rfl rfl
theorem ms_558_37 : mz_sf mk_558 37 = mt_558_37 := mz_sf_add ms_558_26 (t := 11) rfl rfl
theorem ms_558_38 : mz_sf mk_558 38 = mt_558_38 := mz_sf_add ms_558_37 (t := 1) rfl rfl
theorem ms_558_48 : mz_sf mk_558 48 = mt_558_48 := mz_sf_add ms_558_38 (t := 10) rfl rfl
theorem ms_558_49 : mz_sf mk_558 49 = mt_558_49 := mz_sf_add ms_558_48 (t := 1) rfl rfl
set_option maxRecDepth 100000 in
theorem mzq_558 : mz_PG0 558 = some (12, ⟨"KeptHouseModel", "isPoint", "(II)Z"⟩, prog_14_method_119_code, 2, some .boolean, [], mk_558, []) := rfl
theorem cg_558_38 (hd : 1 ≤ d) (hS : mz_extR S 342) (hR : mz_rok R 342)  (s0 : Int64) (s1 : Int64) (s2 : Int64) {C0 : (Bool) → Prop} (hr : ∀ (w : Bool), C0 w → Q (.inl (some (.int (mz_b01 w)))) (mz_k S R N b t)) (hp : cp_558_38 s0 s1 s2) (hC : C0 (cf_558_38 s0 s1 s2)) : mz_G (d, mz_X0 L xs, some .boolean, [], mk_558, 2, Q) 38 mt_558_38 [] [.long s2, .long s1, .long s0] false (mz_k S R N b t) := by
  unfold cf_558_38 at hC
  unfold cp_558_38 at hp
  refine g_s3v (Nat.le_of_ble_eq_true rfl) (fun _ hq => cs_466 (Nat.le_trans (Nat.le_of_ble_eq_true rfl) hd) (hS.le (Nat.le_of_ble_eq_true rfl)) (hR.le (Nat.le_of_ble_eq_true rfl))  s0 s1 s2 trivial hq) ?_
  refine g_zeq (tg := 48) rfl ms_558_48 hC (fun h2 hC => ?_) (fun h2 hC => ?_)
  · refine g_iconst mzi_1 (g_goto (tg := 49) rfl ms_558_49 ?_)
    exact g_zret (z := true) rfl (hr _ hC)
  · refine g_iconst mzi_0 ?_
    exact g_zret (z := false) rfl (hr _ hC)
theorem cg_558_0 (hd : 1 ≤ d) (hS : mz_extR S 342) (hR : mz_rok R 342)  (v0 : Int32) (v1 : Int32) {C0 : (Bool) → Prop} (hr : ∀ (w : Bool), C0 w → Q (.inl (some (.int (mz_b01 w)))) (mz_k S R N b t)) (hp : cp_558_0 v0 v1) (hC : C0 (cf_558_0 v0 v1)) : mz_G (d, mz_X0 L xs, some .boolean, [], mk_558, 2, Q) 0 mk_558 [(0, .int v0), (1, .int v1)] [] true (mz_k S R N b t) := by
  unfold cf_558_0 at hC
  unfold cp_558_0 at hp
  refine g_iload_n rfl (g_i2l (g_lconst mzl_0 (g_con3 ?_)))
  refine g_s3v (Nat.le_of_ble_eq_true rfl) (fun _ hq => cs_466 (Nat.le_trans (Nat.le_of_ble_eq_true rfl) hd) (hS.le (Nat.le_of_ble_eq_true rfl)) (hR.le (Nat.le_of_ble_eq_true rfl))  v0.toInt64 0 6 trivial hq) ?_
  refine g_zeq (tg := 48) rfl ms_558_48 hC (fun h2 hC => ?_) (fun h2 hC => ?_)
  · have hp := hp.1 h2
    refine g_iload_n rfl (g_i2l (g_lconst mzl_0 (g_iload_n rfl (g_iconst mzi_2 ?_))))
    refine g_icge (tg := 26) rfl ms_558_26 hC (fun h3 hC => ?_) (fun h3 hC => ?_)
    · have hp := hp.1 h3
      refine g_con3 (g_goto (tg := 38) rfl ms_558_38 ?_)
      refine g_weak ?_ (g_cl (cg_558_38 hd hS hR v1.toInt64 0 9 hr hp hC))
      exact trivial
    · have hp := hp.2 h3
      refine g_iload_n rfl (g_iconst mzi_2 ?_)
      refine g_icne (tg := 37) rfl ms_558_37 hC (fun h4 hC => ?_) (fun h4 hC => ?_)
      · have hp := hp.1 h4
        refine g_con3 (g_goto (tg := 38) rfl ms_558_38 ?_)
        refine g_weak ?_ (g_cl (cg_558_38 hd hS hR v1.toInt64 0 10 hr hp hC))
        exact trivial
      · have hp := hp.2 h4
        refine g_lconst mzl_0 ?_
        refine g_weak ?_ (g_cl (cg_558_38 hd hS hR v1.toInt64 0 0 hr hp hC))
        exact trivial
  · have hp := hp.2 h2
    refine g_iconst mzi_0 ?_
    exact g_zret (z := false) rfl (hr _ hC)
theorem cs_558 (hd : 2 ≤ d) (hS : mz_extR S 342) (hR : mz_rok R 342)  (v0 : Int32) (v1 : Int32) (hp : cp_558_0 v0 v1) (hq : Q (.inl (some (.int (mz_b01 (cf_558_0 v0 v1))))) (mz_k S R N b t)) : mz_Ed (mz_X0 L xs) d 558 [.int v0, .int v1] (mz_k S R N b t) Q :=
  by
  refine g_in mzq_558 (Nat.le_of_ble_eq_true rfl) (Nat.le_of_ble_eq_true rfl) (Nat.le_trans (Nat.le_of_ble_eq_true rfl) hd) ?_
  refine g_weak ?_ (cg_558_0 (d := d - 1) (by omega) hS hR v0 v1 (C0 := fun z => Q (.inl (some (.int (mz_b01 z)))) (mz_k S R N b t)) (fun _ h => h) hp hq)
  exact ⟨rfl, rfl, trivial⟩
/-! 557 KeptHouseModel.point (III)I -/
theorem ms_557_0 : mz_sf mk_557 0 = mk_557 := mz_sf_zero _
theorem ms_557_25 : mz_sf mk_557 25 = mt_557_25 := mz_sf_add ms_557_0 (t := 25) rfl rfl
theorem ms_557_26 : mz_sf mk_557 26 = mt_557_26 := mz_sf_add ms_557_25 (t := 1) rfl rfl
theorem ms_557_35 : mz_sf mk_557 35 = mt_557_35 := mz_sf_add ms_557_26 (t := 9) rfl rfl
theorem ms_557_56 : mz_sf mk_557 56 = mt_557_56 := mz_sf_add ms_557_35 (t := 21) rfl rfl
theorem ms_557_77 : mz_sf mk_557 77 = mt_557_77 := mz_sf_add ms_557_56 (t := 21) rfl rfl
theorem ms_557_80 : mz_sf mk_557 80 = mt_557_80 := mz_sf_add ms_557_77 (t := 3) rfl rfl
set_option maxRecDepth 100000 in
theorem mzq_557 : mz_PG0 557 = some (12, ⟨"KeptHouseModel", "point", "(III)I"⟩, prog_14_method_120_code, 4, some .int, [], mk_557, []) := rfl
theorem cg_557_56 (hd : 6 ≤ d) (hS : mz_extR S 342) (hR : mz_rok R 342)  (v1 : Int32) (N : mz_N) {C0 : (Int32 × mz_N) → Prop} (hr : ∀ (w : Int32) (N2 : mz_N), C0 (w, N2) → Q (.inl (some (.int w))) (mz_k S R N2 b t)) (hp : cp_557_56 v1 N) (hC : C0 (cf_557_56 v1 N)) : mz_G (d, mz_X0 L xs, some .int, [], mk_557, 4, Q) 56 mt_557_56 [(0, .ref 232), (1, .int v1)] [] false (mz_k S R N b t) := by
  unfold cf_557_56 at hC
  unfold cp_557_56 at hp
  refine g_aload_n rfl (g_getR (mz_at hS (Nat.le_of_ble_eq_true rfl) mzcS_232) mzcf_12_78 (mz_rb hR (Nat.le_of_ble_eq_true rfl) rfl mzcR_232_78) (g_iload_n rfl (g_iconst mzi_0 ?_)))
  obtain ⟨h1, hp⟩ := hp
  refine g_iast (mz_at hS (Nat.le_of_ble_eq_true rfl) mzcS_285) h1 (g_aload_n rfl (g_bipush mzb_15 (g_iload_n rfl ?_)))
  have h2 := hp
  refine g_v3v (Nat.le_of_ble_eq_true rfl) (mz_at hS (Nat.le_of_ble_eq_true rfl) mzcS_232) (fun _ hq => cs_494 (Nat.le_trans (Nat.le_of_ble_eq_true rfl) hd) (hS.le (Nat.le_of_ble_eq_true rfl)) (hR.le (Nat.le_of_ble_eq_true rfl))  15 v1 (mz_wI N 285 v1 0) h2 hq) ?_
  refine g_zeq (tg := 77) rfl ms_557_77 hC (fun h3 hC => ?_) (fun h3 hC => ?_)
  · refine g_iconst mzi_0 (g_goto (tg := 80) rfl ms_557_80 ?_)
    exact g_iret rfl (hr _ _ hC)
  · refine g_sipush mzs_m1001 ?_
    exact g_iret rfl (hr _ _ hC)
theorem cg_557_26 (hd : 6 ≤ d) (hS : mz_extR S 342) (hR : mz_rok R 342)  (s1 : Bool) (v1 : Int32) (v2 : Int32) (v3 : Int32) (N : mz_N) {C0 : (Int32 × mz_N) → Prop} (hr : ∀ (w : Int32) (N2 : mz_N), C0 (w, N2) → Q (.inl (some (.int w))) (mz_k S R N2 b t)) (hp : cp_557_26 s1 v1 v2 v3 N) (hC : C0 (cf_557_26 s1 v1 v2 v3 N)) : mz_G (d, mz_X0 L xs, some .int, [], mk_557, 4, Q) 26 mt_557_26 [(0, .ref 232), (1, .int v1), (2, .int v2), (3, .int v3)] [.int (mz_b01 s1), .ref 232] false (mz_k S R N b t) := by
  unfold cf_557_26 at hC
  unfold cp_557_26 at hp
  refine g_iconst mzi_1 ?_
  obtain ⟨h1, hp⟩ := hp
  refine g_v3v (Nat.le_of_ble_eq_true rfl) (mz_at hS (Nat.le_of_ble_eq_true rfl) mzcS_232) (fun _ hq => cs_462 (Nat.le_trans (Nat.le_of_ble_eq_true rfl) hd) (hS.le (Nat.le_of_ble_eq_true rfl)) (hR.le (Nat.le_of_ble_eq_true rfl))  s1 true N h1 hq) ?_
  refine g_zeq (tg := 35) rfl ms_557_35 hC (fun h2 hC => ?_) (fun h2 hC => ?_)
  · have hp := hp.1 h2
    refine g_iconst mzi_0 ?_
    exact g_iret rfl (hr _ _ hC)
  · have hp := hp.2 h2
    refine g_aload_n rfl (g_getR (mz_at hS (Nat.le_of_ble_eq_true rfl) mzcS_232) mzcf_12_75 (mz_rb hR (Nat.le_of_ble_eq_true rfl) rfl mzcR_232_75) (g_iload_n rfl (g_iconst mzi_1 ?_)))
    obtain ⟨h3, hp⟩ := hp
    refine g_zast (z := true) (mz_at hS (Nat.le_of_ble_eq_true rfl) mzcS_282) h3 (g_aload_n rfl (g_getR (mz_at hS (Nat.le_of_ble_eq_true rfl) mzcS_232) mzcf_12_76 (mz_rb hR (Nat.le_of_ble_eq_true rfl) rfl mzcR_232_76) (g_iload_n rfl (g_iload_n rfl ?_))))
    obtain ⟨h4, hp⟩ := hp
    refine g_iast (mz_at hS (Nat.le_of_ble_eq_true rfl) mzcS_283) h4 (g_aload_n rfl (g_getR (mz_at hS (Nat.le_of_ble_eq_true rfl) mzcS_232) mzcf_12_77 (mz_rb hR (Nat.le_of_ble_eq_true rfl) rfl mzcR_232_77) (g_iload_n rfl (g_iload_n rfl ?_))))
    obtain ⟨h5, hp⟩ := hp
    refine g_iast (mz_at hS (Nat.le_of_ble_eq_true rfl) mzcS_284) h5 ?_
    refine g_weak ?_ (g_cl (cg_557_56 hd hS hR v1 (mz_wI (mz_wI (mz_wI ((cf_462_0 s1 true N).2) 282 v1 (mz_b01 true)) 283 v1 v2) 284 v1 v3) hr hp hC))
    exact ⟨rfl, rfl, trivial⟩
theorem cg_557_25 (hd : 6 ≤ d) (hS : mz_extR S 342) (hR : mz_rok R 342)  (v1 : Int32) (v2 : Int32) (v3 : Int32) (N : mz_N) {C0 : (Int32 × mz_N) → Prop} (hr : ∀ (w : Int32) (N2 : mz_N), C0 (w, N2) → Q (.inl (some (.int w))) (mz_k S R N2 b t)) (hp : cp_557_25 v1 v2 v3 N) (hC : C0 (cf_557_25 v1 v2 v3 N)) : mz_G (d, mz_X0 L xs, some .int, [], mk_557, 4, Q) 25 mt_557_25 [(0, .ref 232), (1, .int v1), (2, .int v2), (3, .int v3)] [.ref 232] false (mz_k S R N b t) := by
  unfold cf_557_25 at hC
  unfold cp_557_25 at hp
  refine g_iconst mzi_0 ?_
  refine g_weak ?_ (g_cl (cg_557_26 hd hS hR false v1 v2 v3 N hr hp hC))
  exact ⟨rfl, rfl, rfl, rfl, trivial⟩
theorem cg_557_0 (hd : 6 ≤ d) (hS : mz_extR S 342) (hR : mz_rok R 342)  (v1 : Int32) (v2 : Int32) (v3 : Int32) (N : mz_N) {C0 : (Int32 × mz_N) → Prop} (hr : ∀ (w : Int32) (N2 : mz_N), C0 (w, N2) → Q (.inl (some (.int w))) (mz_k S R N2 b t)) (hp : cp_557_0 v1 v2 v3 N) (hC : C0 (cf_557_0 v1 v2 v3 N)) : mz_G (d, mz_X0 L xs, some .int, [], mk_557, 4, Q) 0 mk_557 [(0, .ref 232), (1, .int v1), (2, .int v2), (3, .int v3)] [] true (mz_k S R N b t) := by
  unfold cf_557_0 at hC
  unfold cp_557_0 at hp
  refine g_aload_n rfl (g_iload_n rfl (g_i2l (g_lconst mzl_0 (g_con3 ?_))))
  refine g_s3v (Nat.le_of_ble_eq_true rfl) (fun _ hq => cs_466 (Nat.le_trans (Nat.le_of_ble_eq_true rfl) hd) (hS.le (Nat.le_of_ble_eq_true rfl)) (hR.le (Nat.le_of_ble_eq_true rfl))  v1.toInt64 0 7 trivial hq) ?_
  refine g_zeq (tg := 25) rfl ms_557_25 hC (fun h2 hC => ?_) (fun h2 hC => ?_)
  · have hp := hp.1 h2
    refine g_iload_n rfl (g_iload_n rfl ?_)
    obtain ⟨h3, hp⟩ := hp
    refine g_s2v (Nat.le_of_ble_eq_true rfl) (fun _ hq => cs_558 (Nat.le_trans (Nat.le_of_ble_eq_true rfl) hd) (hS.le (Nat.le_of_ble_eq_true rfl)) (hR.le (Nat.le_of_ble_eq_true rfl))  v2 v3 h3 hq) ?_
    refine g_zeq (tg := 25) rfl ms_557_25 hC (fun h4 hC => ?_) (fun h4 hC => ?_)
    · have hp := hp.1 h4
      refine g_iconst mzi_1 (g_goto (tg := 26) rfl ms_557_26 ?_)
      refine g_weak ?_ (g_cl (cg_557_26 hd hS hR true v1 v2 v3 N hr hp hC))
      exact ⟨rfl, rfl, rfl, rfl, trivial⟩
    · have hp := hp.2 h4
      refine g_weak ?_ (g_cl (cg_557_25 hd hS hR v1 v2 v3 N hr hp hC))
      exact ⟨rfl, rfl, rfl, rfl, trivial⟩
  · have hp := hp.2 h2
    refine g_weak ?_ (g_cl (cg_557_25 hd hS hR v1 v2 v3 N hr hp hC))
    exact ⟨rfl, rfl, rfl, rfl, trivial⟩
theorem cs_557 (hd : 7 ≤ d) (hS : mz_extR S 342) (hR : mz_rok R 342)  (v1 : Int32) (v2 : Int32) (v3 : Int32) (N : mz_N) (hp : cp_557_0 v1 v2 v3 N) (hq : Q (.inl (some (.int ((cf_557_0 v1 v2 v3 N).1)))) (mz_k S R ((cf_557_0 v1 v2 v3 N).2) b t)) : mz_Ed (mz_X0 L xs) d 557 [.ref 232, .int v1, .int v2, .int v3] (mz_k S R N b t) Q :=
  by
  refine g_in mzq_557 (Nat.le_of_ble_eq_true rfl) (Nat.le_of_ble_eq_true rfl) (Nat.le_trans (Nat.le_of_ble_eq_true rfl) hd) ?_
  refine g_weak ?_ (cg_557_0 (d := d - 1) (by omega) hS hR v1 v2 v3 N (C0 := fun z => Q (.inl (some (.int z.1))) (mz_k S R z.2 b t)) (fun _ _ h => h) hp hq)
  exact ⟨rfl, rfl, rfl, rfl, trivial⟩
/-! 559 KeptHouseModel.trend (II)J -/
theorem ms_559_0 : mz_sf mk_559 0 = mk_559 := mz_sf_zero _
theorem ms_559_23 : mz_sf mk_559 23 = mt_559_23 := mz_sf_add ms_559_0 (t := 23) rfl rfl
theorem ms_559_42 : mz_sf mk_559 42 = mt_559_42 := mz_sf_add ms_559_23 (t := 19) rfl rfl
theorem ms_559_43 : mz_sf mk_559 43 = mt_559_43 := mz_sf_add ms_559_42 (t := 1) rfl rfl
theorem ms_559_55 : mz_sf mk_559 55 = mt_559_55 := mz_sf_add ms_559_43 (t := 12) rfl rfl
set_option maxRecDepth 100000 in
theorem mzq_559 : mz_PG0 559 = some (12, ⟨"KeptHouseModel", "trend", "(II)J"⟩, prog_14_method_121_code, 4, some .long, [], mk_559, []) := rfl
theorem cg_559_43 (hd : 1 ≤ d) (hS : mz_extR S 342) (hR : mz_rok R 342)  (s0 : Bool) (v1 : Int32) (v2 : Int32) (N : mz_N) {C0 : (Int64 × mz_N) → Prop} (hr : ∀ (w : Int64) (N2 : mz_N), C0 (w, N2) → Q (.inl (some (.long w))) (mz_k S R N2 b t)) (hp : cp_559_43 s0 v1 v2 N) (hC : C0 (cf_559_43 s0 v1 v2 N)) : mz_G (d, mz_X0 L xs, some .long, [], mk_559, 4, Q) 43 mt_559_43 [(0, .ref 232), (1, .int v1), (2, .int v2)] [.int (mz_b01 s0)] false (mz_k S R N b t) := by
  unfold cf_559_43 at hC
  unfold cp_559_43 at hp
  refine g_istore_n (Nat.le_of_ble_eq_true rfl) rfl (g_aload_n rfl (g_iload_n rfl (g_iconst mzi_1 ?_)))
  obtain ⟨h1, hp⟩ := hp
  refine g_v3v (Nat.le_of_ble_eq_true rfl) (mz_at hS (Nat.le_of_ble_eq_true rfl) mzcS_232) (fun _ hq => cs_462 (Nat.le_trans (Nat.le_of_ble_eq_true rfl) hd) (hS.le (Nat.le_of_ble_eq_true rfl)) (hR.le (Nat.le_of_ble_eq_true rfl))  s0 true N h1 hq) ?_
  refine g_zeq (tg := 55) rfl ms_559_55 hC (fun h2 hC => ?_) (fun h2 hC => ?_)
  · have hp := hp.1 h2
    refine g_lconst mzl_0 ?_
    exact g_lret rfl (hr _ _ hC)
  · have hp := hp.2 h2
    refine g_aload_n rfl (g_getR (mz_at hS (Nat.le_of_ble_eq_true rfl) mzcS_232) mzcf_12_79 (mz_rb hR (Nat.le_of_ble_eq_true rfl) rfl mzcR_232_79) (g_bipush mzb_48 (g_iload_n rfl (g_imul (g_aload_n rfl (g_getR (mz_at hS (Nat.le_of_ble_eq_true rfl) mzcS_232) mzcf_12_78 (mz_rb hR (Nat.le_of_ble_eq_true rfl) rfl mzcR_232_78) (g_iload_n rfl ?_)))))))
    obtain ⟨h3, hp⟩ := hp
    refine g_iald hS.1 (mz_at hS (Nat.le_of_ble_eq_true rfl) mzcS_285) h3 (g_iconst mzi_1 (g_isub (g_iload_n rfl (g_isub (g_bipush mzb_48 (g_irem (by decide) (g_iadd ?_)))))))
    have h4 := hp
    refine g_lald (mz_at hS (Nat.le_of_ble_eq_true rfl) mzcS_286) h4 ?_
    exact g_lret rfl (hr _ _ hC)
theorem cg_559_42 (hd : 1 ≤ d) (hS : mz_extR S 342) (hR : mz_rok R 342)  (v1 : Int32) (v2 : Int32) (N : mz_N) {C0 : (Int64 × mz_N) → Prop} (hr : ∀ (w : Int64) (N2 : mz_N), C0 (w, N2) → Q (.inl (some (.long w))) (mz_k S R N2 b t)) (hp : cp_559_42 v1 v2 N) (hC : C0 (cf_559_42 v1 v2 N)) : mz_G (d, mz_X0 L xs, some .long, [], mk_559, 4, Q) 42 mt_559_42 [(0, .ref 232), (1, .int v1), (2, .int v2)] [] false (mz_k S R N b t) := by
  unfold cf_559_42 at hC
  unfold cp_559_42 at hp
  refine g_iconst mzi_0 ?_
  refine g_weak ?_ (g_cl (cg_559_43 hd hS hR false v1 v2 N hr hp hC))
  exact ⟨rfl, rfl, rfl, trivial⟩
theorem cg_559_0 (hd : 1 ≤ d) (hS : mz_extR S 342) (hR : mz_rok R 342)  (v1 : Int32) (v2 : Int32) (N : mz_N) {C0 : (Int64 × mz_N) → Prop} (hr : ∀ (w : Int64) (N2 : mz_N), C0 (w, N2) → Q (.inl (some (.long w))) (mz_k S R N2 b t)) (hp : cp_559_0 v1 v2 N) (hC : C0 (cf_559_0 v1 v2 N)) : mz_G (d, mz_X0 L xs, some .long, [], mk_559, 4, Q) 0 mk_559 [(0, .ref 232), (1, .int v1), (2, .int v2)] [] true (mz_k S R N b t) := by
  unfold cf_559_0 at hC
  unfold cp_559_0 at hp
  refine g_iload_n rfl (g_i2l (g_lconst mzl_0 (g_con3 ?_)))
  refine g_s3v (Nat.le_of_ble_eq_true rfl) (fun _ hq => cs_466 (Nat.le_trans (Nat.le_of_ble_eq_true rfl) hd) (hS.le (Nat.le_of_ble_eq_true rfl)) (hR.le (Nat.le_of_ble_eq_true rfl))  v1.toInt64 0 7 trivial hq) (g_istore_n (Nat.le_of_ble_eq_true rfl) rfl (g_iload_n rfl ?_))
  refine g_zeq (tg := 42) rfl ms_559_42 hC (fun h2 hC => ?_) (fun h2 hC => ?_)
  · have hp := hp.1 h2
    refine g_aload_n rfl (g_getR (mz_at hS (Nat.le_of_ble_eq_true rfl) mzcS_232) mzcf_12_75 (mz_rb hR (Nat.le_of_ble_eq_true rfl) rfl mzcR_232_75) (g_iload_n rfl ?_))
    obtain ⟨h3, hp⟩ := hp
    obtain ⟨h4, hp⟩ := hp
    refine g_zald (mz_at hS (Nat.le_of_ble_eq_true rfl) mzcS_282) h3 h4 ?_
    refine g_zeq (tg := 42) rfl ms_559_42 hC (fun h5 hC => ?_) (fun h5 hC => ?_)
    · have hp := hp.1 h5
      refine g_iload_n rfl (g_aload_n rfl (g_getR (mz_at hS (Nat.le_of_ble_eq_true rfl) mzcS_232) mzcf_12_78 (mz_rb hR (Nat.le_of_ble_eq_true rfl) rfl mzcR_232_78) (g_iload_n rfl ?_)))
      obtain ⟨h6, hp⟩ := hp
      refine g_iald hS.1 (mz_at hS (Nat.le_of_ble_eq_true rfl) mzcS_285) h6 (g_bipush mzb_48 ?_)
      refine g_s3v (Nat.le_of_ble_eq_true rfl) (fun _ hq => cs_547 (Nat.le_trans (Nat.le_of_ble_eq_true rfl) hd) (hS.le (Nat.le_of_ble_eq_true rfl)) (hR.le (Nat.le_of_ble_eq_true rfl))  v2 (mz_gI N 285 v1) 48 trivial hq) ?_
      refine g_zeq (tg := 42) rfl ms_559_42 hC (fun h8 hC => ?_) (fun h8 hC => ?_)
      · have hp := hp.1 h8
        refine g_iconst mzi_1 (g_goto (tg := 43) rfl ms_559_43 ?_)
        refine g_weak ?_ (g_cl (cg_559_43 hd hS hR true v1 v2 N hr hp hC))
        exact ⟨rfl, rfl, rfl, trivial⟩
      · have hp := hp.2 h8
        refine g_weak ?_ (g_cl (cg_559_42 hd hS hR v1 v2 N hr hp hC))
        exact ⟨rfl, rfl, rfl, trivial⟩
    · have hp := hp.2 h5
      refine g_weak ?_ (g_cl (cg_559_42 hd hS hR v1 v2 N hr hp hC))
      exact ⟨rfl, rfl, rfl, trivial⟩
  · have hp := hp.2 h2
    refine g_weak ?_ (g_cl (cg_559_42 hd hS hR v1 v2 N hr hp hC))
    exact ⟨rfl, rfl, rfl, trivial⟩
theorem cs_559 (hd : 2 ≤ d) (hS : mz_extR S 342) (hR : mz_rok R 342)  (v1 : Int32) (v2 : Int32) (N : mz_N) (hp : cp_559_0 v1 v2 N) (hq : Q (.inl (some (.long ((cf_559_0 v1 v2 N).1)))) (mz_k S R ((cf_559_0 v1 v2 N).2) b t)) : mz_Ed (mz_X0 L xs) d 559 [.ref 232, .int v1, .int v2] (mz_k S R N b t) Q :=
  by
  refine g_in mzq_559 (Nat.le_of_ble_eq_true rfl) (Nat.le_of_ble_eq_true rfl) (Nat.le_trans (Nat.le_of_ble_eq_true rfl) hd) ?_
  refine g_weak ?_ (cg_559_0 (d := d - 1) (by omega) hS hR v1 v2 N (C0 := fun z => Q (.inl (some (.long z.1))) (mz_k S R z.2 b t)) (fun _ _ h => h) hp hq)
  exact ⟨rfl, rfl, rfl, trivial⟩
/-! 560 KeptHouseModel.ticket (II)I -/
theorem ms_560_0 : mz_sf mk_560 0 = mk_560 := mz_sf_zero _
theorem ms_560_15 : mz_sf mk_560 15 = mt_560_15 := mz_sf_add ms_560_0 (t := 15) rfl rfl
theorem ms_560_31 : mz_sf mk_560 31 = mt_560_31 := mz_sf_add ms_560_15 (t := 16) rfl rfl
theorem ms_560_51 : mz_sf mk_560 51 = mt_560_51 := mz_sf_add ms_560_31 (t := 20) rfl rfl
theorem ms_560_54 : mz_sf mk_560 54 = mt_560_54 := mz_sf_add ms_560_51 (t := 3) rfl rfl
set_option maxRecDepth 100000 in
theorem mzq_560 : mz_PG0 560 = some (12, ⟨"KeptHouseModel", "ticket", "(II)I"⟩, prog_14_method_124_code, 4, some .int, [], mk_560, []) := rfl
theorem cg_560_51 (hd : 6 ≤ d) (hS : mz_extR S 342) (hR : mz_rok R 342)  (N : mz_N) {C0 : (Int32 × mz_N) → Prop} (hr : ∀ (w : Int32) (N2 : mz_N), C0 (w, N2) → Q (.inl (some (.int w))) (mz_k S R N2 b t)) (hp : cp_560_51 N) (hC : C0 (cf_560_51 N)) : mz_G (d, mz_X0 L xs, some .int, [], mk_560, 4, Q) 51 mt_560_51 [] [] false (mz_k S R N b t) := by
  unfold cf_560_51 at hC
  unfold cp_560_51 at hp
  refine g_sipush mzs_m1001 ?_
  exact g_iret rfl (hr _ _ hC)
theorem cg_560_0 (hd : 6 ≤ d) (hS : mz_extR S 342) (hR : mz_rok R 342)  (v1 : Int32) (v2 : Int32) (N : mz_N) {C0 : (Int32 × mz_N) → Prop} (hr : ∀ (w : Int32) (N2 : mz_N), C0 (w, N2) → Q (.inl (some (.int w))) (mz_k S R N2 b t)) (hp : cp_560_0 v1 v2 N) (hC : C0 (cf_560_0 v1 v2 N)) : mz_G (d, mz_X0 L xs, some .int, [], mk_560, 4, Q) 0 mk_560 [(0, .ref 232), (1, .int v1), (2, .int v2)] [] true (mz_k S R N b t) := by
  unfold cf_560_0 at hC
  unfold cp_560_0 at hp
  refine g_aload_n rfl (g_iload_n rfl (g_iload_n rfl ?_))
  refine g_s2v (Nat.le_of_ble_eq_true rfl) (fun _ hq => cs_491 (Nat.le_trans (Nat.le_of_ble_eq_true rfl) hd) (hS.le (Nat.le_of_ble_eq_true rfl)) (hR.le (Nat.le_of_ble_eq_true rfl))  v1 v2 trivial hq) (g_iconst mzi_1 ?_)
  obtain ⟨h2, hp⟩ := hp
  refine g_v3v (Nat.le_of_ble_eq_true rfl) (mz_at hS (Nat.le_of_ble_eq_true rfl) mzcS_232) (fun _ hq => cs_462 (Nat.le_trans (Nat.le_of_ble_eq_true rfl) hd) (hS.le (Nat.le_of_ble_eq_true rfl)) (hR.le (Nat.le_of_ble_eq_true rfl))  (cf_491_0 v1 v2) true N h2 hq) ?_
  refine g_zeq (tg := 15) rfl ms_560_15 hC (fun h3 hC => ?_) (fun h3 hC => ?_)
  · have hp := hp.1 h3
    refine g_iconst mzi_0 ?_
    exact g_iret rfl (hr _ _ hC)
  · have hp := hp.2 h3
    refine g_aload_n rfl (g_iload_n rfl (g_iload_n rfl (g_iconst mzi_3 ?_)))
    obtain ⟨h4, hp⟩ := hp
    refine g_v4v (Nat.le_of_ble_eq_true rfl) (mz_at hS (Nat.le_of_ble_eq_true rfl) mzcS_232) (fun _ hq => cs_536 (Nat.le_trans (Nat.le_of_ble_eq_true rfl) hd) (hS.le (Nat.le_of_ble_eq_true rfl)) (hR.le (Nat.le_of_ble_eq_true rfl))  v1 v2 3 ((cf_462_0 (cf_491_0 v1 v2) true N).2) h4 hq) (g_istore_n (Nat.le_of_ble_eq_true rfl) rfl (g_iload_n rfl ?_))
    refine g_ifge (tg := 31) rfl ms_560_31 hC (fun h5 hC => ?_) (fun h5 hC => ?_)
    · have hp := hp.1 h5
      refine g_sipush mzs_m1003 ?_
      exact g_iret rfl (hr _ _ hC)
    · have hp := hp.2 h5
      refine g_aload_n rfl (g_bipush mzb_12 (g_iload_n rfl ?_))
      obtain ⟨h6, hp⟩ := hp
      refine g_v3v (Nat.le_of_ble_eq_true rfl) (mz_at hS (Nat.le_of_ble_eq_true rfl) mzcS_232) (fun _ hq => cs_494 (Nat.le_trans (Nat.le_of_ble_eq_true rfl) hd) (hS.le (Nat.le_of_ble_eq_true rfl)) (hR.le (Nat.le_of_ble_eq_true rfl))  12 ((cf_536_0 v1 v2 3 ((cf_462_0 (cf_491_0 v1 v2) true N).2)).1) ((cf_536_0 v1 v2 3 ((cf_462_0 (cf_491_0 v1 v2) true N).2)).2) h6 hq) ?_
      refine g_zeq (tg := 51) rfl ms_560_51 hC (fun h7 hC => ?_) (fun h7 hC => ?_)
      · have hp := hp.1 h7
        refine g_aload_n rfl (g_getR (mz_at hS (Nat.le_of_ble_eq_true rfl) mzcS_232) mzcf_12_85 (mz_rb hR (Nat.le_of_ble_eq_true rfl) rfl mzcR_232_85) (g_iload_n rfl ?_))
        have h8 := hp
        refine g_lald (mz_at hS (Nat.le_of_ble_eq_true rfl) mzcS_292) h8 (g_l2i (g_goto (tg := 54) rfl ms_560_54 ?_))
        exact g_iret rfl (hr _ _ hC)
      · have hp := hp.2 h7
        refine g_weak ?_ (g_cl (cg_560_51 hd hS hR ((cf_494_0 12 ((cf_536_0 v1 v2 3 ((cf_462_0 (cf_491_0 v1 v2) true N).2)).1) ((cf_536_0 v1 v2 3 ((cf_462_0 (cf_491_0 v1 v2) true N).2)).2)).2) hr hp hC))
        exact trivial
theorem cs_560 (hd : 7 ≤ d) (hS : mz_extR S 342) (hR : mz_rok R 342)  (v1 : Int32) (v2 : Int32) (N : mz_N) (hp : cp_560_0 v1 v2 N) (hq : Q (.inl (some (.int ((cf_560_0 v1 v2 N).1)))) (mz_k S R ((cf_560_0 v1 v2 N).2) b t)) : mz_Ed (mz_X0 L xs) d 560 [.ref 232, .int v1, .int v2] (mz_k S R N b t) Q :=
  by
  refine g_in mzq_560 (Nat.le_of_ble_eq_true rfl) (Nat.le_of_ble_eq_true rfl) (Nat.le_trans (Nat.le_of_ble_eq_true rfl) hd) ?_
  refine g_weak ?_ (cg_560_0 (d := d - 1) (by omega) hS hR v1 v2 N (C0 := fun z => Q (.inl (some (.int z.1))) (mz_k S R z.2 b t)) (fun _ _ h => h) hp hq)
  exact ⟨rfl, rfl, rfl, trivial⟩
/-! 562 KeptHouseModel.tickets0 ()I -/
theorem ms_562_0 : mz_sf mk_562 0 = mk_562 := mz_sf_zero _
theorem ms_562_4 : mz_sf mk_562 4 = mt_562_4 := mz_sf_add ms_562_0 (t := 4) rfl rfl
theorem ms_562_24 : mz_sf mk_562 24 = mt_562_24 := mz_sf_add ms_562_4 (t := 20) rfl rfl
theorem ms_562_25 : mz_sf mk_562 25 = mt_562_25 := mz_sf_add ms_562_24 (t := 1) rfl rfl
theorem ms_562_33 : mz_sf mk_562 33 = mt_562_33 := mz_sf_add ms_562_25 (t := 8) rfl rfl
set_option maxRecDepth 100000 in
theorem mzq_562 : mz_PG0 562 = some (12, ⟨"KeptHouseModel", "tickets0", "()I"⟩, prog_14_method_122_code, 3, some .int, [], mk_562, []) := rfl
theorem cg_562_25 (hd : 0 ≤ d) (hS : mz_extR S 342) (hR : mz_rok R 342)  (s0 : Int32) (s1 : Bool) (v2 : Int32) (N : mz_N) {C0 : (Int32) → Prop} (hr : ∀ (w : Int32), C0 w → Q (.inl (some (.int w))) (mz_k S R N b t)) {C1 : ((Int32 × Int32) ⊕ (Int32)) → Prop} (hc1 : ∀ s2, C1 (.inl s2) → mz_G (d, mz_X0 L xs, some .int, [], mk_562, 3, Q) 4 mt_562_4 [(0, .ref 232), (1, .int s2.1), (2, .int s2.2)] [] false (mz_k S R N b t)) (hx1 : ∀ z, C1 (.inr z) → C0 z) (hp : cp_562_25 s0 s1 v2 N) (hC : C1 (cf_562_25 s0 s1 v2 N)) : mz_G (d, mz_X0 L xs, some .int, [], mk_562, 3, Q) 25 mt_562_25 [(0, .ref 232), (2, .int v2)] [.int (mz_b01 s1), .int s0] false (mz_k S R N b t) := by
  unfold cf_562_25 at hC
  unfold cp_562_25 at hp
  refine g_iadd (g_istore_n (Nat.le_of_ble_eq_true rfl) rfl (g_iinc rfl mzi_1 (Nat.le_of_ble_eq_true rfl) rfl (g_goto (tg := 4) rfl ms_562_4 ?_)))
  refine g_weak ?_ (g_cl (hc1 ((s0 + (mz_b01 s1)), (v2 + 1)) hC))
  exact ⟨rfl, rfl, rfl, trivial⟩
theorem cb_562_4 (hd : 0 ≤ d) (hS : mz_extR S 342) (hR : mz_rok R 342)  (N : mz_N) (s : Int32 × Int32) {C0 : (Int32) → Prop} (hr : ∀ (w : Int32), C0 w → Q (.inl (some (.int w))) (mz_k S R N b t)) {C1 : ((Int32 × Int32) ⊕ (Int32)) → Prop} (hc1 : ∀ s2, C1 (.inl s2) → mz_G (d, mz_X0 L xs, some .int, [], mk_562, 3, Q) 4 mt_562_4 [(0, .ref 232), (1, .int s2.1), (2, .int s2.2)] [] false (mz_k S R N b t)) (hx1 : ∀ z, C1 (.inr z) → C0 z) (hp : cd_562_4 N s) (hC : C1 (cq_562_4 N s)) : mz_G (d, mz_X0 L xs, some .int, [], mk_562, 3, Q) 4 mt_562_4 [(0, .ref 232), (1, .int s.1), (2, .int s.2)] [] false (mz_k S R N b t) := by
  unfold cq_562_4 at hC
  unfold cd_562_4 at hp
  refine g_iload_n rfl (g_bipush mzb_16 ?_)
  refine g_icge (tg := 33) rfl ms_562_33 hC (fun h1 hC => ?_) (fun h1 hC => ?_)
  · have hp := hp.1 h1
    refine g_iload_n rfl (g_aload_n rfl (g_getR (mz_at hS (Nat.le_of_ble_eq_true rfl) mzcS_232) mzcf_12_80 (mz_rb hR (Nat.le_of_ble_eq_true rfl) rfl mzcR_232_80) (g_iload_n rfl ?_)))
    obtain ⟨h2, hp⟩ := hp
    obtain ⟨h3, hp⟩ := hp
    refine g_zald (mz_at hS (Nat.le_of_ble_eq_true rfl) mzcS_287) h2 h3 ?_
    refine g_zeq (tg := 24) rfl ms_562_24 hC (fun h4 hC => ?_) (fun h4 hC => ?_)
    · have hp := hp.1 h4
      refine g_iconst mzi_1 (g_goto (tg := 25) rfl ms_562_25 ?_)
      refine g_weak ?_ (g_cl (cg_562_25 hd hS hR s.1 true s.2 N hr hc1 hx1 hp hC))
      exact ⟨rfl, rfl, trivial⟩
    · have hp := hp.2 h4
      refine g_iconst mzi_0 ?_
      refine g_weak ?_ (g_cl (cg_562_25 hd hS hR s.1 false s.2 N hr hc1 hx1 hp hC))
      exact ⟨rfl, rfl, trivial⟩
  · have hp := hp.2 h1
    refine g_iload_n rfl ?_
    exact g_iret rfl (hr _ (hx1 _ hC))
theorem cg_562_4 (hd : 0 ≤ d) (hS : mz_extR S 342) (hR : mz_rok R 342)  (v1 : Int32) (v2 : Int32) (N : mz_N) {C0 : (Int32) → Prop} (hr : ∀ (w : Int32), C0 w → Q (.inl (some (.int w))) (mz_k S R N b t)) (hp : cp_562_4 v1 v2 N) (hC : C0 (cf_562_4 v1 v2 N)) : mz_G (d, mz_X0 L xs, some .int, [], mk_562, 3, Q) 4 mt_562_4 [(0, .ref 232), (1, .int v1), (2, .int v2)] [] false (mz_k S R N b t) := by
  obtain ⟨n, hn⟩ := hp
  exact g_loop (G := fun s => mz_G (d, mz_X0 L xs, some .int, [], mk_562, 3, Q) 4 mt_562_4 [(0, .ref 232), (1, .int s.1), (2, .int s.2)] [] false (mz_k S R N b t)) (C := C0) (fun C2 hc hx s hP hC => cb_562_4 hd hS hR N s hr hc hx hP hC) n (v1, v2) hn hC
theorem cg_562_0 (hd : 0 ≤ d) (hS : mz_extR S 342) (hR : mz_rok R 342)  (N : mz_N) {C0 : (Int32) → Prop} (hr : ∀ (w : Int32), C0 w → Q (.inl (some (.int w))) (mz_k S R N b t)) (hp : cp_562_0 N) (hC : C0 (cf_562_0 N)) : mz_G (d, mz_X0 L xs, some .int, [], mk_562, 3, Q) 0 mk_562 [(0, .ref 232)] [] true (mz_k S R N b t) := by
  unfold cf_562_0 at hC
  unfold cp_562_0 at hp
  refine g_iconst mzi_0 (g_istore_n (Nat.le_of_ble_eq_true rfl) rfl (g_iconst mzi_0 (g_istore_n (Nat.le_of_ble_eq_true rfl) rfl ?_)))
  refine g_weak ?_ (g_cl (cg_562_4 hd hS hR 0 0 N hr hp hC))
  exact ⟨rfl, rfl, rfl, trivial⟩
theorem cs_562 (hd : 1 ≤ d) (hS : mz_extR S 342) (hR : mz_rok R 342)  (N : mz_N) (hp : cp_562_0 N) (hq : Q (.inl (some (.int (cf_562_0 N)))) (mz_k S R N b t)) : mz_Ed (mz_X0 L xs) d 562 [.ref 232] (mz_k S R N b t) Q :=
  by
  refine g_in mzq_562 (Nat.le_of_ble_eq_true rfl) (Nat.le_of_ble_eq_true rfl) (Nat.le_trans (Nat.le_of_ble_eq_true rfl) hd) ?_
  refine g_weak ?_ (cg_562_0 (d := d - 1) (by omega) hS hR N (C0 := fun z => Q (.inl (some (.int z))) (mz_k S R N b t)) (fun _ h => h) hp hq)
  exact ⟨rfl, trivial⟩
/-! 561 KeptHouseModel.tickets ()I -/
theorem ms_561_0 : mz_sf mk_561 0 = mk_561 := mz_sf_zero _
theorem ms_561_11 : mz_sf mk_561 11 = mt_561_11 := mz_sf_add ms_561_0 (t := 11) rfl rfl
theorem ms_561_15 : mz_sf mk_561 15 = mt_561_15 := mz_sf_add ms_561_11 (t := 4) rfl rfl
set_option maxRecDepth 100000 in
theorem mzq_561 : mz_PG0 561 = some (12, ⟨"KeptHouseModel", "tickets", "()I"⟩, prog_14_method_125_code, 1, some .int, [], mk_561, []) := rfl
theorem cg_561_0 (hd : 1 ≤ d) (hS : mz_extR S 342) (hR : mz_rok R 342)  (N : mz_N) {C0 : (Int32 × mz_N) → Prop} (hr : ∀ (w : Int32) (N2 : mz_N), C0 (w, N2) → Q (.inl (some (.int w))) (mz_k S R N2 b t)) (hp : cp_561_0 N) (hC : C0 (cf_561_0 N)) : mz_G (d, mz_X0 L xs, some .int, [], mk_561, 1, Q) 0 mk_561 [(0, .ref 232)] [] true (mz_k S R N b t) := by
  unfold cf_561_0 at hC
  unfold cp_561_0 at hp
  refine g_aload_n rfl ?_
  obtain ⟨h1, hp⟩ := hp
  refine g_v1v (Nat.le_of_ble_eq_true rfl) (mz_at hS (Nat.le_of_ble_eq_true rfl) mzcS_232) (fun _ hq => cs_484 (Nat.le_trans (Nat.le_of_ble_eq_true rfl) hd) (hS.le (Nat.le_of_ble_eq_true rfl)) (hR.le (Nat.le_of_ble_eq_true rfl))  N h1 hq) ?_
  refine g_zeq (tg := 11) rfl ms_561_11 hC (fun h2 hC => ?_) (fun h2 hC => ?_)
  · have hp := hp.1 h2
    refine g_iconst mzi_0 (g_goto (tg := 15) rfl ms_561_15 ?_)
    exact g_iret rfl (hr _ _ hC)
  · have hp := hp.2 h2
    refine g_aload_n rfl ?_
    have h3 := hp
    refine g_v1v (Nat.le_of_ble_eq_true rfl) (mz_at hS (Nat.le_of_ble_eq_true rfl) mzcS_232) (fun _ hq => cs_562 (Nat.le_trans (Nat.le_of_ble_eq_true rfl) hd) (hS.le (Nat.le_of_ble_eq_true rfl)) (hR.le (Nat.le_of_ble_eq_true rfl))  ((cf_484_0 N).2) h3 hq) ?_
    exact g_iret rfl (hr _ _ hC)
theorem cs_561 (hd : 2 ≤ d) (hS : mz_extR S 342) (hR : mz_rok R 342)  (N : mz_N) (hp : cp_561_0 N) (hq : Q (.inl (some (.int ((cf_561_0 N).1)))) (mz_k S R ((cf_561_0 N).2) b t)) : mz_Ed (mz_X0 L xs) d 561 [.ref 232] (mz_k S R N b t) Q :=
  by
  refine g_in mzq_561 (Nat.le_of_ble_eq_true rfl) (Nat.le_of_ble_eq_true rfl) (Nat.le_trans (Nat.le_of_ble_eq_true rfl) hd) ?_
  refine g_weak ?_ (cg_561_0 (d := d - 1) (by omega) hS hR N (C0 := fun z => Q (.inl (some (.int z.1))) (mz_k S R z.2 b t)) (fun _ _ h => h) hp hq)
  exact ⟨rfl, trivial⟩
end Fn32
