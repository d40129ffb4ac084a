/-! THE FUNCTIONS: written by program: each method comes to its function. -/
section Fn31
variable {L : Nat} {xs : Nat → Int32} {d : Nat} {S : mz_S} {R : Nat → Nat → Option Nat} {Q : mz_Q} {N : mz_N} {b : Bool} {t : Nat}
/-! 538 KeptHouseModel.isOn (I)Z -/
theorem ms_538_0 : mz_sf mk_538 0 = mk_538 := mz_sf_zero _
theorem ms_538_53 : mz_sf mk_538 53 = mt_538_53 := mz_sf_add ms_538_0 (t := 53) rfl rfl
theorem ms_538_68 : mz_sf mk_538 68 = mt_538_68 := mz_sf_add ms_538_53 (t := 15) rfl rfl
theorem ms_538_69 : mz_sf mk_538 69 = mt_538_69 := mz_sf_add ms_538_68 (t := 1) rfl rfl
theorem ms_538_70 : mz_sf mk_538 70 = mt_538_70 := mz_sf_add ms_538_69 (t := 1) rfl rfl
theorem ms_538_72 : mz_sf mk_538 72 = mt_538_72 := mz_sf_add ms_538_70 (t := 2) rfl rfl
theorem ms_538_91 : mz_sf mk_538 91 = mt_538_91 := mz_sf_add ms_538_72 (t := 19) rfl rfl
theorem ms_538_95 : mz_sf mk_538 95 = mt_538_95 := mz_sf_add ms_538_91 (t := 4) rfl rfl
theorem ms_538_96 : mz_sf mk_538 96 = mt_538_96 := mz_sf_add ms_538_95 (t := 1) rfl rfl
theorem ms_538_103 : mz_sf mk_538 103 = mt_538_103 := mz_sf_add ms_538_96 (t := 7) rfl rfl
theorem ms_538_105 : mz_sf mk_538 105 = mt_538_105 := mz_sf_add ms_538_103 (t := 2) rfl rfl
theorem ms_538_132 : mz_sf mk_538 132 = mt_538_132 := mz_sf_add ms_538_105 (t := 27) rfl rfl
theorem ms_538_136 : mz_sf mk_538 136 = mt_538_136 := mz_sf_add ms_538_132 (t := 4) rfl rfl
theorem ms_538_137 : mz_sf mk_538 137 = mt_538_137 := mz_sf_add ms_538_136 (t := 1) rfl rfl
theorem ms_538_138 : mz_sf mk_538 138 = mt_538_138 := mz_sf_add ms_538_137 (t := 1) rfl rfl
theorem ms_538_140 : mz_sf mk_538 140 = mt_538_140 := mz_sf_add ms_538_138 (t := 2) rfl rfl
theorem ms_538_159 : mz_sf mk_538 159 = mt_538_159 := mz_sf_add ms_538_140 (t := 19) rfl rfl
theorem ms_538_163 : mz_sf mk_538 163 = mt_538_163 := mz_sf_add ms_538_159 (t := 4) rfl rfl
theorem ms_538_164 : mz_sf mk_538 164 = mt_538_164 := mz_sf_add ms_538_163 (t := 1) rfl rfl
theorem ms_538_171 : mz_sf mk_538 171 = mt_538_171 := mz_sf_add ms_538_164 (t := 7) rfl rfl
theorem ms_538_173 : mz_sf mk_538 173 = mt_538_173 := mz_sf_add ms_538_171 (t := 2) rfl rfl
theorem ms_538_183 : mz_sf mk_538 183 = mt_538_183 := mz_sf_add ms_538_173 (t := 10) rfl rfl
theorem ms_538_202 : mz_sf mk_538 202 = mt_538_202 := mz_sf_add ms_538_183 (t := 19) rfl rfl
theorem ms_538_208 : mz_sf mk_538 208 = mt_538_208 := mz_sf_add ms_538_202 (t := 6) rfl rfl
theorem ms_538_246 : mz_sf mk_538 246 = mt_538_246 := mz_sf_add ms_538_208 (t := 38) rfl rfl
theorem ms_538_250 : mz_sf mk_538 250 = mt_538_250 := mz_sf_add ms_538_246 (t := 4) rfl rfl
theorem ms_538_251 : mz_sf mk_538 251 = mt_538_251 := mz_sf_add ms_538_250 (t := 1) rfl rfl
theorem ms_538_258 : mz_sf mk_538 258 = mt_538_258 := mz_sf_add ms_538_251 (t := 7) rfl rfl
theorem ms_538_260 : mz_sf mk_538 260 = mt_538_260 := mz_sf_add ms_538_258 (t := 2) rfl rfl
theorem ms_538_270 : mz_sf mk_538 270 = mt_538_270 := mz_sf_add ms_538_260 (t := 10) rfl rfl
theorem ms_538_303 : mz_sf mk_538 303 = mt_538_303 := mz_sf_add ms_538_270 (t := 33) rfl rfl
theorem ms_538_307 : mz_sf mk_538 307 = mt_538_307 := mz_sf_add ms_538_303 (t := 4) rfl rfl
theorem ms_538_308 : mz_sf mk_538 308 = mt_538_308 := mz_sf_add ms_538_307 (t := 1) rfl rfl
theorem ms_538_315 : mz_sf mk_538 315 = mt_538_315 := mz_sf_add ms_538_308 (t := 7) rfl rfl
theorem ms_538_317 : mz_sf mk_538 317 = mt_538_317 := mz_sf_add ms_538_315 (t := 2) rfl rfl
theorem ms_538_319 : mz_sf mk_538 319 = mt_538_319 := mz_sf_add ms_538_317 (t := 2) rfl rfl
theorem ms_538_343 : mz_sf mk_538 343 = mt_538_343 := mz_sf_add ms_538_319 (t := 24) rfl rfl
theorem ms_538_347 : mz_sf mk_538 347 = mt_538_347 := mz_sf_add ms_538_343 (t := 4) rfl rfl
theorem ms_538_348 : mz_sf mk_538 348 = mt_538_348 := mz_sf_add ms_538_347 (t := 1) rfl rfl
theorem ms_538_355 : mz_sf mk_538 355 = mt_538_355 := mz_sf_add ms_538_348 (t := 7) rfl rfl
theorem ms_538_357 : mz_sf mk_538 357 = mt_538_357 := mz_sf_add ms_538_355 (t := 2) rfl rfl
theorem ms_538_372 : mz_sf mk_538 372 = mt_538_372 := mz_sf_add ms_538_357 (t := 15) rfl rfl
theorem ms_538_373 : mz_sf mk_538 373 = mt_538_373 := mz_sf_add ms_538_372 (t := 1) rfl rfl
set_option maxRecDepth 100000 in
theorem mzq_538 : mz_PG0 538 = some (12, ⟨"KeptHouseModel", "isOn", "(I)Z"⟩, prog_14_method_104_code, 5, some .boolean, [], mk_538, []) := rfl
theorem cg_538_96 (hd : 1 ≤ d) (hS : mz_extR S 342) (hR : mz_rok R 342)  (s0 : Bool) (v3 : Int32) (N : mz_N) {C0 : (Bool × mz_N) → Prop} (hr : ∀ (w : Bool) (N2 : mz_N), C0 (w, N2) → Q (.inl (some (.int (mz_b01 w)))) (mz_k S R N2 b t)) {C1 : ((Bool × Int32) ⊕ (Bool × mz_N)) → Prop} (hc1 : ∀ s2, C1 (.inl s2) → mz_G (d, mz_X0 L xs, some .boolean, [], mk_538, 5, Q) 72 mt_538_72 [(0, .ref 232), (2, .int (mz_b01 s2.1)), (3, .int s2.2)] [] false (mz_k S R N b t)) (hx1 : ∀ z, C1 (.inr z) → C0 z) (hp : cp_538_96 s0 v3 N) (hC : C1 (cf_538_96 s0 v3 N)) : mz_G (d, mz_X0 L xs, some .boolean, [], mk_538, 5, Q) 96 mt_538_96 [(0, .ref 232), (3, .int v3)] [.int (mz_b01 s0)] false (mz_k S R N b t) := by
  unfold cf_538_96 at hC
  unfold cp_538_96 at hp
  refine g_istore_n (Nat.le_of_ble_eq_true rfl) rfl (g_iinc rfl mzi_1 (Nat.le_of_ble_eq_true rfl) rfl (g_goto (tg := 72) rfl ms_538_72 ?_))
  refine g_weak ?_ (g_cl (hc1 (s0, (v3 + 1)) hC))
  exact ⟨rfl, rfl, rfl, trivial⟩
theorem cg_538_91 (hd : 1 ≤ d) (hS : mz_extR S 342) (hR : mz_rok R 342)  (v3 : Int32) (N : mz_N) {C0 : (Bool × mz_N) → Prop} (hr : ∀ (w : Bool) (N2 : mz_N), C0 (w, N2) → Q (.inl (some (.int (mz_b01 w)))) (mz_k S R N2 b t)) {C1 : ((Bool × Int32) ⊕ (Bool × mz_N)) → Prop} (hc1 : ∀ s2, C1 (.inl s2) → mz_G (d, mz_X0 L xs, some .boolean, [], mk_538, 5, Q) 72 mt_538_72 [(0, .ref 232), (2, .int (mz_b01 s2.1)), (3, .int s2.2)] [] false (mz_k S R N b t)) (hx1 : ∀ z, C1 (.inr z) → C0 z) (hp : cp_538_91 v3 N) (hC : C1 (cf_538_91 v3 N)) : mz_G (d, mz_X0 L xs, some .boolean, [], mk_538, 5, Q) 91 mt_538_91 [(0, .ref 232), (3, .int v3)] [] false (mz_k S R N b t) := by
  unfold cf_538_91 at hC
  unfold cp_538_91 at hp
  refine g_iconst mzi_1 (g_goto (tg := 96) rfl ms_538_96 ?_)
  refine g_weak ?_ (g_cl (cg_538_96 hd hS hR true v3 N hr hc1 hx1 hp hC))
  exact ⟨rfl, rfl, trivial⟩
theorem cb_538_72 (hd : 1 ≤ d) (hS : mz_extR S 342) (hR : mz_rok R 342)  (N : mz_N) (s : Bool × Int32) {C0 : (Bool × mz_N) → Prop} (hr : ∀ (w : Bool) (N2 : mz_N), C0 (w, N2) → Q (.inl (some (.int (mz_b01 w)))) (mz_k S R N2 b t)) {C1 : ((Bool × Int32) ⊕ (Bool × mz_N)) → Prop} (hc1 : ∀ s2, C1 (.inl s2) → mz_G (d, mz_X0 L xs, some .boolean, [], mk_538, 5, Q) 72 mt_538_72 [(0, .ref 232), (2, .int (mz_b01 s2.1)), (3, .int s2.2)] [] false (mz_k S R N b t)) (hx1 : ∀ z, C1 (.inr z) → C0 z) (hp : cd_538_72 N s) (hC : C1 (cq_538_72 N s)) : mz_G (d, mz_X0 L xs, some .boolean, [], mk_538, 5, Q) 72 mt_538_72 [(0, .ref 232), (2, .int (mz_b01 s.1)), (3, .int s.2)] [] false (mz_k S R N b t) := by
  unfold cq_538_72 at hC
  unfold cd_538_72 at hp
  refine g_iload_n rfl (g_bipush mzb_11 ?_)
  refine g_icge (tg := 103) rfl ms_538_103 hC (fun h1 hC => ?_) (fun h1 hC => ?_)
  · have hp := hp.1 h1
    refine g_iload_n rfl ?_
    refine g_zne (tg := 91) rfl ms_538_91 hC (fun h2 hC => ?_) (fun h2 hC => ?_)
    · have hp := hp.1 h2
      refine g_weak ?_ (g_cl (cg_538_91 hd hS hR s.2 N hr hc1 hx1 hp hC))
      exact ⟨rfl, rfl, trivial⟩
    · have hp := hp.2 h2
      refine g_aload_n rfl (g_getR (mz_at hS (Nat.le_of_ble_eq_true rfl) mzcS_232) mzcf_12_59 (mz_rb hR (Nat.le_of_ble_eq_true rfl) rfl mzcR_232_59) (g_iload_n rfl ?_))
      obtain ⟨h3, hp⟩ := hp
      obtain ⟨h4, hp⟩ := hp
      refine g_zald (mz_at hS (Nat.le_of_ble_eq_true rfl) mzcS_275) h3 h4 ?_
      refine g_zeq (tg := 95) rfl ms_538_95 hC (fun h5 hC => ?_) (fun h5 hC => ?_)
      · have hp := hp.1 h5
        refine g_weak ?_ (g_cl (cg_538_91 hd hS hR s.2 N hr hc1 hx1 hp hC))
        exact ⟨rfl, rfl, trivial⟩
      · have hp := hp.2 h5
        refine g_iconst mzi_0 ?_
        refine g_weak ?_ (g_cl (cg_538_96 hd hS hR false s.2 N hr hc1 hx1 hp hC))
        exact ⟨rfl, rfl, trivial⟩
  · have hp := hp.2 h1
    refine g_iload_n rfl ?_
    exact g_zret (z := s.1) rfl (hr _ _ (hx1 _ hC))
theorem cg_538_72 (hd : 1 ≤ d) (hS : mz_extR S 342) (hR : mz_rok R 342)  (v2 : Bool) (v3 : Int32) (N : mz_N) {C0 : (Bool × mz_N) → Prop} (hr : ∀ (w : Bool) (N2 : mz_N), C0 (w, N2) → Q (.inl (some (.int (mz_b01 w)))) (mz_k S R N2 b t)) (hp : cp_538_72 v2 v3 N) (hC : C0 (cf_538_72 v2 v3 N)) : mz_G (d, mz_X0 L xs, some .boolean, [], mk_538, 5, Q) 72 mt_538_72 [(0, .ref 232), (2, .int (mz_b01 v2)), (3, .int v3)] [] false (mz_k S R N b t) := by
  obtain ⟨n, hn⟩ := hp
  exact g_loop (G := fun s => mz_G (d, mz_X0 L xs, some .boolean, [], mk_538, 5, Q) 72 mt_538_72 [(0, .ref 232), (2, .int (mz_b01 s.1)), (3, .int s.2)] [] false (mz_k S R N b t)) (C := C0) (fun C2 hc hx s hP hC => cb_538_72 hd hS hR N s hr hc hx hP hC) n (v2, v3) hn hC
theorem cg_538_164 (hd : 1 ≤ d) (hS : mz_extR S 342) (hR : mz_rok R 342)  (s0 : Bool) (v3 : Int32) (N : mz_N) {C0 : (Bool × mz_N) → Prop} (hr : ∀ (w : Bool) (N2 : mz_N), C0 (w, N2) → Q (.inl (some (.int (mz_b01 w)))) (mz_k S R N2 b t)) {C1 : ((Bool × Int32) ⊕ (Bool × mz_N)) → Prop} (hc1 : ∀ s2, C1 (.inl s2) → mz_G (d, mz_X0 L xs, some .boolean, [], mk_538, 5, Q) 140 mt_538_140 [(0, .ref 232), (2, .int (mz_b01 s2.1)), (3, .int s2.2)] [] false (mz_k S R N b t)) (hx1 : ∀ z, C1 (.inr z) → C0 z) (hp : cp_538_164 s0 v3 N) (hC : C1 (cf_538_164 s0 v3 N)) : mz_G (d, mz_X0 L xs, some .boolean, [], mk_538, 5, Q) 164 mt_538_164 [(0, .ref 232), (3, .int v3)] [.int (mz_b01 s0)] false (mz_k S R N b t) := by
  unfold cf_538_164 at hC
  unfold cp_538_164 at hp
  refine g_istore_n (Nat.le_of_ble_eq_true rfl) rfl (g_iinc rfl mzi_1 (Nat.le_of_ble_eq_true rfl) rfl (g_goto (tg := 140) rfl ms_538_140 ?_))
  refine g_weak ?_ (g_cl (hc1 (s0, (v3 + 1)) hC))
  exact ⟨rfl, rfl, rfl, trivial⟩
theorem cg_538_159 (hd : 1 ≤ d) (hS : mz_extR S 342) (hR : mz_rok R 342)  (v3 : Int32) (N : mz_N) {C0 : (Bool × mz_N) → Prop} (hr : ∀ (w : Bool) (N2 : mz_N), C0 (w, N2) → Q (.inl (some (.int (mz_b01 w)))) (mz_k S R N2 b t)) {C1 : ((Bool × Int32) ⊕ (Bool × mz_N)) → Prop} (hc1 : ∀ s2, C1 (.inl s2) → mz_G (d, mz_X0 L xs, some .boolean, [], mk_538, 5, Q) 140 mt_538_140 [(0, .ref 232), (2, .int (mz_b01 s2.1)), (3, .int s2.2)] [] false (mz_k S R N b t)) (hx1 : ∀ z, C1 (.inr z) → C0 z) (hp : cp_538_159 v3 N) (hC : C1 (cf_538_159 v3 N)) : mz_G (d, mz_X0 L xs, some .boolean, [], mk_538, 5, Q) 159 mt_538_159 [(0, .ref 232), (3, .int v3)] [] false (mz_k S R N b t) := by
  unfold cf_538_159 at hC
  unfold cp_538_159 at hp
  refine g_iconst mzi_1 (g_goto (tg := 164) rfl ms_538_164 ?_)
  refine g_weak ?_ (g_cl (cg_538_164 hd hS hR true v3 N hr hc1 hx1 hp hC))
  exact ⟨rfl, rfl, trivial⟩
theorem cb_538_140 (hd : 1 ≤ d) (hS : mz_extR S 342) (hR : mz_rok R 342)  (N : mz_N) (s : Bool × Int32) {C0 : (Bool × mz_N) → Prop} (hr : ∀ (w : Bool) (N2 : mz_N), C0 (w, N2) → Q (.inl (some (.int (mz_b01 w)))) (mz_k S R N2 b t)) {C1 : ((Bool × Int32) ⊕ (Bool × mz_N)) → Prop} (hc1 : ∀ s2, C1 (.inl s2) → mz_G (d, mz_X0 L xs, some .boolean, [], mk_538, 5, Q) 140 mt_538_140 [(0, .ref 232), (2, .int (mz_b01 s2.1)), (3, .int s2.2)] [] false (mz_k S R N b t)) (hx1 : ∀ z, C1 (.inr z) → C0 z) (hp : cd_538_140 N s) (hC : C1 (cq_538_140 N s)) : mz_G (d, mz_X0 L xs, some .boolean, [], mk_538, 5, Q) 140 mt_538_140 [(0, .ref 232), (2, .int (mz_b01 s.1)), (3, .int s.2)] [] false (mz_k S R N b t) := by
  unfold cq_538_140 at hC
  unfold cd_538_140 at hp
  refine g_iload_n rfl (g_bipush mzb_11 ?_)
  refine g_icge (tg := 171) rfl ms_538_171 hC (fun h1 hC => ?_) (fun h1 hC => ?_)
  · have hp := hp.1 h1
    refine g_iload_n rfl ?_
    refine g_zne (tg := 159) rfl ms_538_159 hC (fun h2 hC => ?_) (fun h2 hC => ?_)
    · have hp := hp.1 h2
      refine g_weak ?_ (g_cl (cg_538_159 hd hS hR s.2 N hr hc1 hx1 hp hC))
      exact ⟨rfl, rfl, trivial⟩
    · have hp := hp.2 h2
      refine g_aload_n rfl (g_getR (mz_at hS (Nat.le_of_ble_eq_true rfl) mzcS_232) mzcf_12_57 (mz_rb hR (Nat.le_of_ble_eq_true rfl) rfl mzcR_232_57) (g_iload_n rfl ?_))
      obtain ⟨h3, hp⟩ := hp
      obtain ⟨h4, hp⟩ := hp
      refine g_zald (mz_at hS (Nat.le_of_ble_eq_true rfl) mzcS_273) h3 h4 ?_
      refine g_zeq (tg := 163) rfl ms_538_163 hC (fun h5 hC => ?_) (fun h5 hC => ?_)
      · have hp := hp.1 h5
        refine g_weak ?_ (g_cl (cg_538_159 hd hS hR s.2 N hr hc1 hx1 hp hC))
        exact ⟨rfl, rfl, trivial⟩
      · have hp := hp.2 h5
        refine g_iconst mzi_0 ?_
        refine g_weak ?_ (g_cl (cg_538_164 hd hS hR false s.2 N hr hc1 hx1 hp hC))
        exact ⟨rfl, rfl, trivial⟩
  · have hp := hp.2 h1
    refine g_iload_n rfl ?_
    exact g_zret (z := s.1) rfl (hr _ _ (hx1 _ hC))
theorem cg_538_140 (hd : 1 ≤ d) (hS : mz_extR S 342) (hR : mz_rok R 342)  (v2 : Bool) (v3 : Int32) (N : mz_N) {C0 : (Bool × mz_N) → Prop} (hr : ∀ (w : Bool) (N2 : mz_N), C0 (w, N2) → Q (.inl (some (.int (mz_b01 w)))) (mz_k S R N2 b t)) (hp : cp_538_140 v2 v3 N) (hC : C0 (cf_538_140 v2 v3 N)) : mz_G (d, mz_X0 L xs, some .boolean, [], mk_538, 5, Q) 140 mt_538_140 [(0, .ref 232), (2, .int (mz_b01 v2)), (3, .int v3)] [] false (mz_k S R N b t) := by
  obtain ⟨n, hn⟩ := hp
  exact g_loop (G := fun s => mz_G (d, mz_X0 L xs, some .boolean, [], mk_538, 5, Q) 140 mt_538_140 [(0, .ref 232), (2, .int (mz_b01 s.1)), (3, .int s.2)] [] false (mz_k S R N b t)) (C := C0) (fun C2 hc hx s hP hC => cb_538_140 hd hS hR N s hr hc hx hP hC) n (v2, v3) hn hC
theorem cg_538_308 (hd : 1 ≤ d) (hS : mz_extR S 342) (hR : mz_rok R 342)  (s0 : Bool) (v3 : Int32) (N : mz_N) {C0 : (Bool × mz_N) → Prop} (hr : ∀ (w : Bool) (N2 : mz_N), C0 (w, N2) → Q (.inl (some (.int (mz_b01 w)))) (mz_k S R N2 b t)) {C1 : ((Bool × Int32) ⊕ (Bool × mz_N)) → Prop} (hc1 : ∀ s2, C1 (.inl s2) → mz_G (d, mz_X0 L xs, some .boolean, [], mk_538, 5, Q) 270 mt_538_270 [(0, .ref 232), (2, .int (mz_b01 s2.1)), (3, .int s2.2)] [] false (mz_k S R N b t)) (hx1 : ∀ z, C1 (.inr z) → C0 z) (hp : cp_538_308 s0 v3 N) (hC : C1 (cf_538_308 s0 v3 N)) : mz_G (d, mz_X0 L xs, some .boolean, [], mk_538, 5, Q) 308 mt_538_308 [(0, .ref 232), (3, .int v3)] [.int (mz_b01 s0)] false (mz_k S R N b t) := by
  unfold cf_538_308 at hC
  unfold cp_538_308 at hp
  refine g_istore_n (Nat.le_of_ble_eq_true rfl) rfl (g_iinc rfl mzi_1 (Nat.le_of_ble_eq_true rfl) rfl (g_goto (tg := 270) rfl ms_538_270 ?_))
  refine g_weak ?_ (g_cl (hc1 (s0, (v3 + 1)) hC))
  exact ⟨rfl, rfl, rfl, trivial⟩
theorem cg_538_303 (hd : 1 ≤ d) (hS : mz_extR S 342) (hR : mz_rok R 342)  (v3 : Int32) (N : mz_N) {C0 : (Bool × mz_N) → Prop} (hr : ∀ (w : Bool) (N2 : mz_N), C0 (w, N2) → Q (.inl (some (.int (mz_b01 w)))) (mz_k S R N2 b t)) {C1 : ((Bool × Int32) ⊕ (Bool × mz_N)) → Prop} (hc1 : ∀ s2, C1 (.inl s2) → mz_G (d, mz_X0 L xs, some .boolean, [], mk_538, 5, Q) 270 mt_538_270 [(0, .ref 232), (2, .int (mz_b01 s2.1)), (3, .int s2.2)] [] false (mz_k S R N b t)) (hx1 : ∀ z, C1 (.inr z) → C0 z) (hp : cp_538_303 v3 N) (hC : C1 (cf_538_303 v3 N)) : mz_G (d, mz_X0 L xs, some .boolean, [], mk_538, 5, Q) 303 mt_538_303 [(0, .ref 232), (3, .int v3)] [] false (mz_k S R N b t) := by
  unfold cf_538_303 at hC
  unfold cp_538_303 at hp
  refine g_iconst mzi_1 (g_goto (tg := 308) rfl ms_538_308 ?_)
  refine g_weak ?_ (g_cl (cg_538_308 hd hS hR true v3 N hr hc1 hx1 hp hC))
  exact ⟨rfl, rfl, trivial⟩
theorem cb_538_270 (hd : 1 ≤ d) (hS : mz_extR S 342) (hR : mz_rok R 342)  (N : mz_N) (s : Bool × Int32) {C0 : (Bool × mz_N) → Prop} (hr : ∀ (w : Bool) (N2 : mz_N), C0 (w, N2) → Q (.inl (some (.int (mz_b01 w)))) (mz_k S R N2 b t)) {C1 : ((Bool × Int32) ⊕ (Bool × mz_N)) → Prop} (hc1 : ∀ s2, C1 (.inl s2) → mz_G (d, mz_X0 L xs, some .boolean, [], mk_538, 5, Q) 270 mt_538_270 [(0, .ref 232), (2, .int (mz_b01 s2.1)), (3, .int s2.2)] [] false (mz_k S R N b t)) (hx1 : ∀ z, C1 (.inr z) → C0 z) (hp : cd_538_270 N s) (hC : C1 (cq_538_270 N s)) : mz_G (d, mz_X0 L xs, some .boolean, [], mk_538, 5, Q) 270 mt_538_270 [(0, .ref 232), (2, .int (mz_b01 s.1)), (3, .int s.2)] [] false (mz_k S R N b t) := by
  unfold cq_538_270 at hC
  unfold cd_538_270 at hp
  refine g_iload_n rfl (g_aload_n rfl (g_getI (mz_at hS (Nat.le_of_ble_eq_true rfl) mzcS_232) mzcf_12_7 ?_))
  refine g_icge (tg := 315) rfl ms_538_315 hC (fun h1 hC => ?_) (fun h1 hC => ?_)
  · have hp := hp.1 h1
    refine g_iload_n rfl ?_
    refine g_zne (tg := 303) rfl ms_538_303 hC (fun h2 hC => ?_) (fun h2 hC => ?_)
    · have hp := hp.1 h2
      refine g_weak ?_ (g_cl (cg_538_303 hd hS hR s.2 N hr hc1 hx1 hp hC))
      exact ⟨rfl, rfl, trivial⟩
    · have hp := hp.2 h2
      refine g_aload_n rfl (g_getR (mz_at hS (Nat.le_of_ble_eq_true rfl) mzcS_232) mzcf_12_158 (mz_rb hR (Nat.le_of_ble_eq_true rfl) rfl mzcR_232_158) (g_iload_n rfl ?_))
      obtain ⟨h3, hp⟩ := hp
      refine g_lald (mz_at hS (Nat.le_of_ble_eq_true rfl) mzcS_340) h3 (g_con3 (g_aload_n rfl (g_getR (mz_at hS (Nat.le_of_ble_eq_true rfl) mzcS_232) mzcf_12_9 (mz_rb hR (Nat.le_of_ble_eq_true rfl) rfl mzcR_232_9) (g_iload_n rfl ?_))))
      obtain ⟨h4, hp⟩ := hp
      refine g_iald hS.1 (mz_at hS (Nat.le_of_ble_eq_true rfl) mzcS_237) h4 (g_i2l (g_lmul (g_lcmp ?_)))
      refine g_lle (tg := 307) rfl ms_538_307 hC (fun h5 hC => ?_) (fun h5 hC => ?_)
      · have hp := hp.1 h5
        refine g_weak ?_ (g_cl (cg_538_303 hd hS hR s.2 N hr hc1 hx1 hp hC))
        exact ⟨rfl, rfl, trivial⟩
      · have hp := hp.2 h5
        refine g_iconst mzi_0 ?_
        refine g_weak ?_ (g_cl (cg_538_308 hd hS hR false s.2 N hr hc1 hx1 hp hC))
        exact ⟨rfl, rfl, trivial⟩
  · have hp := hp.2 h1
    refine g_iload_n rfl ?_
    exact g_zret (z := s.1) rfl (hr _ _ (hx1 _ hC))
theorem cg_538_270 (hd : 1 ≤ d) (hS : mz_extR S 342) (hR : mz_rok R 342)  (v2 : Bool) (v3 : Int32) (N : mz_N) {C0 : (Bool × mz_N) → Prop} (hr : ∀ (w : Bool) (N2 : mz_N), C0 (w, N2) → Q (.inl (some (.int (mz_b01 w)))) (mz_k S R N2 b t)) (hp : cp_538_270 v2 v3 N) (hC : C0 (cf_538_270 v2 v3 N)) : mz_G (d, mz_X0 L xs, some .boolean, [], mk_538, 5, Q) 270 mt_538_270 [(0, .ref 232), (2, .int (mz_b01 v2)), (3, .int v3)] [] false (mz_k S R N b t) := by
  obtain ⟨n, hn⟩ := hp
  exact g_loop (G := fun s => mz_G (d, mz_X0 L xs, some .boolean, [], mk_538, 5, Q) 270 mt_538_270 [(0, .ref 232), (2, .int (mz_b01 s.1)), (3, .int s.2)] [] false (mz_k S R N b t)) (C := C0) (fun C2 hc hx s hP hC => cb_538_270 hd hS hR N s hr hc hx hP hC) n (v2, v3) hn hC
theorem cg_538_251 (hd : 1 ≤ d) (hS : mz_extR S 342) (hR : mz_rok R 342)  (s0 : Bool) (v3 : Int32) (N : mz_N) {C0 : (Bool × mz_N) → Prop} (hr : ∀ (w : Bool) (N2 : mz_N), C0 (w, N2) → Q (.inl (some (.int (mz_b01 w)))) (mz_k S R N2 b t)) {C1 : ((Bool × Int32) ⊕ (Bool × mz_N)) → Prop} (hc1 : ∀ s2, C1 (.inl s2) → mz_G (d, mz_X0 L xs, some .boolean, [], mk_538, 5, Q) 183 mt_538_183 [(0, .ref 232), (2, .int (mz_b01 s2.1)), (3, .int s2.2)] [] false (mz_k S R N b t)) (hx1 : ∀ z, C1 (.inr z) → C0 z) (hp : cp_538_251 s0 v3 N) (hC : C1 (cf_538_251 s0 v3 N)) : mz_G (d, mz_X0 L xs, some .boolean, [], mk_538, 5, Q) 251 mt_538_251 [(0, .ref 232), (3, .int v3)] [.int (mz_b01 s0)] false (mz_k S R N b t) := by
  unfold cf_538_251 at hC
  unfold cp_538_251 at hp
  refine g_istore_n (Nat.le_of_ble_eq_true rfl) rfl (g_iinc rfl mzi_1 (Nat.le_of_ble_eq_true rfl) rfl (g_goto (tg := 183) rfl ms_538_183 ?_))
  refine g_weak ?_ (g_cl (hc1 (s0, (v3 + 1)) hC))
  exact ⟨rfl, rfl, rfl, trivial⟩
theorem cg_538_250 (hd : 1 ≤ d) (hS : mz_extR S 342) (hR : mz_rok R 342)  (v3 : Int32) (N : mz_N) {C0 : (Bool × mz_N) → Prop} (hr : ∀ (w : Bool) (N2 : mz_N), C0 (w, N2) → Q (.inl (some (.int (mz_b01 w)))) (mz_k S R N2 b t)) {C1 : ((Bool × Int32) ⊕ (Bool × mz_N)) → Prop} (hc1 : ∀ s2, C1 (.inl s2) → mz_G (d, mz_X0 L xs, some .boolean, [], mk_538, 5, Q) 183 mt_538_183 [(0, .ref 232), (2, .int (mz_b01 s2.1)), (3, .int s2.2)] [] false (mz_k S R N b t)) (hx1 : ∀ z, C1 (.inr z) → C0 z) (hp : cp_538_250 v3 N) (hC : C1 (cf_538_250 v3 N)) : mz_G (d, mz_X0 L xs, some .boolean, [], mk_538, 5, Q) 250 mt_538_250 [(0, .ref 232), (3, .int v3)] [] false (mz_k S R N b t) := by
  unfold cf_538_250 at hC
  unfold cp_538_250 at hp
  refine g_iconst mzi_0 ?_
  refine g_weak ?_ (g_cl (cg_538_251 hd hS hR false v3 N hr hc1 hx1 hp hC))
  exact ⟨rfl, rfl, trivial⟩
theorem cg_538_246 (hd : 1 ≤ d) (hS : mz_extR S 342) (hR : mz_rok R 342)  (v3 : Int32) (N : mz_N) {C0 : (Bool × mz_N) → Prop} (hr : ∀ (w : Bool) (N2 : mz_N), C0 (w, N2) → Q (.inl (some (.int (mz_b01 w)))) (mz_k S R N2 b t)) {C1 : ((Bool × Int32) ⊕ (Bool × mz_N)) → Prop} (hc1 : ∀ s2, C1 (.inl s2) → mz_G (d, mz_X0 L xs, some .boolean, [], mk_538, 5, Q) 183 mt_538_183 [(0, .ref 232), (2, .int (mz_b01 s2.1)), (3, .int s2.2)] [] false (mz_k S R N b t)) (hx1 : ∀ z, C1 (.inr z) → C0 z) (hp : cp_538_246 v3 N) (hC : C1 (cf_538_246 v3 N)) : mz_G (d, mz_X0 L xs, some .boolean, [], mk_538, 5, Q) 246 mt_538_246 [(0, .ref 232), (3, .int v3)] [] false (mz_k S R N b t) := by
  unfold cf_538_246 at hC
  unfold cp_538_246 at hp
  refine g_iconst mzi_1 (g_goto (tg := 251) rfl ms_538_251 ?_)
  refine g_weak ?_ (g_cl (cg_538_251 hd hS hR true v3 N hr hc1 hx1 hp hC))
  exact ⟨rfl, rfl, trivial⟩
theorem cg_538_208 (hd : 1 ≤ d) (hS : mz_extR S 342) (hR : mz_rok R 342)  (s0 : Int32) (v2 : Bool) (v3 : Int32) (N : mz_N) {C0 : (Bool × mz_N) → Prop} (hr : ∀ (w : Bool) (N2 : mz_N), C0 (w, N2) → Q (.inl (some (.int (mz_b01 w)))) (mz_k S R N2 b t)) {C1 : ((Bool × Int32) ⊕ (Bool × mz_N)) → Prop} (hc1 : ∀ s2, C1 (.inl s2) → mz_G (d, mz_X0 L xs, some .boolean, [], mk_538, 5, Q) 183 mt_538_183 [(0, .ref 232), (2, .int (mz_b01 s2.1)), (3, .int s2.2)] [] false (mz_k S R N b t)) (hx1 : ∀ z, C1 (.inr z) → C0 z) (hp : cp_538_208 s0 v2 v3 N) (hC : C1 (cf_538_208 s0 v2 v3 N)) : mz_G (d, mz_X0 L xs, some .boolean, [], mk_538, 5, Q) 208 mt_538_208 [(0, .ref 232), (2, .int (mz_b01 v2)), (3, .int v3)] [.int s0] false (mz_k S R N b t) := by
  unfold cf_538_208 at hC
  unfold cp_538_208 at hp
  refine g_istore (Nat.le_of_ble_eq_true rfl) rfl (g_iload_n rfl ?_)
  refine g_zne (tg := 246) rfl ms_538_246 hC (fun h1 hC => ?_) (fun h1 hC => ?_)
  · have hp := hp.1 h1
    refine g_weak ?_ (g_cl (cg_538_246 hd hS hR v3 N hr hc1 hx1 hp hC))
    exact ⟨rfl, rfl, trivial⟩
  · have hp := hp.2 h1
    refine g_aload_n rfl (g_getR (mz_at hS (Nat.le_of_ble_eq_true rfl) mzcS_232) mzcf_12_14 (mz_rb hR (Nat.le_of_ble_eq_true rfl) rfl mzcR_232_14) (g_iload_n rfl ?_))
    obtain ⟨h2, hp⟩ := hp
    refine g_iald hS.1 (mz_at hS (Nat.le_of_ble_eq_true rfl) mzcS_242) h2 ?_
    refine g_iflt (tg := 250) rfl ms_538_250 hC (fun h3 hC => ?_) (fun h3 hC => ?_)
    · have hp := hp.1 h3
      refine g_weak ?_ (g_cl (cg_538_250 hd hS hR v3 N hr hc1 hx1 hp hC))
      exact ⟨rfl, rfl, trivial⟩
    · have hp := hp.2 h3
      refine g_aload_n rfl (g_getR (mz_at hS (Nat.le_of_ble_eq_true rfl) mzcS_232) mzcf_12_158 (mz_rb hR (Nat.le_of_ble_eq_true rfl) rfl mzcR_232_158) (g_iload rfl ?_))
      obtain ⟨h4, hp⟩ := hp
      refine g_lald (mz_at hS (Nat.le_of_ble_eq_true rfl) mzcS_340) h4 (g_con3 (g_aload_n rfl (g_getR (mz_at hS (Nat.le_of_ble_eq_true rfl) mzcS_232) mzcf_12_9 (mz_rb hR (Nat.le_of_ble_eq_true rfl) rfl mzcR_232_9) (g_iload rfl ?_))))
      obtain ⟨h5, hp⟩ := hp
      refine g_iald hS.1 (mz_at hS (Nat.le_of_ble_eq_true rfl) mzcS_237) h5 (g_i2l (g_lmul (g_lcmp ?_)))
      refine g_lle (tg := 250) rfl ms_538_250 hC (fun h6 hC => ?_) (fun h6 hC => ?_)
      · have hp := hp.1 h6
        refine g_weak ?_ (g_cl (cg_538_246 hd hS hR v3 N hr hc1 hx1 hp hC))
        exact ⟨rfl, rfl, trivial⟩
      · have hp := hp.2 h6
        refine g_weak ?_ (g_cl (cg_538_250 hd hS hR v3 N hr hc1 hx1 hp hC))
        exact ⟨rfl, rfl, trivial⟩
theorem cb_538_183 (hd : 1 ≤ d) (hS : mz_extR S 342) (hR : mz_rok R 342)  (N : mz_N) (s : Bool × Int32) {C0 : (Bool × mz_N) → Prop} (hr : ∀ (w : Bool) (N2 : mz_N), C0 (w, N2) → Q (.inl (some (.int (mz_b01 w)))) (mz_k S R N2 b t)) {C1 : ((Bool × Int32) ⊕ (Bool × mz_N)) → Prop} (hc1 : ∀ s2, C1 (.inl s2) → mz_G (d, mz_X0 L xs, some .boolean, [], mk_538, 5, Q) 183 mt_538_183 [(0, .ref 232), (2, .int (mz_b01 s2.1)), (3, .int s2.2)] [] false (mz_k S R N b t)) (hx1 : ∀ z, C1 (.inr z) → C0 z) (hp : cd_538_183 N s) (hC : C1 (cq_538_183 N s)) : mz_G (d, mz_X0 L xs, some .boolean, [], mk_538, 5, Q) 183 mt_538_183 [(0, .ref 232), (2, .int (mz_b01 s.1)), (3, .int s.2)] [] false (mz_k S R N b t) := by
  unfold cq_538_183 at hC
  unfold cd_538_183 at hp
  refine g_iload_n rfl (g_bipush mzb_10 ?_)
  refine g_icge (tg := 258) rfl ms_538_258 hC (fun h1 hC => ?_) (fun h1 hC => ?_)
  · have hp := hp.1 h1
    refine g_aload_n rfl (g_getR (mz_at hS (Nat.le_of_ble_eq_true rfl) mzcS_232) mzcf_12_14 (mz_rb hR (Nat.le_of_ble_eq_true rfl) rfl mzcR_232_14) (g_iload_n rfl ?_))
    obtain ⟨h2, hp⟩ := hp
    refine g_iald hS.1 (mz_at hS (Nat.le_of_ble_eq_true rfl) mzcS_242) h2 ?_
    refine g_ifge (tg := 202) rfl ms_538_202 hC (fun h3 hC => ?_) (fun h3 hC => ?_)
    · have hp := hp.1 h3
      refine g_iconst mzi_0 (g_goto (tg := 208) rfl ms_538_208 ?_)
      refine g_weak ?_ (g_cl (cg_538_208 hd hS hR 0 s.1 s.2 N hr hc1 hx1 hp hC))
      exact ⟨rfl, rfl, rfl, trivial⟩
    · have hp := hp.2 h3
      refine g_aload_n rfl (g_getR (mz_at hS (Nat.le_of_ble_eq_true rfl) mzcS_232) mzcf_12_14 (mz_rb hR (Nat.le_of_ble_eq_true rfl) rfl mzcR_232_14) (g_iload_n rfl ?_))
      obtain ⟨h4, hp⟩ := hp
      refine g_iald hS.1 (mz_at hS (Nat.le_of_ble_eq_true rfl) mzcS_242) h4 ?_
      refine g_weak ?_ (g_cl (cg_538_208 hd hS hR (mz_gI N 242 s.2) s.1 s.2 N hr hc1 hx1 hp hC))
      exact ⟨rfl, rfl, rfl, trivial⟩
  · have hp := hp.2 h1
    refine g_iload_n rfl ?_
    exact g_zret (z := s.1) rfl (hr _ _ (hx1 _ hC))
theorem cg_538_183 (hd : 1 ≤ d) (hS : mz_extR S 342) (hR : mz_rok R 342)  (v2 : Bool) (v3 : Int32) (N : mz_N) {C0 : (Bool × mz_N) → Prop} (hr : ∀ (w : Bool) (N2 : mz_N), C0 (w, N2) → Q (.inl (some (.int (mz_b01 w)))) (mz_k S R N2 b t)) (hp : cp_538_183 v2 v3 N) (hC : C0 (cf_538_183 v2 v3 N)) : mz_G (d, mz_X0 L xs, some .boolean, [], mk_538, 5, Q) 183 mt_538_183 [(0, .ref 232), (2, .int (mz_b01 v2)), (3, .int v3)] [] false (mz_k S R N b t) := by
  obtain ⟨n, hn⟩ := hp
  exact g_loop (G := fun s => mz_G (d, mz_X0 L xs, some .boolean, [], mk_538, 5, Q) 183 mt_538_183 [(0, .ref 232), (2, .int (mz_b01 s.1)), (3, .int s.2)] [] false (mz_k S R N b t)) (C := C0) (fun C2 hc hx s hP hC => cb_538_183 hd hS hR N s hr hc hx hP hC) n (v2, v3) hn hC
theorem cg_538_348 (hd : 1 ≤ d) (hS : mz_extR S 342) (hR : mz_rok R 342)  (s0 : Bool) (v3 : Int32) (N : mz_N) {C0 : (Bool × mz_N) → Prop} (hr : ∀ (w : Bool) (N2 : mz_N), C0 (w, N2) → Q (.inl (some (.int (mz_b01 w)))) (mz_k S R N2 b t)) {C1 : ((Bool × Int32) ⊕ (Bool × mz_N)) → Prop} (hc1 : ∀ s2, C1 (.inl s2) → mz_G (d, mz_X0 L xs, some .boolean, [], mk_538, 5, Q) 319 mt_538_319 [(0, .ref 232), (2, .int (mz_b01 s2.1)), (3, .int s2.2)] [] false (mz_k S R N b t)) (hx1 : ∀ z, C1 (.inr z) → C0 z) (hp : cp_538_348 s0 v3 N) (hC : C1 (cf_538_348 s0 v3 N)) : mz_G (d, mz_X0 L xs, some .boolean, [], mk_538, 5, Q) 348 mt_538_348 [(0, .ref 232), (3, .int v3)] [.int (mz_b01 s0)] false (mz_k S R N b t) := by
  unfold cf_538_348 at hC
  unfold cp_538_348 at hp
  refine g_istore_n (Nat.le_of_ble_eq_true rfl) rfl (g_iinc rfl mzi_1 (Nat.le_of_ble_eq_true rfl) rfl (g_goto (tg := 319) rfl ms_538_319 ?_))
  refine g_weak ?_ (g_cl (hc1 (s0, (v3 + 1)) hC))
  exact ⟨rfl, rfl, rfl, trivial⟩
theorem cg_538_343 (hd : 1 ≤ d) (hS : mz_extR S 342) (hR : mz_rok R 342)  (v3 : Int32) (N : mz_N) {C0 : (Bool × mz_N) → Prop} (hr : ∀ (w : Bool) (N2 : mz_N), C0 (w, N2) → Q (.inl (some (.int (mz_b01 w)))) (mz_k S R N2 b t)) {C1 : ((Bool × Int32) ⊕ (Bool × mz_N)) → Prop} (hc1 : ∀ s2, C1 (.inl s2) → mz_G (d, mz_X0 L xs, some .boolean, [], mk_538, 5, Q) 319 mt_538_319 [(0, .ref 232), (2, .int (mz_b01 s2.1)), (3, .int s2.2)] [] false (mz_k S R N b t)) (hx1 : ∀ z, C1 (.inr z) → C0 z) (hp : cp_538_343 v3 N) (hC : C1 (cf_538_343 v3 N)) : mz_G (d, mz_X0 L xs, some .boolean, [], mk_538, 5, Q) 343 mt_538_343 [(0, .ref 232), (3, .int v3)] [] false (mz_k S R N b t) := by
  unfold cf_538_343 at hC
  unfold cp_538_343 at hp
  refine g_iconst mzi_1 (g_goto (tg := 348) rfl ms_538_348 ?_)
  refine g_weak ?_ (g_cl (cg_538_348 hd hS hR true v3 N hr hc1 hx1 hp hC))
  exact ⟨rfl, rfl, trivial⟩
theorem cb_538_319 (hd : 1 ≤ d) (hS : mz_extR S 342) (hR : mz_rok R 342)  (N : mz_N) (s : Bool × Int32) {C0 : (Bool × mz_N) → Prop} (hr : ∀ (w : Bool) (N2 : mz_N), C0 (w, N2) → Q (.inl (some (.int (mz_b01 w)))) (mz_k S R N2 b t)) {C1 : ((Bool × Int32) ⊕ (Bool × mz_N)) → Prop} (hc1 : ∀ s2, C1 (.inl s2) → mz_G (d, mz_X0 L xs, some .boolean, [], mk_538, 5, Q) 319 mt_538_319 [(0, .ref 232), (2, .int (mz_b01 s2.1)), (3, .int s2.2)] [] false (mz_k S R N b t)) (hx1 : ∀ z, C1 (.inr z) → C0 z) (hp : cd_538_319 N s) (hC : C1 (cq_538_319 N s)) : mz_G (d, mz_X0 L xs, some .boolean, [], mk_538, 5, Q) 319 mt_538_319 [(0, .ref 232), (2, .int (mz_b01 s.1)), (3, .int s.2)] [] false (mz_k S R N b t) := by
  unfold cq_538_319 at hC
  unfold cd_538_319 at hp
  refine g_iload_n rfl (g_sipush mzs_240 ?_)
  refine g_icge (tg := 355) rfl ms_538_355 hC (fun h1 hC => ?_) (fun h1 hC => ?_)
  · have hp := hp.1 h1
    refine g_iload_n rfl ?_
    refine g_zne (tg := 343) rfl ms_538_343 hC (fun h2 hC => ?_) (fun h2 hC => ?_)
    · have hp := hp.1 h2
      refine g_weak ?_ (g_cl (cg_538_343 hd hS hR s.2 N hr hc1 hx1 hp hC))
      exact ⟨rfl, rfl, trivial⟩
    · have hp := hp.2 h2
      refine g_aload_n rfl (g_getR (mz_at hS (Nat.le_of_ble_eq_true rfl) mzcS_232) mzcf_12_43 (mz_rb hR (Nat.le_of_ble_eq_true rfl) rfl mzcR_232_43) (g_iload_n rfl ?_))
      obtain ⟨h3, hp⟩ := hp
      refine g_lald (mz_at hS (Nat.le_of_ble_eq_true rfl) mzcS_263) h3 (g_con3 (g_lcmp ?_))
      refine g_llt (tg := 347) rfl ms_538_347 hC (fun h4 hC => ?_) (fun h4 hC => ?_)
      · have hp := hp.1 h4
        refine g_iconst mzi_0 ?_
        refine g_weak ?_ (g_cl (cg_538_348 hd hS hR false s.2 N hr hc1 hx1 hp hC))
        exact ⟨rfl, rfl, trivial⟩
      · have hp := hp.2 h4
        refine g_weak ?_ (g_cl (cg_538_343 hd hS hR s.2 N hr hc1 hx1 hp hC))
        exact ⟨rfl, rfl, trivial⟩
  · have hp := hp.2 h1
    refine g_iload_n rfl ?_
    exact g_zret (z := s.1) rfl (hr _ _ (hx1 _ hC))
theorem cg_538_319 (hd : 1 ≤ d) (hS : mz_extR S 342) (hR : mz_rok R 342)  (v2 : Bool) (v3 : Int32) (N : mz_N) {C0 : (Bool × mz_N) → Prop} (hr : ∀ (w : Bool) (N2 : mz_N), C0 (w, N2) → Q (.inl (some (.int (mz_b01 w)))) (mz_k S R N2 b t)) (hp : cp_538_319 v2 v3 N) (hC : C0 (cf_538_319 v2 v3 N)) : mz_G (d, mz_X0 L xs, some .boolean, [], mk_538, 5, Q) 319 mt_538_319 [(0, .ref 232), (2, .int (mz_b01 v2)), (3, .int v3)] [] false (mz_k S R N b t) := by
  obtain ⟨n, hn⟩ := hp
  exact g_loop (G := fun s => mz_G (d, mz_X0 L xs, some .boolean, [], mk_538, 5, Q) 319 mt_538_319 [(0, .ref 232), (2, .int (mz_b01 s.1)), (3, .int s.2)] [] false (mz_k S R N b t)) (C := C0) (fun C2 hc hx s hP hC => cb_538_319 hd hS hR N s hr hc hx hP hC) n (v2, v3) hn hC
theorem cg_538_0 (hd : 1 ≤ d) (hS : mz_extR S 342) (hR : mz_rok R 342)  (v1 : Int32) (N : mz_N) {C0 : (Bool × mz_N) → Prop} (hr : ∀ (w : Bool) (N2 : mz_N), C0 (w, N2) → Q (.inl (some (.int (mz_b01 w)))) (mz_k S R N2 b t)) (hp : cp_538_0 v1 N) (hC : C0 (cf_538_0 v1 N)) : mz_G (d, mz_X0 L xs, some .boolean, [], mk_538, 5, Q) 0 mk_538 [(0, .ref 232), (1, .int v1)] [] true (mz_k S R N b t) := by
  unfold cf_538_0 at hC
  unfold cp_538_0 at hp
  refine g_iconst mzi_0 (g_istore_n (Nat.le_of_ble_eq_true rfl) rfl (g_iload_n rfl ?_))
  refine mz_cs hC (fun h1 hC => ?_) (fun h1 hC => ?_)
  · have hp := hp.1 h1
    refine g_brn (tg := 48) (by rw [h1]; rfl) (by decide) rfl ?_
    refine g_aload_n rfl ?_
    have h20 := hp
    refine g_getZ (mz_at hS (Nat.le_of_ble_eq_true rfl) mzcS_232) mzcf_12_67 h20 ?_
    exact g_zret (z := (mz_fZ N 232 67)) rfl (hr _ _ hC)
  · have hp := hp.2 h1
    refine mz_cs hC (fun h2 hC => ?_) (fun h2 hC => ?_)
    · have hp := hp.1 h2
      refine g_br (tg := 53) (by rw [h2]; rfl) ms_538_53 ?_
      refine g_aload_n rfl (g_getL (mz_at hS (Nat.le_of_ble_eq_true rfl) mzcS_232) mzcf_12_68 (g_con3 (g_lcmp ?_)))
      refine g_llt (tg := 68) rfl ms_538_68 hC (fun h19 hC => ?_) (fun h19 hC => ?_)
      · refine g_iconst mzi_0 ?_
        exact g_zret (z := false) rfl (hr _ _ hC)
      · refine g_iconst mzi_1 (g_goto (tg := 69) rfl ms_538_69 ?_)
        exact g_zret (z := true) rfl (hr _ _ hC)
    · have hp := hp.2 h2
      refine mz_cs hC (fun h3 hC => ?_) (fun h3 hC => ?_)
      · have hp := hp.1 h3
        refine g_br (tg := 70) (by rw [h3]; rfl) ms_538_70 ?_
        refine g_iconst mzi_0 (g_istore_n (Nat.le_of_ble_eq_true rfl) rfl ?_)
        refine g_weak ?_ (g_cl (cg_538_72 hd hS hR false 0 N hr hp hC))
        exact ⟨rfl, rfl, rfl, trivial⟩
      · have hp := hp.2 h3
        refine mz_cs hC (fun h4 hC => ?_) (fun h4 hC => ?_)
        · have hp := hp.1 h4
          refine g_br (tg := 105) (by rw [h4]; rfl) ms_538_105 ?_
          refine g_aload_n rfl (g_getR (mz_at hS (Nat.le_of_ble_eq_true rfl) mzcS_232) mzcf_12_102 (mz_rb hR (Nat.le_of_ble_eq_true rfl) rfl mzcR_232_102) (g_iconst mzi_0 ?_))
          obtain ⟨h13, hp⟩ := hp
          refine g_zald (mz_at hS (Nat.le_of_ble_eq_true rfl) mzcS_307) (mz_ibd (by decide)) h13 ?_
          refine g_zne (tg := 132) rfl ms_538_132 hC (fun h14 hC => ?_) (fun h14 hC => ?_)
          · have hp := hp.1 h14
            refine g_iconst mzi_1 (g_goto (tg := 137) rfl ms_538_137 ?_)
            exact g_zret (z := true) rfl (hr _ _ hC)
          · have hp := hp.2 h14
            refine g_aload_n rfl (g_getR (mz_at hS (Nat.le_of_ble_eq_true rfl) mzcS_232) mzcf_12_102 (mz_rb hR (Nat.le_of_ble_eq_true rfl) rfl mzcR_232_102) (g_iconst mzi_1 ?_))
            obtain ⟨h15, hp⟩ := hp
            refine g_zald (mz_at hS (Nat.le_of_ble_eq_true rfl) mzcS_307) (mz_ibd (by decide)) h15 ?_
            refine g_zne (tg := 132) rfl ms_538_132 hC (fun h16 hC => ?_) (fun h16 hC => ?_)
            · have hp := hp.1 h16
              refine g_iconst mzi_1 (g_goto (tg := 137) rfl ms_538_137 ?_)
              exact g_zret (z := true) rfl (hr _ _ hC)
            · have hp := hp.2 h16
              refine g_aload_n rfl (g_getR (mz_at hS (Nat.le_of_ble_eq_true rfl) mzcS_232) mzcf_12_102 (mz_rb hR (Nat.le_of_ble_eq_true rfl) rfl mzcR_232_102) (g_iconst mzi_2 ?_))
              have h17 := hp
              refine g_zald (mz_at hS (Nat.le_of_ble_eq_true rfl) mzcS_307) (mz_ibd (by decide)) h17 ?_
              refine g_zeq (tg := 136) rfl ms_538_136 hC (fun h18 hC => ?_) (fun h18 hC => ?_)
              · refine g_iconst mzi_1 (g_goto (tg := 137) rfl ms_538_137 ?_)
                exact g_zret (z := true) rfl (hr _ _ hC)
              · refine g_iconst mzi_0 ?_
                exact g_zret (z := false) rfl (hr _ _ hC)
        · have hp := hp.2 h4
          refine mz_cs hC (fun h5 hC => ?_) (fun h5 hC => ?_)
          · have hp := hp.1 h5
            refine g_br (tg := 138) (by rw [h5]; rfl) ms_538_138 ?_
            refine g_iconst mzi_0 (g_istore_n (Nat.le_of_ble_eq_true rfl) rfl ?_)
            refine g_weak ?_ (g_cl (cg_538_140 hd hS hR false 0 N hr hp hC))
            exact ⟨rfl, rfl, rfl, trivial⟩
          · have hp := hp.2 h5
            refine mz_cs hC (fun h6 hC => ?_) (fun h6 hC => ?_)
            · have hp := hp.1 h6
              refine g_br (tg := 173) (by rw [h6]; rfl) ms_538_173 ?_
              refine g_aload_n rfl (g_aload_n rfl (g_getR (mz_at hS (Nat.le_of_ble_eq_true rfl) mzcS_232) mzcf_12_41 (mz_rb hR (Nat.le_of_ble_eq_true rfl) rfl mzcR_232_41) ?_))
              obtain ⟨h12, hp⟩ := hp
              refine g_v2n (Nat.le_of_ble_eq_true rfl) (mz_at hS (Nat.le_of_ble_eq_true rfl) mzcS_232) (fun _ hq => cs_513 (Nat.le_trans (Nat.le_of_ble_eq_true rfl) hd) (hS.le (Nat.le_of_ble_eq_true rfl)) (hR.le (Nat.le_of_ble_eq_true rfl)) 261 (mz_at hS (Nat.le_of_ble_eq_true rfl) mzcS_261) N h12 hq) (g_iconst mzi_0 (g_istore_n (Nat.le_of_ble_eq_true rfl) rfl ?_))
              refine g_weak ?_ (g_cl (cg_538_183 hd hS hR false 0 (cf_513_0 261 N) hr hp hC))
              exact ⟨rfl, rfl, rfl, trivial⟩
            · have hp := hp.2 h6
              refine mz_cs hC (fun h7 hC => ?_) (fun h7 hC => ?_)
              · have hp := hp.1 h7
                refine g_br (tg := 260) (by rw [h7]; rfl) ms_538_260 ?_
                refine g_aload_n rfl (g_aload_n rfl (g_getR (mz_at hS (Nat.le_of_ble_eq_true rfl) mzcS_232) mzcf_12_45 (mz_rb hR (Nat.le_of_ble_eq_true rfl) rfl mzcR_232_45) ?_))
                obtain ⟨h11, hp⟩ := hp
                refine g_v2n (Nat.le_of_ble_eq_true rfl) (mz_at hS (Nat.le_of_ble_eq_true rfl) mzcS_232) (fun _ hq => cs_513 (Nat.le_trans (Nat.le_of_ble_eq_true rfl) hd) (hS.le (Nat.le_of_ble_eq_true rfl)) (hR.le (Nat.le_of_ble_eq_true rfl)) 265 (mz_at hS (Nat.le_of_ble_eq_true rfl) mzcS_265) N h11 hq) (g_iconst mzi_0 (g_istore_n (Nat.le_of_ble_eq_true rfl) rfl ?_))
                refine g_weak ?_ (g_cl (cg_538_270 hd hS hR false 0 (cf_513_0 265 N) hr hp hC))
                exact ⟨rfl, rfl, rfl, trivial⟩
              · have hp := hp.2 h7
                refine mz_cs hC (fun h8 hC => ?_) (fun h8 hC => ?_)
                · have hp := hp.1 h8
                  refine g_br (tg := 317) (by rw [h8]; rfl) ms_538_317 ?_
                  refine g_iconst mzi_0 (g_istore_n (Nat.le_of_ble_eq_true rfl) rfl ?_)
                  refine g_weak ?_ (g_cl (cg_538_319 hd hS hR false 0 N hr hp hC))
                  exact ⟨rfl, rfl, rfl, trivial⟩
                · have hp := hp.2 h8
                  refine g_br (tg := 357) ((mz_tsw_d (l := [10, 11, 12, 13, 14, 15, 16, 17]) (mz_rng 10 7) ⟨h1, h2, h3, h4, h5, h6, h7, h8, trivial⟩).trans (mz_tg_t rfl)) ms_538_357 ?_
                  refine g_aload_n rfl (g_getR (mz_at hS (Nat.le_of_ble_eq_true rfl) mzcS_232) mzcf_12_70 (mz_rb hR (Nat.le_of_ble_eq_true rfl) rfl mzcR_232_70) (g_iload_n rfl ?_))
                  have h9 := hp
                  refine g_iald hS.1 (mz_at hS (Nat.le_of_ble_eq_true rfl) mzcS_278) h9 (g_bipush mzb_30 ?_)
                  refine g_iclt (tg := 372) rfl ms_538_372 hC (fun h10 hC => ?_) (fun h10 hC => ?_)
                  · refine g_iconst mzi_0 ?_
                    exact g_zret (z := false) rfl (hr _ _ hC)
                  · refine g_iconst mzi_1 (g_goto (tg := 373) rfl ms_538_373 ?_)
                    exact g_zret (z := true) rfl (hr _ _ hC)
theorem cs_538 (hd : 2 ≤ d) (hS : mz_extR S 342) (hR : mz_rok R 342)  (v1 : Int32) (N : mz_N) (hp : cp_538_0 v1 N) (hq : Q (.inl (some (.int (mz_b01 ((cf_538_0 v1 N).1))))) (mz_k S R ((cf_538_0 v1 N).2) b t)) : mz_Ed (mz_X0 L xs) d 538 [.ref 232, .int v1] (mz_k S R N b t) Q :=
  by
  refine g_in mzq_538 (Nat.le_of_ble_eq_true rfl) (Nat.le_of_ble_eq_true rfl) (Nat.le_trans (Nat.le_of_ble_eq_true rfl) hd) ?_
  refine g_weak ?_ (cg_538_0 (d := d - 1) (by omega) hS hR v1 N (C0 := fun z => Q (.inl (some (.int (mz_b01 z.1)))) (mz_k S R z.2 b t)) (fun _ _ h => h) hp hq)
  exact ⟨rfl, rfl, trivial⟩
/-! 537 KeptHouseModel.noteAlarms ()V -/
theorem ms_537_0 : mz_sf mk_537 0 = mk_537 := mz_sf_zero _
theorem ms_537_10 : mz_sf mk_537 10 = mt_537_10 := mz_sf_add ms_537_0 (t := 10) rfl rfl
theorem ms_537_29 : mz_sf mk_537 29 = mt_537_29 := mz_sf_add ms_537_10 (t := 19) rfl rfl
theorem ms_537_35 : mz_sf mk_537 35 = mt_537_35 := mz_sf_add ms_537_29 (t := 6) rfl rfl
theorem ms_537_79 : mz_sf mk_537 79 = mt_537_79 := mz_sf_add ms_537_35 (t := 44) rfl rfl
theorem ms_537_83 : mz_sf mk_537 83 = mt_537_83 := mz_sf_add ms_537_79 (t := 4) rfl rfl
theorem ms_537_84 : mz_sf mk_537 84 = mt_537_84 := mz_sf_add ms_537_83 (t := 1) rfl rfl
theorem ms_537_105 : mz_sf mk_537 105 = mt_537_105 := mz_sf_add ms_537_84 (t := 21) rfl rfl
theorem ms_537_106 : mz_sf mk_537 106 = mt_537_106 := mz_sf_add ms_537_105 (t := 1) rfl rfl
theorem ms_537_113 : mz_sf mk_537 113 = mt_537_113 := mz_sf_add ms_537_106 (t := 7) rfl rfl
theorem ms_537_115 : mz_sf mk_537 115 = mt_537_115 := mz_sf_add ms_537_113 (t := 2) rfl rfl
theorem ms_537_140 : mz_sf mk_537 140 = mt_537_140 := mz_sf_add ms_537_115 (t := 25) rfl rfl
theorem ms_537_169 : mz_sf mk_537 169 = mt_537_169 := mz_sf_add ms_537_140 (t := 29) rfl rfl
theorem ms_537_179 : mz_sf mk_537 179 = mt_537_179 := mz_sf_add ms_537_169 (t := 10) rfl rfl
theorem ms_537_192 : mz_sf mk_537 192 = mt_537_192 := mz_sf_add ms_537_179 (t := 13) rfl rfl
set_option maxRecDepth 100000 in
theorem mzq_537 : mz_PG0 537 = some (12, ⟨"KeptHouseModel", "noteAlarms", "()V"⟩, prog_14_method_105_code, 4, none, [], mk_537, []) := rfl
theorem cg_537_106 (hd : 2 ≤ d) (hS : mz_extR S 342) (hR : mz_rok R 342)  (s1 : Int32) (s2 : Int32) (v1 : Int32) (N : mz_N) {C0 : (mz_N) → Prop} (hr : ∀ (N2 : mz_N), C0 N2 → Q (.inl none) (mz_k S R N2 b t)) {C1 : ((Int32 × mz_N) ⊕ (mz_N)) → Prop} (hc1 : ∀ s2, C1 (.inl s2) → mz_G (d, mz_X0 L xs, none, [], mk_537, 4, Q) 10 mt_537_10 [(0, .ref 232), (1, .int s2.1)] [] false (mz_k S R s2.2 b t)) (hx1 : ∀ z, C1 (.inr z) → C0 z) (hp : cp_537_106 s1 s2 v1 N) (hC : C1 (cf_537_106 s1 s2 v1 N)) : mz_G (d, mz_X0 L xs, none, [], mk_537, 4, Q) 106 mt_537_106 [(0, .ref 232), (1, .int v1)] [.int s2, .int s1, .ref 278] false (mz_k S R N b t) := by
  unfold cf_537_106 at hC
  unfold cp_537_106 at hp
  have h1 := hp
  refine g_iast (mz_at hS (Nat.le_of_ble_eq_true rfl) mzcS_278) h1 (g_iinc rfl mzi_1 (Nat.le_of_ble_eq_true rfl) rfl (g_goto (tg := 10) rfl ms_537_10 ?_))
  refine g_weak ?_ (g_cl (hc1 ((v1 + 1), mz_wI N 278 s1 s2) hC))
  exact ⟨rfl, rfl, trivial⟩
theorem cg_537_84 (hd : 2 ≤ d) (hS : mz_extR S 342) (hR : mz_rok R 342)  (s0 : Bool) (v1 : Int32) (N : mz_N) {C0 : (mz_N) → Prop} (hr : ∀ (N2 : mz_N), C0 N2 → Q (.inl none) (mz_k S R N2 b t)) {C1 : ((Int32 × mz_N) ⊕ (mz_N)) → Prop} (hc1 : ∀ s2, C1 (.inl s2) → mz_G (d, mz_X0 L xs, none, [], mk_537, 4, Q) 10 mt_537_10 [(0, .ref 232), (1, .int s2.1)] [] false (mz_k S R s2.2 b t)) (hx1 : ∀ z, C1 (.inr z) → C0 z) (hp : cp_537_84 s0 v1 N) (hC : C1 (cf_537_84 s0 v1 N)) : mz_G (d, mz_X0 L xs, none, [], mk_537, 4, Q) 84 mt_537_84 [(0, .ref 232), (1, .int v1)] [.int (mz_b01 s0)] false (mz_k S R N b t) := by
  unfold cf_537_84 at hC
  unfold cp_537_84 at hp
  refine g_istore_n (Nat.le_of_ble_eq_true rfl) rfl (g_aload_n rfl (g_getR (mz_at hS (Nat.le_of_ble_eq_true rfl) mzcS_232) mzcf_12_70 (mz_rb hR (Nat.le_of_ble_eq_true rfl) rfl mzcR_232_70) (g_iload_n rfl (g_iload_n rfl ?_))))
  refine g_zeq (tg := 105) rfl ms_537_105 hC (fun h1 hC => ?_) (fun h1 hC => ?_)
  · have hp := hp.1 h1
    refine g_aload_n rfl (g_getR (mz_at hS (Nat.le_of_ble_eq_true rfl) mzcS_232) mzcf_12_70 (mz_rb hR (Nat.le_of_ble_eq_true rfl) rfl mzcR_232_70) (g_iload_n rfl ?_))
    obtain ⟨h2, hp⟩ := hp
    refine g_iald hS.1 (mz_at hS (Nat.le_of_ble_eq_true rfl) mzcS_278) h2 (g_iconst mzi_1 (g_iadd (g_goto (tg := 106) rfl ms_537_106 ?_)))
    refine g_weak ?_ (g_cl (cg_537_106 hd hS hR v1 ((mz_gI N 278 v1) + 1) v1 N hr hc1 hx1 hp hC))
    exact ⟨rfl, rfl, trivial⟩
  · have hp := hp.2 h1
    refine g_iconst mzi_0 ?_
    refine g_weak ?_ (g_cl (cg_537_106 hd hS hR v1 0 v1 N hr hc1 hx1 hp hC))
    exact ⟨rfl, rfl, trivial⟩
theorem cg_537_83 (hd : 2 ≤ d) (hS : mz_extR S 342) (hR : mz_rok R 342)  (v1 : Int32) (N : mz_N) {C0 : (mz_N) → Prop} (hr : ∀ (N2 : mz_N), C0 N2 → Q (.inl none) (mz_k S R N2 b t)) {C1 : ((Int32 × mz_N) ⊕ (mz_N)) → Prop} (hc1 : ∀ s2, C1 (.inl s2) → mz_G (d, mz_X0 L xs, none, [], mk_537, 4, Q) 10 mt_537_10 [(0, .ref 232), (1, .int s2.1)] [] false (mz_k S R s2.2 b t)) (hx1 : ∀ z, C1 (.inr z) → C0 z) (hp : cp_537_83 v1 N) (hC : C1 (cf_537_83 v1 N)) : mz_G (d, mz_X0 L xs, none, [], mk_537, 4, Q) 83 mt_537_83 [(0, .ref 232), (1, .int v1)] [] false (mz_k S R N b t) := by
  unfold cf_537_83 at hC
  unfold cp_537_83 at hp
  refine g_iconst mzi_0 ?_
  refine g_weak ?_ (g_cl (cg_537_84 hd hS hR false v1 N hr hc1 hx1 hp hC))
  exact ⟨rfl, rfl, trivial⟩
theorem cg_537_35 (hd : 2 ≤ d) (hS : mz_extR S 342) (hR : mz_rok R 342)  (s0 : Int32) (v1 : Int32) (N : mz_N) {C0 : (mz_N) → Prop} (hr : ∀ (N2 : mz_N), C0 N2 → Q (.inl none) (mz_k S R N2 b t)) {C1 : ((Int32 × mz_N) ⊕ (mz_N)) → Prop} (hc1 : ∀ s2, C1 (.inl s2) → mz_G (d, mz_X0 L xs, none, [], mk_537, 4, Q) 10 mt_537_10 [(0, .ref 232), (1, .int s2.1)] [] false (mz_k S R s2.2 b t)) (hx1 : ∀ z, C1 (.inr z) → C0 z) (hp : cp_537_35 s0 v1 N) (hC : C1 (cf_537_35 s0 v1 N)) : mz_G (d, mz_X0 L xs, none, [], mk_537, 4, Q) 35 mt_537_35 [(0, .ref 232), (1, .int v1)] [.int s0] false (mz_k S R N b t) := by
  unfold cf_537_35 at hC
  unfold cp_537_35 at hp
  refine g_istore_n (Nat.le_of_ble_eq_true rfl) rfl (g_aload_n rfl (g_getR (mz_at hS (Nat.le_of_ble_eq_true rfl) mzcS_232) mzcf_12_14 (mz_rb hR (Nat.le_of_ble_eq_true rfl) rfl mzcR_232_14) (g_iload_n rfl ?_)))
  obtain ⟨h1, hp⟩ := hp
  refine g_iald hS.1 (mz_at hS (Nat.le_of_ble_eq_true rfl) mzcS_242) h1 ?_
  refine g_iflt (tg := 83) rfl ms_537_83 hC (fun h2 hC => ?_) (fun h2 hC => ?_)
  · have hp := hp.1 h2
    refine g_weak ?_ (g_cl (cg_537_83 hd hS hR v1 N hr hc1 hx1 hp hC))
    exact ⟨rfl, rfl, trivial⟩
  · have hp := hp.2 h2
    refine g_aload_n rfl (g_getR (mz_at hS (Nat.le_of_ble_eq_true rfl) mzcS_232) mzcf_12_158 (mz_rb hR (Nat.le_of_ble_eq_true rfl) rfl mzcR_232_158) (g_iload_n rfl ?_))
    obtain ⟨h3, hp⟩ := hp
    refine g_lald (mz_at hS (Nat.le_of_ble_eq_true rfl) mzcS_340) h3 (g_con3 (g_aload_n rfl (g_getR (mz_at hS (Nat.le_of_ble_eq_true rfl) mzcS_232) mzcf_12_9 (mz_rb hR (Nat.le_of_ble_eq_true rfl) rfl mzcR_232_9) (g_iload_n rfl ?_))))
    obtain ⟨h4, hp⟩ := hp
    refine g_iald hS.1 (mz_at hS (Nat.le_of_ble_eq_true rfl) mzcS_237) h4 (g_i2l (g_lmul ?_))
    obtain ⟨h5, hp⟩ := hp
    refine g_s2v (Nat.le_of_ble_eq_true rfl) (fun _ hq => cs_489 (Nat.le_trans (Nat.le_of_ble_eq_true rfl) hd) (hS.le (Nat.le_of_ble_eq_true rfl)) (hR.le (Nat.le_of_ble_eq_true rfl))  (mz_gL N 340 s0) (100 * ((mz_gI N 237 s0).toInt64)) h5 hq) (g_aload_n rfl (g_getR (mz_at hS (Nat.le_of_ble_eq_true rfl) mzcS_232) mzcf_12_37 (mz_rb hR (Nat.le_of_ble_eq_true rfl) rfl mzcR_232_37) (g_iload_n rfl ?_)))
    obtain ⟨h6, hp⟩ := hp
    refine g_iald hS.1 (mz_at hS (Nat.le_of_ble_eq_true rfl) mzcS_257) h6 (g_bipush mzb_30 (g_isub (g_i2l (g_lcmp ?_))))
    refine g_lge (tg := 83) rfl ms_537_83 hC (fun h7 hC => ?_) (fun h7 hC => ?_)
    · have hp := hp.1 h7
      refine g_iconst mzi_1 (g_goto (tg := 84) rfl ms_537_84 ?_)
      refine g_weak ?_ (g_cl (cg_537_84 hd hS hR true v1 N hr hc1 hx1 hp hC))
      exact ⟨rfl, rfl, trivial⟩
    · have hp := hp.2 h7
      refine g_weak ?_ (g_cl (cg_537_83 hd hS hR v1 N hr hc1 hx1 hp hC))
      exact ⟨rfl, rfl, trivial⟩
theorem cg_537_179 (hd : 2 ≤ d) (hS : mz_extR S 342) (hR : mz_rok R 342)  (v1 : Int32) (v2 : Bool) (N : mz_N) {C0 : (mz_N) → Prop} (hr : ∀ (N2 : mz_N), C0 N2 → Q (.inl none) (mz_k S R N2 b t)) {C1 : ((Int32 × mz_N) ⊕ (mz_N)) → Prop} (hc1 : ∀ s2, C1 (.inl s2) → mz_G (d, mz_X0 L xs, none, [], mk_537, 4, Q) 115 mt_537_115 [(0, .ref 232), (1, .int s2.1)] [] false (mz_k S R s2.2 b t)) (hx1 : ∀ z, C1 (.inr z) → C0 z) (hp : cp_537_179 v1 v2 N) (hC : C1 (cf_537_179 v1 v2 N)) : mz_G (d, mz_X0 L xs, none, [], mk_537, 4, Q) 179 mt_537_179 [(0, .ref 232), (1, .int v1), (2, .int (mz_b01 v2))] [] false (mz_k S R N b t) := by
  unfold cf_537_179 at hC
  unfold cp_537_179 at hp
  refine g_aload_n rfl (g_getR (mz_at hS (Nat.le_of_ble_eq_true rfl) mzcS_232) mzcf_12_71 (mz_rb hR (Nat.le_of_ble_eq_true rfl) rfl mzcR_232_71) (g_iload_n rfl (g_iload_n rfl ?_)))
  have h1 := hp
  refine g_zast (z := v2) (mz_at hS (Nat.le_of_ble_eq_true rfl) mzcS_279) h1 (g_iinc rfl mzi_1 (Nat.le_of_ble_eq_true rfl) rfl (g_goto (tg := 115) rfl ms_537_115 ?_))
  refine g_weak ?_ (g_cl (hc1 ((v1 + 1), mz_wI N 279 v1 (mz_b01 v2)) hC))
  exact ⟨rfl, rfl, trivial⟩
theorem cg_537_169 (hd : 2 ≤ d) (hS : mz_extR S 342) (hR : mz_rok R 342)  (v1 : Int32) (v2 : Bool) (N : mz_N) {C0 : (mz_N) → Prop} (hr : ∀ (N2 : mz_N), C0 N2 → Q (.inl none) (mz_k S R N2 b t)) {C1 : ((Int32 × mz_N) ⊕ (mz_N)) → Prop} (hc1 : ∀ s2, C1 (.inl s2) → mz_G (d, mz_X0 L xs, none, [], mk_537, 4, Q) 115 mt_537_115 [(0, .ref 232), (1, .int s2.1)] [] false (mz_k S R s2.2 b t)) (hx1 : ∀ z, C1 (.inr z) → C0 z) (hp : cp_537_169 v1 v2 N) (hC : C1 (cf_537_169 v1 v2 N)) : mz_G (d, mz_X0 L xs, none, [], mk_537, 4, Q) 169 mt_537_169 [(0, .ref 232), (1, .int v1), (2, .int (mz_b01 v2))] [] false (mz_k S R N b t) := by
  unfold cf_537_169 at hC
  unfold cp_537_169 at hp
  refine g_aload_n rfl (g_dup rfl (g_getI (mz_at hS (Nat.le_of_ble_eq_true rfl) mzcS_232) mzcf_12_72 (g_iconst mzi_1 (g_iadd (g_putI (mz_at hS (Nat.le_of_ble_eq_true rfl) mzcS_232) mzcf_12_72 ?_)))))
  refine g_weak ?_ (g_cl (cg_537_179 hd hS hR v1 v2 (mz_pI N 232 72 ((N.1 232 72) + 1)) hr hc1 hx1 hp hC))
  exact ⟨rfl, rfl, rfl, trivial⟩
theorem cb_537_115 (hd : 2 ≤ d) (hS : mz_extR S 342) (hR : mz_rok R 342)   (s : Int32 × mz_N) {C0 : (mz_N) → Prop} (hr : ∀ (N2 : mz_N), C0 N2 → Q (.inl none) (mz_k S R N2 b t)) {C1 : ((Int32 × mz_N) ⊕ (mz_N)) → Prop} (hc1 : ∀ s2, C1 (.inl s2) → mz_G (d, mz_X0 L xs, none, [], mk_537, 4, Q) 115 mt_537_115 [(0, .ref 232), (1, .int s2.1)] [] false (mz_k S R s2.2 b t)) (hx1 : ∀ z, C1 (.inr z) → C0 z) (hp : cd_537_115  s) (hC : C1 (cq_537_115  s)) : mz_G (d, mz_X0 L xs, none, [], mk_537, 4, Q) 115 mt_537_115 [(0, .ref 232), (1, .int s.1)] [] false (mz_k S R s.2 b t) := by
  unfold cq_537_115 at hC
  unfold cd_537_115 at hp
  refine g_iload_n rfl (g_bipush mzb_18 ?_)
  refine g_icge (tg := 192) rfl ms_537_192 hC (fun h1 hC => ?_) (fun h1 hC => ?_)
  · have hp := hp.1 h1
    refine g_aload_n rfl (g_iload_n rfl ?_)
    obtain ⟨h2, hp⟩ := hp
    refine g_v2v (Nat.le_of_ble_eq_true rfl) (mz_at hS (Nat.le_of_ble_eq_true rfl) mzcS_232) (fun _ hq => cs_538 (Nat.le_trans (Nat.le_of_ble_eq_true rfl) hd) (hS.le (Nat.le_of_ble_eq_true rfl)) (hR.le (Nat.le_of_ble_eq_true rfl))  s.1 s.2 h2 hq) (g_istore_n (Nat.le_of_ble_eq_true rfl) rfl (g_iload_n rfl ?_))
    refine g_zeq (tg := 179) rfl ms_537_179 hC (fun h3 hC => ?_) (fun h3 hC => ?_)
    · have hp := hp.1 h3
      refine g_aload_n rfl (g_getR (mz_at hS (Nat.le_of_ble_eq_true rfl) mzcS_232) mzcf_12_71 (mz_rb hR (Nat.le_of_ble_eq_true rfl) rfl mzcR_232_71) (g_iload_n rfl ?_))
      obtain ⟨h4, hp⟩ := hp
      obtain ⟨h5, hp⟩ := hp
      refine g_zald (mz_at hS (Nat.le_of_ble_eq_true rfl) mzcS_279) h4 h5 ?_
      refine g_zne (tg := 179) rfl ms_537_179 hC (fun h6 hC => ?_) (fun h6 hC => ?_)
      · have hp := hp.1 h6
        refine g_weak ?_ (g_cl (cg_537_179 hd hS hR s.1 ((cf_538_0 s.1 s.2).1) ((cf_538_0 s.1 s.2).2) hr hc1 hx1 hp hC))
        exact ⟨rfl, rfl, rfl, trivial⟩
      · have hp := hp.2 h6
        refine g_aload_n rfl (g_getR (mz_at hS (Nat.le_of_ble_eq_true rfl) mzcS_232) mzcf_12_73 (mz_rb hR (Nat.le_of_ble_eq_true rfl) rfl mzcR_232_73) (g_aload_n rfl (g_getI (mz_at hS (Nat.le_of_ble_eq_true rfl) mzcS_232) mzcf_12_72 (g_bipush mzb_32 (g_irem (by decide) (g_iload_n rfl ?_))))))
        obtain ⟨h7, hp⟩ := hp
        refine g_iast (mz_at hS (Nat.le_of_ble_eq_true rfl) mzcS_280) h7 (g_aload_n rfl (g_getR (mz_at hS (Nat.le_of_ble_eq_true rfl) mzcS_232) mzcf_12_74 (mz_rb hR (Nat.le_of_ble_eq_true rfl) rfl mzcR_232_74) (g_aload_n rfl (g_getI (mz_at hS (Nat.le_of_ble_eq_true rfl) mzcS_232) mzcf_12_72 (g_bipush mzb_32 (g_irem (by decide) (g_aload_n rfl ?_)))))))
        refine g_getL (mz_at hS (Nat.le_of_ble_eq_true rfl) mzcS_232) mzcf_12_2 ?_
        obtain ⟨h8, hp⟩ := hp
        refine g_last (mz_at hS (Nat.le_of_ble_eq_true rfl) mzcS_281) h8 ?_
        refine g_weak ?_ (g_cl (cg_537_169 hd hS hR s.1 ((cf_538_0 s.1 s.2).1) (mz_wL (mz_wI ((cf_538_0 s.1 s.2).2) 280 (mz_irem (((cf_538_0 s.1 s.2).2).1 232 72) 32) s.1) 281 (mz_irem ((mz_wI ((cf_538_0 s.1 s.2).2) 280 (mz_irem (((cf_538_0 s.1 s.2).2).1 232 72) 32) s.1).1 232 72) 32) ((mz_wI ((cf_538_0 s.1 s.2).2) 280 (mz_irem (((cf_538_0 s.1 s.2).2).1 232 72) 32) s.1).2 232 2)) hr hc1 hx1 hp hC))
        exact ⟨rfl, rfl, rfl, trivial⟩
    · have hp := hp.2 h3
      refine g_weak ?_ (g_cl (cg_537_179 hd hS hR s.1 ((cf_538_0 s.1 s.2).1) ((cf_538_0 s.1 s.2).2) hr hc1 hx1 hp hC))
      exact ⟨rfl, rfl, rfl, trivial⟩
  · have hp := hp.2 h1
    exact g_vret rfl (hr _ (hx1 _ hC))
theorem cg_537_115 (hd : 2 ≤ d) (hS : mz_extR S 342) (hR : mz_rok R 342)  (v1 : Int32) (N : mz_N) {C0 : (mz_N) → Prop} (hr : ∀ (N2 : mz_N), C0 N2 → Q (.inl none) (mz_k S R N2 b t)) (hp : cp_537_115 v1 N) (hC : C0 (cf_537_115 v1 N)) : mz_G (d, mz_X0 L xs, none, [], mk_537, 4, Q) 115 mt_537_115 [(0, .ref 232), (1, .int v1)] [] false (mz_k S R N b t) := by
  obtain ⟨n, hn⟩ := hp
  exact g_loop (G := fun s => mz_G (d, mz_X0 L xs, none, [], mk_537, 4, Q) 115 mt_537_115 [(0, .ref 232), (1, .int s.1)] [] false (mz_k S R s.2 b t)) (C := C0) (fun C2 hc hx s hP hC => cb_537_115 hd hS hR  s hr hc hx hP hC) n (v1, N) hn hC
theorem cb_537_10 (hd : 2 ≤ d) (hS : mz_extR S 342) (hR : mz_rok R 342)   (s : Int32 × mz_N) {C0 : (mz_N) → Prop} (hr : ∀ (N2 : mz_N), C0 N2 → Q (.inl none) (mz_k S R N2 b t)) {C1 : ((Int32 × mz_N) ⊕ (mz_N)) → Prop} (hc1 : ∀ s2, C1 (.inl s2) → mz_G (d, mz_X0 L xs, none, [], mk_537, 4, Q) 10 mt_537_10 [(0, .ref 232), (1, .int s2.1)] [] false (mz_k S R s2.2 b t)) (hx1 : ∀ z, C1 (.inr z) → C0 z) (hp : cd_537_10  s) (hC : C1 (cq_537_10  s)) : mz_G (d, mz_X0 L xs, none, [], mk_537, 4, Q) 10 mt_537_10 [(0, .ref 232), (1, .int s.1)] [] false (mz_k S R s.2 b t) := by
  unfold cq_537_10 at hC
  unfold cd_537_10 at hp
  refine g_iload_n rfl (g_bipush mzb_10 ?_)
  refine g_icge (tg := 113) rfl ms_537_113 hC (fun h1 hC => ?_) (fun h1 hC => ?_)
  · have hp := hp.1 h1
    refine g_aload_n rfl (g_getR (mz_at hS (Nat.le_of_ble_eq_true rfl) mzcS_232) mzcf_12_14 (mz_rb hR (Nat.le_of_ble_eq_true rfl) rfl mzcR_232_14) (g_iload_n rfl ?_))
    obtain ⟨h2, hp⟩ := hp
    refine g_iald hS.1 (mz_at hS (Nat.le_of_ble_eq_true rfl) mzcS_242) h2 ?_
    refine g_ifge (tg := 29) rfl ms_537_29 hC (fun h3 hC => ?_) (fun h3 hC => ?_)
    · have hp := hp.1 h3
      refine g_iconst mzi_0 (g_goto (tg := 35) rfl ms_537_35 ?_)
      refine g_weak ?_ (g_cl (cg_537_35 hd hS hR 0 s.1 s.2 hr hc1 hx1 hp hC))
      exact ⟨rfl, rfl, trivial⟩
    · have hp := hp.2 h3
      refine g_aload_n rfl (g_getR (mz_at hS (Nat.le_of_ble_eq_true rfl) mzcS_232) mzcf_12_14 (mz_rb hR (Nat.le_of_ble_eq_true rfl) rfl mzcR_232_14) (g_iload_n rfl ?_))
      obtain ⟨h4, hp⟩ := hp
      refine g_iald hS.1 (mz_at hS (Nat.le_of_ble_eq_true rfl) mzcS_242) h4 ?_
      refine g_weak ?_ (g_cl (cg_537_35 hd hS hR (mz_gI s.2 242 s.1) s.1 s.2 hr hc1 hx1 hp hC))
      exact ⟨rfl, rfl, trivial⟩
  · have hp := hp.2 h1
    refine g_iconst mzi_0 (g_istore_n (Nat.le_of_ble_eq_true rfl) rfl ?_)
    refine g_weak ?_ (g_cl (cg_537_115 hd hS hR 0 s.2 hr hp (hx1 _ hC)))
    exact ⟨rfl, rfl, trivial⟩
theorem cg_537_10 (hd : 2 ≤ d) (hS : mz_extR S 342) (hR : mz_rok R 342)  (v1 : Int32) (N : mz_N) {C0 : (mz_N) → Prop} (hr : ∀ (N2 : mz_N), C0 N2 → Q (.inl none) (mz_k S R N2 b t)) (hp : cp_537_10 v1 N) (hC : C0 (cf_537_10 v1 N)) : mz_G (d, mz_X0 L xs, none, [], mk_537, 4, Q) 10 mt_537_10 [(0, .ref 232), (1, .int v1)] [] false (mz_k S R N b t) := by
  obtain ⟨n, hn⟩ := hp
  exact g_loop (G := fun s => mz_G (d, mz_X0 L xs, none, [], mk_537, 4, Q) 10 mt_537_10 [(0, .ref 232), (1, .int s.1)] [] false (mz_k S R s.2 b t)) (C := C0) (fun C2 hc hx s hP hC => cb_537_10 hd hS hR  s hr hc hx hP hC) n (v1, N) hn hC
theorem cg_537_0 (hd : 2 ≤ d) (hS : mz_extR S 342) (hR : mz_rok R 342)  (N : mz_N) {C0 : (mz_N) → Prop} (hr : ∀ (N2 : mz_N), C0 N2 → Q (.inl none) (mz_k S R N2 b t)) (hp : cp_537_0 N) (hC : C0 (cf_537_0 N)) : mz_G (d, mz_X0 L xs, none, [], mk_537, 4, Q) 0 mk_537 [(0, .ref 232)] [] true (mz_k S R N b t) := by
  unfold cf_537_0 at hC
  unfold cp_537_0 at hp
  refine g_aload_n rfl (g_aload_n rfl (g_getR (mz_at hS (Nat.le_of_ble_eq_true rfl) mzcS_232) mzcf_12_40 (mz_rb hR (Nat.le_of_ble_eq_true rfl) rfl mzcR_232_40) ?_))
  obtain ⟨h1, hp⟩ := hp
  refine g_v2n (Nat.le_of_ble_eq_true rfl) (mz_at hS (Nat.le_of_ble_eq_true rfl) mzcS_232) (fun _ hq => cs_513 (Nat.le_trans (Nat.le_of_ble_eq_true rfl) hd) (hS.le (Nat.le_of_ble_eq_true rfl)) (hR.le (Nat.le_of_ble_eq_true rfl)) 260 (mz_at hS (Nat.le_of_ble_eq_true rfl) mzcS_260) N h1 hq) (g_iconst mzi_0 (g_istore_n (Nat.le_of_ble_eq_true rfl) rfl ?_))
  refine g_weak ?_ (g_cl (cg_537_10 hd hS hR 0 (cf_513_0 260 N) hr hp hC))
  exact ⟨rfl, rfl, trivial⟩
theorem cs_537 (hd : 3 ≤ d) (hS : mz_extR S 342) (hR : mz_rok R 342)  (N : mz_N) (hp : cp_537_0 N) (hq : Q (.inl none) (mz_k S R (cf_537_0 N) b t)) : mz_Ed (mz_X0 L xs) d 537 [.ref 232] (mz_k S R N b t) Q :=
  by
  refine g_in mzq_537 (Nat.le_of_ble_eq_true rfl) (Nat.le_of_ble_eq_true rfl) (Nat.le_trans (Nat.le_of_ble_eq_true rfl) hd) ?_
  refine g_weak ?_ (cg_537_0 (d := d - 1) (by omega) hS hR N (C0 := fun z => Q (.inl none) (mz_k S R z b t)) (fun _ h => h) hp hq)
  exact ⟨rfl, trivial⟩
/-! 540 KeptHouseModel.pointNow (I)J -/
theorem ms_540_0 : mz_sf mk_540 0 = mk_540 := mz_sf_zero _
theorem ms_540_61 : mz_sf mk_540 61 = mt_540_61 := mz_sf_add ms_540_0 (t := 61) rfl rfl
theorem ms_540_65 : mz_sf mk_540 65 = mt_540_65 := mz_sf_add ms_540_61 (t := 4) rfl rfl
theorem ms_540_75 : mz_sf mk_540 75 = mt_540_75 := mz_sf_add ms_540_65 (t := 10) rfl rfl
theorem ms_540_76 : mz_sf mk_540 76 = mt_540_76 := mz_sf_add ms_540_75 (t := 1) rfl rfl
theorem ms_540_89 : mz_sf mk_540 89 = mt_540_89 := mz_sf_add ms_540_76 (t := 13) rfl rfl
theorem ms_540_103 : mz_sf mk_540 103 = mt_540_103 := mz_sf_add ms_540_89 (t := 14) rfl rfl
theorem ms_540_104 : mz_sf mk_540 104 = mt_540_104 := mz_sf_add ms_540_103 (t := 1) rfl rfl
theorem ms_540_112 : mz_sf mk_540 112 = mt_540_112 := mz_sf_add ms_540_104 (t := 8) rfl rfl
theorem ms_540_118 : mz_sf mk_540 118 = mt_540_118 := mz_sf_add ms_540_112 (t := 6) rfl rfl
theorem ms_540_124 : mz_sf mk_540 124 = mt_540_124 := mz_sf_add ms_540_118 (t := 6) rfl rfl
theorem ms_540_130 : mz_sf mk_540 130 = mt_540_130 := mz_sf_add ms_540_124 (t := 6) rfl rfl
set_option maxRecDepth 100000 in
theorem mzq_540 : mz_PG0 540 = some (12, ⟨"KeptHouseModel", "pointNow", "(I)J"⟩, prog_14_method_117_code, 3, some .long, [], mk_540, []) := rfl
theorem cg_540_0 (hd : 2 ≤ d) (hS : mz_extR S 342) (hR : mz_rok R 342)  (v1 : Int32) (N : mz_N) {C0 : (Int64) → Prop} (hr : ∀ (w : Int64), C0 w → Q (.inl (some (.long w))) (mz_k S R N b t)) (hp : cp_540_0 v1 N) (hC : C0 (cf_540_0 v1 N)) : mz_G (d, mz_X0 L xs, some .long, [], mk_540, 3, Q) 0 mk_540 [(0, .ref 232), (1, .int v1)] [] true (mz_k S R N b t) := by
  unfold cf_540_0 at hC
  unfold cp_540_0 at hp
  refine g_aload_n rfl (g_getR (mz_at hS (Nat.le_of_ble_eq_true rfl) mzcS_232) mzcf_12_77 (mz_rb hR (Nat.le_of_ble_eq_true rfl) rfl mzcR_232_77) (g_iload_n rfl ?_))
  obtain ⟨h1, hp⟩ := hp
  refine g_iald hS.1 (mz_at hS (Nat.le_of_ble_eq_true rfl) mzcS_284) h1 (g_istore_n (Nat.le_of_ble_eq_true rfl) rfl (g_aload_n rfl (g_getR (mz_at hS (Nat.le_of_ble_eq_true rfl) mzcS_232) mzcf_12_76 (mz_rb hR (Nat.le_of_ble_eq_true rfl) rfl mzcR_232_76) (g_iload_n rfl ?_))))
  obtain ⟨h2, hp⟩ := hp
  refine g_iald hS.1 (mz_at hS (Nat.le_of_ble_eq_true rfl) mzcS_283) h2 ?_
  refine mz_cs hC (fun h3 hC => ?_) (fun h3 hC => ?_)
  · have hp := hp.1 h3
    refine g_brn (tg := 52) (by rw [h3]; rfl) (by decide) rfl ?_
    refine g_aload_n rfl (g_getR (mz_at hS (Nat.le_of_ble_eq_true rfl) mzcS_232) mzcf_12_14 (mz_rb hR (Nat.le_of_ble_eq_true rfl) rfl mzcR_232_14) (g_iload_n rfl ?_))
    obtain ⟨h14, hp⟩ := hp
    refine g_iald hS.1 (mz_at hS (Nat.le_of_ble_eq_true rfl) mzcS_242) h14 ?_
    refine g_ifge (tg := 65) rfl ms_540_65 hC (fun h15 hC => ?_) (fun h15 hC => ?_)
    · have hp := hp.1 h15
      refine g_lconst mzl_0 (g_goto (tg := 75) rfl ms_540_75 ?_)
      exact g_lret rfl (hr _ hC)
    · have hp := hp.2 h15
      refine g_aload_n rfl (g_aload_n rfl (g_getR (mz_at hS (Nat.le_of_ble_eq_true rfl) mzcS_232) mzcf_12_14 (mz_rb hR (Nat.le_of_ble_eq_true rfl) rfl mzcR_232_14) (g_iload_n rfl ?_)))
      obtain ⟨h16, hp⟩ := hp
      refine g_iald hS.1 (mz_at hS (Nat.le_of_ble_eq_true rfl) mzcS_242) h16 ?_
      have h17 := hp
      refine g_v2v (Nat.le_of_ble_eq_true rfl) (mz_at hS (Nat.le_of_ble_eq_true rfl) mzcS_232) (fun _ hq => cs_487 (Nat.le_trans (Nat.le_of_ble_eq_true rfl) hd) (hS.le (Nat.le_of_ble_eq_true rfl)) (hR.le (Nat.le_of_ble_eq_true rfl))  (mz_gI N 242 (mz_gI N 284 v1)) N h17 hq) ?_
      exact g_lret rfl (hr _ hC)
  · have hp := hp.2 h3
    refine mz_cs hC (fun h4 hC => ?_) (fun h4 hC => ?_)
    · have hp := hp.1 h4
      refine g_br (tg := 76) (by rw [h4]; rfl) ms_540_76 ?_
      refine g_aload_n rfl (g_getR (mz_at hS (Nat.le_of_ble_eq_true rfl) mzcS_232) mzcf_12_14 (mz_rb hR (Nat.le_of_ble_eq_true rfl) rfl mzcR_232_14) (g_iload_n rfl ?_))
      obtain ⟨h10, hp⟩ := hp
      refine g_iald hS.1 (mz_at hS (Nat.le_of_ble_eq_true rfl) mzcS_242) h10 ?_
      refine g_ifge (tg := 89) rfl ms_540_89 hC (fun h11 hC => ?_) (fun h11 hC => ?_)
      · have hp := hp.1 h11
        refine g_lconst mzl_0 (g_goto (tg := 103) rfl ms_540_103 ?_)
        exact g_lret rfl (hr _ hC)
      · have hp := hp.2 h11
        refine g_aload_n rfl (g_aload_n rfl (g_getR (mz_at hS (Nat.le_of_ble_eq_true rfl) mzcS_232) mzcf_12_41 (mz_rb hR (Nat.le_of_ble_eq_true rfl) rfl mzcR_232_41) (g_aload_n rfl (g_getR (mz_at hS (Nat.le_of_ble_eq_true rfl) mzcS_232) mzcf_12_14 (mz_rb hR (Nat.le_of_ble_eq_true rfl) rfl mzcR_232_14) (g_iload_n rfl ?_)))))
        obtain ⟨h12, hp⟩ := hp
        refine g_iald hS.1 (mz_at hS (Nat.le_of_ble_eq_true rfl) mzcS_242) h12 ?_
        have h13 := hp
        refine g_v3v (Nat.le_of_ble_eq_true rfl) (mz_at hS (Nat.le_of_ble_eq_true rfl) mzcS_232) (fun _ hq => cs_488 (Nat.le_trans (Nat.le_of_ble_eq_true rfl) hd) (hS.le (Nat.le_of_ble_eq_true rfl)) (hR.le (Nat.le_of_ble_eq_true rfl)) 261 (mz_at hS (Nat.le_of_ble_eq_true rfl) mzcS_261) (mz_gI N 242 (mz_gI N 284 v1)) N h13 hq) ?_
        exact g_lret rfl (hr _ hC)
    · have hp := hp.2 h4
      refine mz_cs hC (fun h5 hC => ?_) (fun h5 hC => ?_)
      · have hp := hp.1 h5
        refine g_br (tg := 104) (by rw [h5]; rfl) ms_540_104 ?_
        refine g_aload_n rfl (g_getR (mz_at hS (Nat.le_of_ble_eq_true rfl) mzcS_232) mzcf_12_56 (mz_rb hR (Nat.le_of_ble_eq_true rfl) rfl mzcR_232_56) (g_iload_n rfl ?_))
        have h9 := hp
        refine g_iald hS.1 (mz_at hS (Nat.le_of_ble_eq_true rfl) mzcS_272) h9 (g_i2l ?_)
        exact g_lret rfl (hr _ hC)
      · have hp := hp.2 h5
        refine mz_cs hC (fun h6 hC => ?_) (fun h6 hC => ?_)
        · refine g_br (tg := 112) (by rw [h6]; rfl) ms_540_112 ?_
          refine g_aload_n rfl (g_getI (mz_at hS (Nat.le_of_ble_eq_true rfl) mzcS_232) mzcf_12_61 (g_i2l ?_))
          exact g_lret rfl (hr _ hC)
        · refine mz_cs hC (fun h7 hC => ?_) (fun h7 hC => ?_)
          · refine g_br (tg := 118) (by rw [h7]; rfl) ms_540_118 ?_
            refine g_aload_n rfl (g_getI (mz_at hS (Nat.le_of_ble_eq_true rfl) mzcS_232) mzcf_12_62 (g_i2l ?_))
            exact g_lret rfl (hr _ hC)
          · refine mz_cs hC (fun h8 hC => ?_) (fun h8 hC => ?_)
            · refine g_br (tg := 124) (by rw [h8]; rfl) ms_540_124 ?_
              refine g_aload_n rfl (g_getI (mz_at hS (Nat.le_of_ble_eq_true rfl) mzcS_232) mzcf_12_54 (g_i2l ?_))
              exact g_lret rfl (hr _ hC)
            · refine g_br (tg := 130) ((mz_tsw_d (l := [0, 1, 2, 3, 4, 5]) (mz_rng 0 5) ⟨h3, h4, h5, h6, h7, h8, trivial⟩).trans (mz_tg_t rfl)) ms_540_130 ?_
              refine g_aload_n rfl (g_getL (mz_at hS (Nat.le_of_ble_eq_true rfl) mzcS_232) mzcf_12_124 ?_)
              exact g_lret rfl (hr _ hC)
theorem cs_540 (hd : 3 ≤ d) (hS : mz_extR S 342) (hR : mz_rok R 342)  (v1 : Int32) (N : mz_N) (hp : cp_540_0 v1 N) (hq : Q (.inl (some (.long (cf_540_0 v1 N)))) (mz_k S R N b t)) : mz_Ed (mz_X0 L xs) d 540 [.ref 232, .int v1] (mz_k S R N b t) Q :=
  by
  refine g_in mzq_540 (Nat.le_of_ble_eq_true rfl) (Nat.le_of_ble_eq_true rfl) (Nat.le_trans (Nat.le_of_ble_eq_true rfl) hd) ?_
  refine g_weak ?_ (cg_540_0 (d := d - 1) (by omega) hS hR v1 N (C0 := fun z => Q (.inl (some (.long z))) (mz_k S R N b t)) (fun _ h => h) hp hq)
  exact ⟨rfl, rfl, trivial⟩
/-! 539 KeptHouseModel.notePoints ()V -/
theorem ms_539_0 : mz_sf mk_539 0 = mk_539 := mz_sf_zero _
theorem ms_539_2 : mz_sf mk_539 2 = mt_539_2 := mz_sf_add ms_539_0 (t := 2) rfl rfl
theorem ms_539_41 : mz_sf mk_539 41 = mt_539_41 := mz_sf_add ms_539_2 (t := 39) rfl rfl
theorem ms_539_51 : mz_sf mk_539 51 = mt_539_51 := mz_sf_add ms_539_41 (t := 10) rfl rfl
theorem ms_539_57 : mz_sf mk_539 57 = mt_539_57 := mz_sf_add ms_539_51 (t := 6) rfl rfl
set_option maxRecDepth 100000 in
theorem mzq_539 : mz_PG0 539 = some (12, ⟨"KeptHouseModel", "notePoints", "()V"⟩, prog_14_method_118_code, 2, none, [], mk_539, []) := rfl
theorem cg_539_51 (hd : 3 ≤ d) (hS : mz_extR S 342) (hR : mz_rok R 342)  (v1 : Int32) (N : mz_N) {C0 : (mz_N) → Prop} (hr : ∀ (N2 : mz_N), C0 N2 → Q (.inl none) (mz_k S R N2 b t)) {C1 : ((Int32 × mz_N) ⊕ (mz_N)) → Prop} (hc1 : ∀ s2, C1 (.inl s2) → mz_G (d, mz_X0 L xs, none, [], mk_539, 2, Q) 2 mt_539_2 [(0, .ref 232), (1, .int s2.1)] [] false (mz_k S R s2.2 b t)) (hx1 : ∀ z, C1 (.inr z) → C0 z) (hp : cp_539_51 v1 N) (hC : C1 (cf_539_51 v1 N)) : mz_G (d, mz_X0 L xs, none, [], mk_539, 2, Q) 51 mt_539_51 [(0, .ref 232), (1, .int v1)] [] false (mz_k S R N b t) := by
  unfold cf_539_51 at hC
  unfold cp_539_51 at hp
  refine g_iinc rfl mzi_1 (Nat.le_of_ble_eq_true rfl) rfl (g_goto (tg := 2) rfl ms_539_2 ?_)
  refine g_weak ?_ (g_cl (hc1 ((v1 + 1), N) hC))
  exact ⟨rfl, rfl, trivial⟩
theorem cg_539_41 (hd : 3 ≤ d) (hS : mz_extR S 342) (hR : mz_rok R 342)  (v1 : Int32) (N : mz_N) {C0 : (mz_N) → Prop} (hr : ∀ (N2 : mz_N), C0 N2 → Q (.inl none) (mz_k S R N2 b t)) {C1 : ((Int32 × mz_N) ⊕ (mz_N)) → Prop} (hc1 : ∀ s2, C1 (.inl s2) → mz_G (d, mz_X0 L xs, none, [], mk_539, 2, Q) 2 mt_539_2 [(0, .ref 232), (1, .int s2.1)] [] false (mz_k S R s2.2 b t)) (hx1 : ∀ z, C1 (.inr z) → C0 z) (hp : cp_539_41 v1 N) (hC : C1 (cf_539_41 v1 N)) : mz_G (d, mz_X0 L xs, none, [], mk_539, 2, Q) 41 mt_539_41 [(0, .ref 232), (1, .int v1)] [] false (mz_k S R N b t) := by
  unfold cf_539_41 at hC
  unfold cp_539_41 at hp
  refine g_aload_n rfl (g_getR (mz_at hS (Nat.le_of_ble_eq_true rfl) mzcS_232) mzcf_12_78 (mz_rb hR (Nat.le_of_ble_eq_true rfl) rfl mzcR_232_78) (g_iload_n rfl (g_dup2 rfl rfl ?_)))
  obtain ⟨h1, hp⟩ := hp
  refine g_iald hS.1 (mz_at hS (Nat.le_of_ble_eq_true rfl) mzcS_285) h1 (g_iconst mzi_1 (g_iadd ?_))
  obtain ⟨h2, hp⟩ := hp
  refine g_iast (mz_at hS (Nat.le_of_ble_eq_true rfl) mzcS_285) h2 ?_
  refine g_weak ?_ (g_cl (cg_539_51 hd hS hR v1 (mz_wI N 285 v1 ((mz_gI N 285 v1) + 1)) hr hc1 hx1 hp hC))
  exact ⟨rfl, rfl, trivial⟩
theorem cb_539_2 (hd : 3 ≤ d) (hS : mz_extR S 342) (hR : mz_rok R 342)   (s : Int32 × mz_N) {C0 : (mz_N) → Prop} (hr : ∀ (N2 : mz_N), C0 N2 → Q (.inl none) (mz_k S R N2 b t)) {C1 : ((Int32 × mz_N) ⊕ (mz_N)) → Prop} (hc1 : ∀ s2, C1 (.inl s2) → mz_G (d, mz_X0 L xs, none, [], mk_539, 2, Q) 2 mt_539_2 [(0, .ref 232), (1, .int s2.1)] [] false (mz_k S R s2.2 b t)) (hx1 : ∀ z, C1 (.inr z) → C0 z) (hp : cd_539_2  s) (hC : C1 (cq_539_2  s)) : mz_G (d, mz_X0 L xs, none, [], mk_539, 2, Q) 2 mt_539_2 [(0, .ref 232), (1, .int s.1)] [] false (mz_k S R s.2 b t) := by
  unfold cq_539_2 at hC
  unfold cd_539_2 at hp
  refine g_iload_n rfl (g_bipush mzb_8 ?_)
  refine g_icge (tg := 57) rfl ms_539_57 hC (fun h1 hC => ?_) (fun h1 hC => ?_)
  · have hp := hp.1 h1
    refine g_aload_n rfl (g_getR (mz_at hS (Nat.le_of_ble_eq_true rfl) mzcS_232) mzcf_12_75 (mz_rb hR (Nat.le_of_ble_eq_true rfl) rfl mzcR_232_75) (g_iload_n rfl ?_))
    obtain ⟨h2, hp⟩ := hp
    obtain ⟨h3, hp⟩ := hp
    refine g_zald (mz_at hS (Nat.le_of_ble_eq_true rfl) mzcS_282) h2 h3 ?_
    refine g_zeq (tg := 51) rfl ms_539_51 hC (fun h4 hC => ?_) (fun h4 hC => ?_)
    · have hp := hp.1 h4
      refine g_aload_n rfl (g_getR (mz_at hS (Nat.le_of_ble_eq_true rfl) mzcS_232) mzcf_12_79 (mz_rb hR (Nat.le_of_ble_eq_true rfl) rfl mzcR_232_79) (g_bipush mzb_48 (g_iload_n rfl (g_imul (g_aload_n rfl (g_getR (mz_at hS (Nat.le_of_ble_eq_true rfl) mzcS_232) mzcf_12_78 (mz_rb hR (Nat.le_of_ble_eq_true rfl) rfl mzcR_232_78) (g_iload_n rfl ?_)))))))
      obtain ⟨h5, hp⟩ := hp
      refine g_iald hS.1 (mz_at hS (Nat.le_of_ble_eq_true rfl) mzcS_285) h5 (g_bipush mzb_48 (g_irem (by decide) (g_iadd (g_aload_n rfl (g_iload_n rfl ?_)))))
      obtain ⟨h6, hp⟩ := hp
      refine g_v2v (Nat.le_of_ble_eq_true rfl) (mz_at hS (Nat.le_of_ble_eq_true rfl) mzcS_232) (fun _ hq => cs_540 (Nat.le_trans (Nat.le_of_ble_eq_true rfl) hd) (hS.le (Nat.le_of_ble_eq_true rfl)) (hR.le (Nat.le_of_ble_eq_true rfl))  s.1 s.2 h6 hq) ?_
      obtain ⟨h7, hp⟩ := hp
      refine g_last (mz_at hS (Nat.le_of_ble_eq_true rfl) mzcS_286) h7 ?_
      refine g_weak ?_ (g_cl (cg_539_41 hd hS hR s.1 (mz_wL s.2 286 ((48 * s.1) + (mz_irem (mz_gI s.2 285 s.1) 48)) (cf_540_0 s.1 s.2)) hr hc1 hx1 hp hC))
      exact ⟨rfl, rfl, trivial⟩
    · have hp := hp.2 h4
      refine g_weak ?_ (g_cl (cg_539_51 hd hS hR s.1 s.2 hr hc1 hx1 hp hC))
      exact ⟨rfl, rfl, trivial⟩
  · have hp := hp.2 h1
    exact g_vret rfl (hr _ (hx1 _ hC))
theorem cg_539_2 (hd : 3 ≤ d) (hS : mz_extR S 342) (hR : mz_rok R 342)  (v1 : Int32) (N : mz_N) {C0 : (mz_N) → Prop} (hr : ∀ (N2 : mz_N), C0 N2 → Q (.inl none) (mz_k S R N2 b t)) (hp : cp_539_2 v1 N) (hC : C0 (cf_539_2 v1 N)) : mz_G (d, mz_X0 L xs, none, [], mk_539, 2, Q) 2 mt_539_2 [(0, .ref 232), (1, .int v1)] [] false (mz_k S R N b t) := by
  obtain ⟨n, hn⟩ := hp
  exact g_loop (G := fun s => mz_G (d, mz_X0 L xs, none, [], mk_539, 2, Q) 2 mt_539_2 [(0, .ref 232), (1, .int s.1)] [] false (mz_k S R s.2 b t)) (C := C0) (fun C2 hc hx s hP hC => cb_539_2 hd hS hR  s hr hc hx hP hC) n (v1, N) hn hC
theorem cg_539_0 (hd : 3 ≤ d) (hS : mz_extR S 342) (hR : mz_rok R 342)  (N : mz_N) {C0 : (mz_N) → Prop} (hr : ∀ (N2 : mz_N), C0 N2 → Q (.inl none) (mz_k S R N2 b t)) (hp : cp_539_0 N) (hC : C0 (cf_539_0 N)) : mz_G (d, mz_X0 L xs, none, [], mk_539, 2, Q) 0 mk_539 [(0, .ref 232)] [] true (mz_k S R N b t) := by
  unfold cf_539_0 at hC
  unfold cp_539_0 at hp
  refine g_iconst mzi_0 (g_istore_n (Nat.le_of_ble_eq_true rfl) rfl ?_)
  refine g_weak ?_ (g_cl (cg_539_2 hd hS hR 0 N hr hp hC))
  exact ⟨rfl, rfl, trivial⟩
theorem cs_539 (hd : 4 ≤ d) (hS : mz_extR S 342) (hR : mz_rok R 342)  (N : mz_N) (hp : cp_539_0 N) (hq : Q (.inl none) (mz_k S R (cf_539_0 N) b t)) : mz_Ed (mz_X0 L xs) d 539 [.ref 232] (mz_k S R N b t) Q :=
  by
  refine g_in mzq_539 (Nat.le_of_ble_eq_true rfl) (Nat.le_of_ble_eq_true rfl) (Nat.le_trans (Nat.le_of_ble_eq_true rfl) hd) ?_
  refine g_weak ?_ (cg_539_0 (d := d - 1) (by omega) hS hR N (C0 := fun z => Q (.inl none) (mz_k S R z b t)) (fun _ h => h) hp hq)
  exact ⟨rfl, trivial⟩
/-! 543 KeptHouseModel.addToBills ()V -/
theorem ms_543_0 : mz_sf mk_543 0 = mk_543 := mz_sf_zero _
theorem ms_543_2 : mz_sf mk_543 2 = mt_543_2 := mz_sf_add ms_543_0 (t := 2) rfl rfl
theorem ms_543_23 : mz_sf mk_543 23 = mt_543_23 := mz_sf_add ms_543_2 (t := 21) rfl rfl
theorem ms_543_29 : mz_sf mk_543 29 = mt_543_29 := mz_sf_add ms_543_23 (t := 6) rfl rfl
set_option maxRecDepth 100000 in
theorem mzq_543 : mz_PG0 543 = some (12, ⟨"KeptHouseModel", "addToBills", "()V"⟩, prog_14_method_154_code, 2, none, [], mk_543, []) := rfl
theorem cb_543_2 (hd : 0 ≤ d) (hS : mz_extR S 342) (hR : mz_rok R 342)   (s : Int32 × mz_N) {C0 : (mz_N) → Prop} (hr : ∀ (N2 : mz_N), C0 N2 → Q (.inl none) (mz_k S R N2 b t)) {C1 : ((Int32 × mz_N) ⊕ (mz_N)) → Prop} (hc1 : ∀ s2, C1 (.inl s2) → mz_G (d, mz_X0 L xs, none, [], mk_543, 2, Q) 2 mt_543_2 [(0, .ref 232), (1, .int s2.1)] [] false (mz_k S R s2.2 b t)) (hx1 : ∀ z, C1 (.inr z) → C0 z) (hp : cd_543_2  s) (hC : C1 (cq_543_2  s)) : mz_G (d, mz_X0 L xs, none, [], mk_543, 2, Q) 2 mt_543_2 [(0, .ref 232), (1, .int s.1)] [] false (mz_k S R s.2 b t) := by
  unfold cq_543_2 at hC
  unfold cd_543_2 at hp
  refine g_iload_n rfl (g_bipush mzb_10 ?_)
  refine g_icge (tg := 29) rfl ms_543_29 hC (fun h1 hC => ?_) (fun h1 hC => ?_)
  · have hp := hp.1 h1
    refine g_aload_n rfl (g_getR (mz_at hS (Nat.le_of_ble_eq_true rfl) mzcS_232) mzcf_12_121 (mz_rb hR (Nat.le_of_ble_eq_true rfl) rfl mzcR_232_121) (g_iload_n rfl (g_dup2 rfl rfl ?_)))
    obtain ⟨h2, hp⟩ := hp
    refine g_lald (mz_at hS (Nat.le_of_ble_eq_true rfl) mzcS_325) h2 (g_aload_n rfl (g_getR (mz_at hS (Nat.le_of_ble_eq_true rfl) mzcS_232) mzcf_12_127 (mz_rb hR (Nat.le_of_ble_eq_true rfl) rfl mzcR_232_127) (g_iload_n rfl ?_)))
    obtain ⟨h3, hp⟩ := hp
    refine g_lald (mz_at hS (Nat.le_of_ble_eq_true rfl) mzcS_327) h3 (g_ladd ?_)
    have h4 := hp
    refine g_last (mz_at hS (Nat.le_of_ble_eq_true rfl) mzcS_325) h4 (g_iinc rfl mzi_1 (Nat.le_of_ble_eq_true rfl) rfl (g_goto (tg := 2) rfl ms_543_2 ?_))
    refine g_weak ?_ (g_cl (hc1 ((s.1 + 1), mz_wL s.2 325 s.1 ((mz_gL s.2 325 s.1) + (mz_gL s.2 327 s.1))) hC))
    exact ⟨rfl, rfl, trivial⟩
  · have hp := hp.2 h1
    exact g_vret rfl (hr _ (hx1 _ hC))
theorem cg_543_2 (hd : 0 ≤ d) (hS : mz_extR S 342) (hR : mz_rok R 342)  (v1 : Int32) (N : mz_N) {C0 : (mz_N) → Prop} (hr : ∀ (N2 : mz_N), C0 N2 → Q (.inl none) (mz_k S R N2 b t)) (hp : cp_543_2 v1 N) (hC : C0 (cf_543_2 v1 N)) : mz_G (d, mz_X0 L xs, none, [], mk_543, 2, Q) 2 mt_543_2 [(0, .ref 232), (1, .int v1)] [] false (mz_k S R N b t) := by
  obtain ⟨n, hn⟩ := hp
  exact g_loop (G := fun s => mz_G (d, mz_X0 L xs, none, [], mk_543, 2, Q) 2 mt_543_2 [(0, .ref 232), (1, .int s.1)] [] false (mz_k S R s.2 b t)) (C := C0) (fun C2 hc hx s hP hC => cb_543_2 hd hS hR  s hr hc hx hP hC) n (v1, N) hn hC
theorem cg_543_0 (hd : 0 ≤ d) (hS : mz_extR S 342) (hR : mz_rok R 342)  (N : mz_N) {C0 : (mz_N) → Prop} (hr : ∀ (N2 : mz_N), C0 N2 → Q (.inl none) (mz_k S R N2 b t)) (hp : cp_543_0 N) (hC : C0 (cf_543_0 N)) : mz_G (d, mz_X0 L xs, none, [], mk_543, 2, Q) 0 mk_543 [(0, .ref 232)] [] true (mz_k S R N b t) := by
  unfold cf_543_0 at hC
  unfold cp_543_0 at hp
  refine g_iconst mzi_0 (g_istore_n (Nat.le_of_ble_eq_true rfl) rfl ?_)
  refine g_weak ?_ (g_cl (cg_543_2 hd hS hR 0 N hr hp hC))
  exact ⟨rfl, rfl, trivial⟩
theorem cs_543 (hd : 1 ≤ d) (hS : mz_extR S 342) (hR : mz_rok R 342)  (N : mz_N) (hp : cp_543_0 N) (hq : Q (.inl none) (mz_k S R (cf_543_0 N) b t)) : mz_Ed (mz_X0 L xs) d 543 [.ref 232] (mz_k S R N b t) Q :=
  by
  refine g_in mzq_543 (Nat.le_of_ble_eq_true rfl) (Nat.le_of_ble_eq_true rfl) (Nat.le_trans (Nat.le_of_ble_eq_true rfl) hd) ?_
  refine g_weak ?_ (cg_543_0 (d := d - 1) (by omega) hS hR N (C0 := fun z => Q (.inl none) (mz_k S R z b t)) (fun _ h => h) hp hq)
  exact ⟨rfl, trivial⟩
/-! 544 KeptHouseModel.shareAreas (J)V -/
theorem ms_544_0 : mz_sf mk_544 0 = mk_544 := mz_sf_zero _
theorem ms_544_2 : mz_sf mk_544 2 = mt_544_2 := mz_sf_add ms_544_0 (t := 2) rfl rfl
theorem ms_544_21 : mz_sf mk_544 21 = mt_544_21 := mz_sf_add ms_544_2 (t := 19) rfl rfl
theorem ms_544_27 : mz_sf mk_544 27 = mt_544_27 := mz_sf_add ms_544_21 (t := 6) rfl rfl
theorem ms_544_52 : mz_sf mk_544 52 = mt_544_52 := mz_sf_add ms_544_27 (t := 25) rfl rfl
theorem ms_544_62 : mz_sf mk_544 62 = mt_544_62 := mz_sf_add ms_544_52 (t := 10) rfl rfl
set_option maxRecDepth 100000 in
theorem mzq_544 : mz_PG0 544 = some (12, ⟨"KeptHouseModel", "shareAreas", "(J)V"⟩, prog_14_method_153_code, 4, none, [], mk_544, []) := rfl
theorem cg_544_62 (hd : 1 ≤ d) (hS : mz_extR S 342) (hR : mz_rok R 342)  (N : mz_N) {C0 : (mz_N) → Prop} (hr : ∀ (N2 : mz_N), C0 N2 → Q (.inl none) (mz_k S R N2 b t)) (hp : cp_544_62 N) (hC : C0 (cf_544_62 N)) : mz_G (d, mz_X0 L xs, none, [], mk_544, 4, Q) 62 mt_544_62 [] [] false (mz_k S R N b t) := by
  unfold cf_544_62 at hC
  unfold cp_544_62 at hp
  exact g_vret rfl (hr _ hC)
theorem cb_544_2 (hd : 1 ≤ d) (hS : mz_extR S 342) (hR : mz_rok R 342)  (v1 : Int64) (s : Int32 × mz_N) {C0 : (mz_N) → Prop} (hr : ∀ (N2 : mz_N), C0 N2 → Q (.inl none) (mz_k S R N2 b t)) {C1 : ((Int32 × mz_N) ⊕ (mz_N)) → Prop} (hc1 : ∀ s2, C1 (.inl s2) → mz_G (d, mz_X0 L xs, none, [], mk_544, 4, Q) 2 mt_544_2 [(0, .ref 232), (1, .long v1), (3, .int s2.1)] [] false (mz_k S R s2.2 b t)) (hx1 : ∀ z, C1 (.inr z) → C0 z) (hp : cd_544_2 v1 s) (hC : C1 (cq_544_2 v1 s)) : mz_G (d, mz_X0 L xs, none, [], mk_544, 4, Q) 2 mt_544_2 [(0, .ref 232), (1, .long v1), (3, .int s.1)] [] false (mz_k S R s.2 b t) := by
  unfold cq_544_2 at hC
  unfold cd_544_2 at hp
  refine g_iload_n rfl (g_bipush mzb_10 ?_)
  refine g_icge (tg := 27) rfl ms_544_27 hC (fun h1 hC => ?_) (fun h1 hC => ?_)
  · have hp := hp.1 h1
    refine g_aload_n rfl (g_getR (mz_at hS (Nat.le_of_ble_eq_true rfl) mzcS_232) mzcf_12_126 (mz_rb hR (Nat.le_of_ble_eq_true rfl) rfl mzcR_232_126) (g_iload_n rfl (g_aload_n rfl (g_getR (mz_at hS (Nat.le_of_ble_eq_true rfl) mzcS_232) mzcf_12_15 (mz_rb hR (Nat.le_of_ble_eq_true rfl) rfl mzcR_232_15) (g_iload_n rfl ?_)))))
    obtain ⟨h2, hp⟩ := hp
    refine g_iald hS.1 (mz_at hS (Nat.le_of_ble_eq_true rfl) mzcS_243) h2 (g_i2l ?_)
    have h3 := hp
    refine g_last (mz_at hS (Nat.le_of_ble_eq_true rfl) mzcS_326) h3 (g_iinc rfl mzi_1 (Nat.le_of_ble_eq_true rfl) rfl (g_goto (tg := 2) rfl ms_544_2 ?_))
    refine g_weak ?_ (g_cl (hc1 ((s.1 + 1), mz_wL s.2 326 s.1 ((mz_gI s.2 243 s.1).toInt64)) hC))
    exact ⟨rfl, rfl, rfl, trivial⟩
  · have hp := hp.2 h1
    refine g_aload_n rfl (g_lload_n rfl (g_aload_n rfl (g_getR (mz_at hS (Nat.le_of_ble_eq_true rfl) mzcS_232) mzcf_12_126 (mz_rb hR (Nat.le_of_ble_eq_true rfl) rfl mzcR_232_126) (g_bipush mzb_10 (g_aload_n rfl (g_getR (mz_at hS (Nat.le_of_ble_eq_true rfl) mzcS_232) mzcf_12_127 (mz_rb hR (Nat.le_of_ble_eq_true rfl) rfl mzcR_232_127) ?_))))))
    obtain ⟨h4, hp⟩ := hp
    refine g_v5v (Nat.le_of_ble_eq_true rfl) (mz_at hS (Nat.le_of_ble_eq_true rfl) mzcS_232) (fun _ hq => cs_529 (Nat.le_trans (Nat.le_of_ble_eq_true rfl) hd) (hS.le (Nat.le_of_ble_eq_true rfl)) (hR.le (Nat.le_of_ble_eq_true rfl)) 326 41 327 (mz_at hS (Nat.le_of_ble_eq_true rfl) mzcS_326) (mz_at hS (Nat.le_of_ble_eq_true rfl) mzcS_327) v1 10 s.2 h4 hq) ?_
    refine g_zeq (tg := 52) rfl ms_544_52 hC (fun h5 hC => ?_) (fun h5 hC => ?_)
    · have hp := hp.1 h5
      refine g_aload_n rfl ?_
      have h6 := hp
      refine g_v1n (Nat.le_of_ble_eq_true rfl) (mz_at hS (Nat.le_of_ble_eq_true rfl) mzcS_232) (fun _ hq => cs_543 (Nat.le_trans (Nat.le_of_ble_eq_true rfl) hd) (hS.le (Nat.le_of_ble_eq_true rfl)) (hR.le (Nat.le_of_ble_eq_true rfl))  ((cf_529_0 326 41 327 v1 10 s.2).2) h6 hq) (g_goto (tg := 62) rfl ms_544_62 ?_)
      exact g_vret rfl (hr _ (hx1 _ hC))
    · have hp := hp.2 h5
      refine g_aload_n rfl (g_dup rfl (g_getL (mz_at hS (Nat.le_of_ble_eq_true rfl) mzcS_232) mzcf_12_123 (g_lload_n rfl (g_ladd (g_putL (mz_at hS (Nat.le_of_ble_eq_true rfl) mzcS_232) mzcf_12_123 ?_)))))
      refine g_weak ?_ (g_cl (cg_544_62 hd hS hR (mz_pL ((cf_529_0 326 41 327 v1 10 s.2).2) 232 123 ((((cf_529_0 326 41 327 v1 10 s.2).2).2 232 123) + v1)) hr hp (hx1 _ hC)))
      exact trivial
theorem cg_544_2 (hd : 1 ≤ d) (hS : mz_extR S 342) (hR : mz_rok R 342)  (v1 : Int64) (v3 : Int32) (N : mz_N) {C0 : (mz_N) → Prop} (hr : ∀ (N2 : mz_N), C0 N2 → Q (.inl none) (mz_k S R N2 b t)) (hp : cp_544_2 v1 v3 N) (hC : C0 (cf_544_2 v1 v3 N)) : mz_G (d, mz_X0 L xs, none, [], mk_544, 4, Q) 2 mt_544_2 [(0, .ref 232), (1, .long v1), (3, .int v3)] [] false (mz_k S R N b t) := by
  obtain ⟨n, hn⟩ := hp
  exact g_loop (G := fun s => mz_G (d, mz_X0 L xs, none, [], mk_544, 4, Q) 2 mt_544_2 [(0, .ref 232), (1, .long v1), (3, .int s.1)] [] false (mz_k S R s.2 b t)) (C := C0) (fun C2 hc hx s hP hC => cb_544_2 hd hS hR v1 s hr hc hx hP hC) n (v3, N) hn hC
theorem cg_544_0 (hd : 1 ≤ d) (hS : mz_extR S 342) (hR : mz_rok R 342)  (v1 : Int64) (N : mz_N) {C0 : (mz_N) → Prop} (hr : ∀ (N2 : mz_N), C0 N2 → Q (.inl none) (mz_k S R N2 b t)) (hp : cp_544_0 v1 N) (hC : C0 (cf_544_0 v1 N)) : mz_G (d, mz_X0 L xs, none, [], mk_544, 4, Q) 0 mk_544 [(0, .ref 232), (1, .long v1)] [] true (mz_k S R N b t) := by
  unfold cf_544_0 at hC
  unfold cp_544_0 at hp
  refine g_iconst mzi_0 (g_istore_n (Nat.le_of_ble_eq_true rfl) rfl ?_)
  refine g_weak ?_ (g_cl (cg_544_2 hd hS hR v1 0 N hr hp hC))
  exact ⟨rfl, rfl, rfl, trivial⟩
theorem cs_544 (hd : 2 ≤ d) (hS : mz_extR S 342) (hR : mz_rok R 342)  (v1 : Int64) (N : mz_N) (hp : cp_544_0 v1 N) (hq : Q (.inl none) (mz_k S R (cf_544_0 v1 N) b t)) : mz_Ed (mz_X0 L xs) d 544 [.ref 232, .long v1] (mz_k S R N b t) Q :=
  by
  refine g_in mzq_544 (Nat.le_of_ble_eq_true rfl) (Nat.le_of_ble_eq_true rfl) (Nat.le_trans (Nat.le_of_ble_eq_true rfl) hd) ?_
  refine g_weak ?_ (cg_544_0 (d := d - 1) (by omega) hS hR v1 N (C0 := fun z => Q (.inl none) (mz_k S R z b t)) (fun _ h => h) hp hq)
  exact ⟨rfl, rfl, trivial⟩
/-! 542 KeptHouseModel.shareOut (J[J)V -/
theorem ms_542_0 : mz_sf mk_542 0 = mk_542 := mz_sf_zero _
theorem ms_542_22 : mz_sf mk_542 22 = mt_542_22 := mz_sf_add ms_542_0 (t := 22) rfl rfl
theorem ms_542_27 : mz_sf mk_542 27 = mt_542_27 := mz_sf_add ms_542_22 (t := 5) rfl rfl
set_option maxRecDepth 100000 in
theorem mzq_542 : mz_PG0 542 = some (12, ⟨"KeptHouseModel", "shareOut", "(J[J)V"⟩, prog_14_method_152_code, 4, none, [], mk_542, []) := rfl
theorem cg_542_0 (hd : 2 ≤ d) (hS : mz_extR S 342) (hR : mz_rok R 342) (a2 : Nat) (hs2 : S[a2]? = some (1, 11, [])) (v1 : Int64) (N : mz_N) {C0 : (mz_N) → Prop} (hr : ∀ (N2 : mz_N), C0 N2 → Q (.inl none) (mz_k S R N2 b t)) (hp : cp_542_0 a2 v1 N) (hC : C0 (cf_542_0 a2 v1 N)) : mz_G (d, mz_X0 L xs, none, [], mk_542, 4, Q) 0 mk_542 [(0, .ref 232), (1, .long v1), (3, .ref a2)] [] true (mz_k S R N b t) := by
  unfold cf_542_0 at hC
  unfold cp_542_0 at hp
  refine g_aload_n rfl (g_lload_n rfl (g_aload_n rfl (g_bipush mzb_10 (g_aload_n rfl (g_getR (mz_at hS (Nat.le_of_ble_eq_true rfl) mzcS_232) mzcf_12_127 (mz_rb hR (Nat.le_of_ble_eq_true rfl) rfl mzcR_232_127) ?_)))))
  obtain ⟨h1, hp⟩ := hp
  refine g_v5v (Nat.le_of_ble_eq_true rfl) (mz_at hS (Nat.le_of_ble_eq_true rfl) mzcS_232) (fun _ hq => cs_529 (Nat.le_trans (Nat.le_of_ble_eq_true rfl) hd) (hS.le (Nat.le_of_ble_eq_true rfl)) (hR.le (Nat.le_of_ble_eq_true rfl)) a2 11 327 hs2 (mz_at hS (Nat.le_of_ble_eq_true rfl) mzcS_327) v1 10 N h1 hq) ?_
  refine g_zeq (tg := 22) rfl ms_542_22 hC (fun h2 hC => ?_) (fun h2 hC => ?_)
  · have hp := hp.1 h2
    refine g_aload_n rfl ?_
    have h3 := hp
    refine g_v1n (Nat.le_of_ble_eq_true rfl) (mz_at hS (Nat.le_of_ble_eq_true rfl) mzcS_232) (fun _ hq => cs_543 (Nat.le_trans (Nat.le_of_ble_eq_true rfl) hd) (hS.le (Nat.le_of_ble_eq_true rfl)) (hR.le (Nat.le_of_ble_eq_true rfl))  ((cf_529_0 a2 11 327 v1 10 N).2) h3 hq) (g_goto (tg := 27) rfl ms_542_27 ?_)
    exact g_vret rfl (hr _ hC)
  · have hp := hp.2 h2
    refine g_aload_n rfl (g_lload_n rfl ?_)
    have h4 := hp
    refine g_v2n (Nat.le_of_ble_eq_true rfl) (mz_at hS (Nat.le_of_ble_eq_true rfl) mzcS_232) (fun _ hq => cs_544 (Nat.le_trans (Nat.le_of_ble_eq_true rfl) hd) (hS.le (Nat.le_of_ble_eq_true rfl)) (hR.le (Nat.le_of_ble_eq_true rfl))  v1 ((cf_529_0 a2 11 327 v1 10 N).2) h4 hq) ?_
    exact g_vret rfl (hr _ hC)
theorem cs_542 (hd : 3 ≤ d) (hS : mz_extR S 342) (hR : mz_rok R 342) (a2 : Nat) (hs2 : S[a2]? = some (1, 11, [])) (v1 : Int64) (N : mz_N) (hp : cp_542_0 a2 v1 N) (hq : Q (.inl none) (mz_k S R (cf_542_0 a2 v1 N) b t)) : mz_Ed (mz_X0 L xs) d 542 [.ref 232, .long v1, .ref a2] (mz_k S R N b t) Q :=
  by
  refine g_in mzq_542 (Nat.le_of_ble_eq_true rfl) (Nat.le_of_ble_eq_true rfl) (Nat.le_trans (Nat.le_of_ble_eq_true rfl) hd) ?_
  refine g_weak ?_ (cg_542_0 (d := d - 1) (by omega) hS hR a2 hs2 v1 N (C0 := fun z => Q (.inl none) (mz_k S R z b t)) (fun _ h => h) hp hq)
  exact ⟨rfl, rfl, rfl, trivial⟩
/-! 541 KeptHouseModel.bills ()V -/
theorem ms_541_0 : mz_sf mk_541 0 = mk_541 := mz_sf_zero _
theorem ms_541_2 : mz_sf mk_541 2 = mt_541_2 := mz_sf_add ms_541_0 (t := 2) rfl rfl
theorem ms_541_21 : mz_sf mk_541 21 = mt_541_21 := mz_sf_add ms_541_2 (t := 19) rfl rfl
theorem ms_541_28 : mz_sf mk_541 28 = mt_541_28 := mz_sf_add ms_541_21 (t := 7) rfl rfl
theorem ms_541_55 : mz_sf mk_541 55 = mt_541_55 := mz_sf_add ms_541_28 (t := 27) rfl rfl
theorem ms_541_61 : mz_sf mk_541 61 = mt_541_61 := mz_sf_add ms_541_55 (t := 6) rfl rfl
theorem ms_541_94 : mz_sf mk_541 94 = mt_541_94 := mz_sf_add ms_541_61 (t := 33) rfl rfl
theorem ms_541_121 : mz_sf mk_541 121 = mt_541_121 := mz_sf_add ms_541_94 (t := 27) rfl rfl
theorem ms_541_150 : mz_sf mk_541 150 = mt_541_150 := mz_sf_add ms_541_121 (t := 29) rfl rfl
theorem ms_541_190 : mz_sf mk_541 190 = mt_541_190 := mz_sf_add ms_541_150 (t := 40) rfl rfl
theorem ms_541_193 : mz_sf mk_541 193 = mt_541_193 := mz_sf_add ms_541_190 (t := 3) rfl rfl
theorem ms_541_216 : mz_sf mk_541 216 = mt_541_216 := mz_sf_add ms_541_193 (t := 23) rfl rfl
theorem ms_541_230 : mz_sf mk_541 230 = mt_541_230 := mz_sf_add ms_541_216 (t := 14) rfl rfl
theorem ms_541_243 : mz_sf mk_541 243 = mt_541_243 := mz_sf_add ms_541_230 (t := 13) rfl rfl
theorem ms_541_267 : mz_sf mk_541 267 = mt_541_267 := mz_sf_add ms_541_243 (t := 24) rfl rfl
theorem ms_541_273 : mz_sf mk_541 273 = mt_541_273 := mz_sf_add ms_541_267 (t := 6) rfl rfl
set_option maxRecDepth 100000 in
theorem mzq_541 : mz_PG0 541 = some (12, ⟨"KeptHouseModel", "bills", "()V"⟩, prog_14_method_151_code, 14, none, [], mk_541, []) := rfl
theorem cb_541_243 (hd : 3 ≤ d) (hS : mz_extR S 342) (hR : mz_rok R 342)   (s : Int32 × mz_N) {C0 : (mz_N) → Prop} (hr : ∀ (N2 : mz_N), C0 N2 → Q (.inl none) (mz_k S R N2 b t)) {C1 : ((Int32 × mz_N) ⊕ (mz_N)) → Prop} (hc1 : ∀ s2, C1 (.inl s2) → mz_G (d, mz_X0 L xs, none, [], mk_541, 14, Q) 243 mt_541_243 [(0, .ref 232), (13, .int s2.1)] [] false (mz_k S R s2.2 b t)) (hx1 : ∀ z, C1 (.inr z) → C0 z) (hp : cd_541_243  s) (hC : C1 (cq_541_243  s)) : mz_G (d, mz_X0 L xs, none, [], mk_541, 14, Q) 243 mt_541_243 [(0, .ref 232), (13, .int s.1)] [] false (mz_k S R s.2 b t) := by
  unfold cq_541_243 at hC
  unfold cd_541_243 at hp
  refine g_iload rfl (g_bipush mzb_10 ?_)
  refine g_icge (tg := 273) rfl ms_541_273 hC (fun h1 hC => ?_) (fun h1 hC => ?_)
  · have hp := hp.1 h1
    refine g_aload_n rfl (g_getR (mz_at hS (Nat.le_of_ble_eq_true rfl) mzcS_232) mzcf_12_120 (mz_rb hR (Nat.le_of_ble_eq_true rfl) rfl mzcR_232_120) (g_iload rfl (g_dup2 rfl rfl ?_)))
    obtain ⟨h2, hp⟩ := hp
    refine g_lald (mz_at hS (Nat.le_of_ble_eq_true rfl) mzcS_324) h2 (g_aload_n rfl (g_getR (mz_at hS (Nat.le_of_ble_eq_true rfl) mzcS_232) mzcf_12_121 (mz_rb hR (Nat.le_of_ble_eq_true rfl) rfl mzcR_232_121) (g_iload rfl ?_)))
    obtain ⟨h3, hp⟩ := hp
    refine g_lald (mz_at hS (Nat.le_of_ble_eq_true rfl) mzcS_325) h3 (g_lsub ?_)
    have h4 := hp
    refine g_last (mz_at hS (Nat.le_of_ble_eq_true rfl) mzcS_324) h4 (g_iinc rfl mzi_1 (Nat.le_of_ble_eq_true rfl) rfl (g_goto (tg := 243) rfl ms_541_243 ?_))
    refine g_weak ?_ (g_cl (hc1 ((s.1 + 1), mz_wL s.2 324 s.1 ((mz_gL s.2 324 s.1) - (mz_gL s.2 325 s.1))) hC))
    exact ⟨rfl, rfl, trivial⟩
  · have hp := hp.2 h1
    exact g_vret rfl (hr _ (hx1 _ hC))
theorem cg_541_243 (hd : 3 ≤ d) (hS : mz_extR S 342) (hR : mz_rok R 342)  (v13 : Int32) (N : mz_N) {C0 : (mz_N) → Prop} (hr : ∀ (N2 : mz_N), C0 N2 → Q (.inl none) (mz_k S R N2 b t)) (hp : cp_541_243 v13 N) (hC : C0 (cf_541_243 v13 N)) : mz_G (d, mz_X0 L xs, none, [], mk_541, 14, Q) 243 mt_541_243 [(0, .ref 232), (13, .int v13)] [] false (mz_k S R N b t) := by
  obtain ⟨n, hn⟩ := hp
  exact g_loop (G := fun s => mz_G (d, mz_X0 L xs, none, [], mk_541, 14, Q) 243 mt_541_243 [(0, .ref 232), (13, .int s.1)] [] false (mz_k S R s.2 b t)) (C := C0) (fun C2 hc hx s hP hC => cb_541_243 hd hS hR  s hr hc hx hP hC) n (v13, N) hn hC
theorem cb_541_193 (hd : 3 ≤ d) (hS : mz_extR S 342) (hR : mz_rok R 342)   (s : Int32 × mz_N) {C0 : (mz_N) → Prop} (hr : ∀ (N2 : mz_N), C0 N2 → Q (.inl none) (mz_k S R N2 b t)) {C1 : ((Int32 × mz_N) ⊕ (mz_N)) → Prop} (hc1 : ∀ s2, C1 (.inl s2) → mz_G (d, mz_X0 L xs, none, [], mk_541, 14, Q) 193 mt_541_193 [(0, .ref 232), (13, .int s2.1)] [] false (mz_k S R s2.2 b t)) (hx1 : ∀ z, C1 (.inr z) → C0 z) (hp : cd_541_193  s) (hC : C1 (cq_541_193  s)) : mz_G (d, mz_X0 L xs, none, [], mk_541, 14, Q) 193 mt_541_193 [(0, .ref 232), (13, .int s.1)] [] false (mz_k S R s.2 b t) := by
  unfold cq_541_193 at hC
  unfold cd_541_193 at hp
  refine g_iload rfl (g_bipush mzb_11 ?_)
  refine g_icge (tg := 230) rfl ms_541_230 hC (fun h1 hC => ?_) (fun h1 hC => ?_)
  · have hp := hp.1 h1
    refine g_aload_n rfl (g_getR (mz_at hS (Nat.le_of_ble_eq_true rfl) mzcS_232) mzcf_12_117 (mz_rb hR (Nat.le_of_ble_eq_true rfl) rfl mzcR_232_117) (g_iload rfl (g_lconst mzl_0 ?_)))
    obtain ⟨h2, hp⟩ := hp
    refine g_last (mz_at hS (Nat.le_of_ble_eq_true rfl) mzcS_321) h2 (g_aload_n rfl (g_getR (mz_at hS (Nat.le_of_ble_eq_true rfl) mzcS_232) mzcf_12_118 (mz_rb hR (Nat.le_of_ble_eq_true rfl) rfl mzcR_232_118) (g_iload rfl (g_lconst mzl_0 ?_))))
    obtain ⟨h3, hp⟩ := hp
    refine g_last (mz_at hS (Nat.le_of_ble_eq_true rfl) mzcS_322) h3 (g_aload_n rfl (g_getR (mz_at hS (Nat.le_of_ble_eq_true rfl) mzcS_232) mzcf_12_119 (mz_rb hR (Nat.le_of_ble_eq_true rfl) rfl mzcR_232_119) (g_iload rfl (g_lconst mzl_0 ?_))))
    have h4 := hp
    refine g_last (mz_at hS (Nat.le_of_ble_eq_true rfl) mzcS_323) h4 (g_iinc rfl mzi_1 (Nat.le_of_ble_eq_true rfl) rfl (g_goto (tg := 193) rfl ms_541_193 ?_))
    refine g_weak ?_ (g_cl (hc1 ((s.1 + 1), mz_wL (mz_wL (mz_wL s.2 321 s.1 0) 322 s.1 0) 323 s.1 0) hC))
    exact ⟨rfl, rfl, trivial⟩
  · have hp := hp.2 h1
    refine g_aload_n rfl (g_lconst mzl_0 (g_putL (mz_at hS (Nat.le_of_ble_eq_true rfl) mzcS_232) mzcf_12_124 (g_aload_n rfl (g_lconst mzl_0 (g_putL (mz_at hS (Nat.le_of_ble_eq_true rfl) mzcS_232) mzcf_12_125 (g_iconst mzi_0 (g_istore (Nat.le_of_ble_eq_true rfl) rfl ?_)))))))
    refine g_weak ?_ (g_cl (cg_541_243 hd hS hR 0 (mz_pL (mz_pL s.2 232 124 0) 232 125 0) hr hp (hx1 _ hC)))
    exact ⟨rfl, rfl, trivial⟩
theorem cg_541_193 (hd : 3 ≤ d) (hS : mz_extR S 342) (hR : mz_rok R 342)  (v13 : Int32) (N : mz_N) {C0 : (mz_N) → Prop} (hr : ∀ (N2 : mz_N), C0 N2 → Q (.inl none) (mz_k S R N2 b t)) (hp : cp_541_193 v13 N) (hC : C0 (cf_541_193 v13 N)) : mz_G (d, mz_X0 L xs, none, [], mk_541, 14, Q) 193 mt_541_193 [(0, .ref 232), (13, .int v13)] [] false (mz_k S R N b t) := by
  obtain ⟨n, hn⟩ := hp
  exact g_loop (G := fun s => mz_G (d, mz_X0 L xs, none, [], mk_541, 14, Q) 193 mt_541_193 [(0, .ref 232), (13, .int s.1)] [] false (mz_k S R s.2 b t)) (C := C0) (fun C2 hc hx s hP hC => cb_541_193 hd hS hR  s hr hc hx hP hC) n (v13, N) hn hC
theorem cg_541_190 (hd : 3 ≤ d) (hS : mz_extR S 342) (hR : mz_rok R 342)  (N : mz_N) {C0 : (mz_N) → Prop} (hr : ∀ (N2 : mz_N), C0 N2 → Q (.inl none) (mz_k S R N2 b t)) (hp : cp_541_190 N) (hC : C0 (cf_541_190 N)) : mz_G (d, mz_X0 L xs, none, [], mk_541, 14, Q) 190 mt_541_190 [(0, .ref 232)] [] false (mz_k S R N b t) := by
  unfold cf_541_190 at hC
  unfold cp_541_190 at hp
  refine g_iconst mzi_0 (g_istore (Nat.le_of_ble_eq_true rfl) rfl ?_)
  refine g_weak ?_ (g_cl (cg_541_193 hd hS hR 0 N hr hp hC))
  exact ⟨rfl, rfl, trivial⟩
theorem cg_541_150 (hd : 3 ≤ d) (hS : mz_extR S 342) (hR : mz_rok R 342)  (v5 : Int64) (v7 : Int64) (v9 : Int64) (N : mz_N) {C0 : (mz_N) → Prop} (hr : ∀ (N2 : mz_N), C0 N2 → Q (.inl none) (mz_k S R N2 b t)) (hp : cp_541_150 v5 v7 v9 N) (hC : C0 (cf_541_150 v5 v7 v9 N)) : mz_G (d, mz_X0 L xs, none, [], mk_541, 14, Q) 150 mt_541_150 [(0, .ref 232), (5, .long v5), (7, .long v7), (9, .long v9)] [] false (mz_k S R N b t) := by
  unfold cf_541_150 at hC
  unfold cp_541_150 at hp
  refine g_aload_n rfl (g_lload rfl (g_aload_n rfl (g_getR (mz_at hS (Nat.le_of_ble_eq_true rfl) mzcS_232) mzcf_12_119 (mz_rb hR (Nat.le_of_ble_eq_true rfl) rfl mzcR_232_119) ?_)))
  obtain ⟨h1, hp⟩ := hp
  refine g_v3n (Nat.le_of_ble_eq_true rfl) (mz_at hS (Nat.le_of_ble_eq_true rfl) mzcS_232) (fun _ hq => cs_542 (Nat.le_trans (Nat.le_of_ble_eq_true rfl) hd) (hS.le (Nat.le_of_ble_eq_true rfl)) (hR.le (Nat.le_of_ble_eq_true rfl)) 323 (mz_at hS (Nat.le_of_ble_eq_true rfl) mzcS_323) v9 N h1 hq) (g_aload_n rfl (g_aload_n rfl (g_getL (mz_at hS (Nat.le_of_ble_eq_true rfl) mzcS_232) mzcf_12_125 ?_)))
  obtain ⟨h2, hp⟩ := hp
  refine g_v2n (Nat.le_of_ble_eq_true rfl) (mz_at hS (Nat.le_of_ble_eq_true rfl) mzcS_232) (fun _ hq => cs_544 (Nat.le_trans (Nat.le_of_ble_eq_true rfl) hd) (hS.le (Nat.le_of_ble_eq_true rfl)) (hR.le (Nat.le_of_ble_eq_true rfl))  ((cf_542_0 323 v9 N).2 232 125) (cf_542_0 323 v9 N) h2 hq) (g_aload_n rfl (g_dup rfl (g_getL (mz_at hS (Nat.le_of_ble_eq_true rfl) mzcS_232) mzcf_12_122 (g_lload rfl (g_lload rfl (g_ladd (g_lload rfl ?_)))))))
  refine g_ladd (g_aload_n rfl (g_getL (mz_at hS (Nat.le_of_ble_eq_true rfl) mzcS_232) mzcf_12_125 (g_ladd (g_lsub (g_putL (mz_at hS (Nat.le_of_ble_eq_true rfl) mzcS_232) mzcf_12_122 ?_)))))
  refine g_weak ?_ (g_cl (cg_541_190 hd hS hR (mz_pL (cf_544_0 ((cf_542_0 323 v9 N).2 232 125) (cf_542_0 323 v9 N)) 232 122 (((cf_544_0 ((cf_542_0 323 v9 N).2 232 125) (cf_542_0 323 v9 N)).2 232 122) - (((v5 + v7) + v9) + ((cf_544_0 ((cf_542_0 323 v9 N).2 232 125) (cf_542_0 323 v9 N)).2 232 125)))) hr hp hC))
  exact ⟨rfl, trivial⟩
theorem cb_541_28 (hd : 3 ≤ d) (hS : mz_extR S 342) (hR : mz_rok R 342)  (N : mz_N) (s : Int64 × Int64 × Int32) {C0 : (mz_N) → Prop} (hr : ∀ (N2 : mz_N), C0 N2 → Q (.inl none) (mz_k S R N2 b t)) {C1 : ((Int64 × Int64 × Int32) ⊕ (mz_N)) → Prop} (hc1 : ∀ s2, C1 (.inl s2) → mz_G (d, mz_X0 L xs, none, [], mk_541, 14, Q) 28 mt_541_28 [(0, .ref 232), (1, .long s2.1), (3, .long s2.2.1), (5, .int s2.2.2)] [] false (mz_k S R N b t)) (hx1 : ∀ z, C1 (.inr z) → C0 z) (hp : cd_541_28 N s) (hC : C1 (cq_541_28 N s)) : mz_G (d, mz_X0 L xs, none, [], mk_541, 14, Q) 28 mt_541_28 [(0, .ref 232), (1, .long s.1), (3, .long s.2.1), (5, .int s.2.2)] [] false (mz_k S R N b t) := by
  unfold cq_541_28 at hC
  unfold cd_541_28 at hp
  refine g_iload rfl (g_bipush mzb_11 ?_)
  refine g_icge (tg := 61) rfl ms_541_61 hC (fun h1 hC => ?_) (fun h1 hC => ?_)
  · have hp := hp.1 h1
    refine g_lload_n rfl (g_aload_n rfl (g_getR (mz_at hS (Nat.le_of_ble_eq_true rfl) mzcS_232) mzcf_12_118 (mz_rb hR (Nat.le_of_ble_eq_true rfl) rfl mzcR_232_118) (g_iload rfl ?_)))
    obtain ⟨h2, hp⟩ := hp
    refine g_lald (mz_at hS (Nat.le_of_ble_eq_true rfl) mzcS_322) h2 (g_ladd (g_lstore_n (Nat.le_of_ble_eq_true rfl) rfl rfl (g_lload_n rfl (g_aload_n rfl (g_getR (mz_at hS (Nat.le_of_ble_eq_true rfl) mzcS_232) mzcf_12_119 (mz_rb hR (Nat.le_of_ble_eq_true rfl) rfl mzcR_232_119) (g_iload rfl ?_))))))
    have h3 := hp
    refine g_lald (mz_at hS (Nat.le_of_ble_eq_true rfl) mzcS_323) h3 (g_ladd (g_lstore_n (Nat.le_of_ble_eq_true rfl) rfl rfl (g_iinc rfl mzi_1 (Nat.le_of_ble_eq_true rfl) rfl (g_goto (tg := 28) rfl ms_541_28 ?_))))
    refine g_weak ?_ (g_cl (hc1 ((s.1 + (mz_gL N 322 s.2.2)), (s.2.1 + (mz_gL N 323 s.2.2)), (s.2.2 + 1)) hC))
    exact ⟨rfl, rfl, rfl, rfl, trivial⟩
  · have hp := hp.2 h1
    refine g_aload_n rfl (g_getL (mz_at hS (Nat.le_of_ble_eq_true rfl) mzcS_232) mzcf_12_124 (g_aload_n rfl (g_getR (mz_at hS (Nat.le_of_ble_eq_true rfl) mzcS_232) mzcf_12_22 (mz_rb hR (Nat.le_of_ble_eq_true rfl) rfl mzcR_232_22) (g_iconst mzi_0 (g_iald hS.1 (mz_at hS (Nat.le_of_ble_eq_true rfl) mzcS_249) (mz_ibd (by decide)) (g_i2l (g_lmul ?_)))))))
    refine g_con3 (g_ldiv (by decide) (g_lstore (Nat.le_of_ble_eq_true rfl) rfl rfl (g_lload_n rfl (g_aload_n rfl (g_getR (mz_at hS (Nat.le_of_ble_eq_true rfl) mzcS_232) mzcf_12_22 (mz_rb hR (Nat.le_of_ble_eq_true rfl) rfl mzcR_232_22) (g_iconst mzi_1 (g_iald hS.1 (mz_at hS (Nat.le_of_ble_eq_true rfl) mzcS_249) (mz_ibd (by decide)) ?_)))))))
    refine g_i2l (g_lmul (g_con3 (g_ldiv (by decide) (g_lstore (Nat.le_of_ble_eq_true rfl) rfl rfl (g_lload_n rfl (g_aload_n rfl (g_getR (mz_at hS (Nat.le_of_ble_eq_true rfl) mzcS_232) mzcf_12_22 (mz_rb hR (Nat.le_of_ble_eq_true rfl) rfl mzcR_232_22) ?_)))))))
    refine g_iconst mzi_2 (g_iald hS.1 (mz_at hS (Nat.le_of_ble_eq_true rfl) mzcS_249) (mz_ibd (by decide)) (g_i2l (g_lmul (g_con3 (g_ldiv (by decide) (g_lstore (Nat.le_of_ble_eq_true rfl) rfl rfl (g_lload rfl ?_)))))))
    refine g_con3 (g_lmul (g_con3 (g_ldiv (by decide) (g_lstore (Nat.le_of_ble_eq_true rfl) rfl rfl (g_aload_n rfl (g_lload rfl (g_aload_n rfl ?_)))))))
    refine g_getR (mz_at hS (Nat.le_of_ble_eq_true rfl) mzcS_232) mzcf_12_117 (mz_rb hR (Nat.le_of_ble_eq_true rfl) rfl mzcR_232_117) ?_
    obtain ⟨h4, hp⟩ := hp
    refine g_v3n (Nat.le_of_ble_eq_true rfl) (mz_at hS (Nat.le_of_ble_eq_true rfl) mzcS_232) (fun _ hq => cs_542 (Nat.le_trans (Nat.le_of_ble_eq_true rfl) hd) (hS.le (Nat.le_of_ble_eq_true rfl)) (hR.le (Nat.le_of_ble_eq_true rfl)) 321 (mz_at hS (Nat.le_of_ble_eq_true rfl) mzcS_321) (((((N.2 232 124) * ((mz_gI N 249 0).toInt64)) / 100) * 7) / 10) N h4 hq) (g_aload_n rfl (g_lload rfl (g_lload rfl (g_lsub ?_))))
    obtain ⟨h5, hp⟩ := hp
    refine g_v2n (Nat.le_of_ble_eq_true rfl) (mz_at hS (Nat.le_of_ble_eq_true rfl) mzcS_232) (fun _ hq => cs_544 (Nat.le_trans (Nat.le_of_ble_eq_true rfl) hd) (hS.le (Nat.le_of_ble_eq_true rfl)) (hR.le (Nat.le_of_ble_eq_true rfl))  ((((N.2 232 124) * ((mz_gI N 249 0).toInt64)) / 100) - (((((N.2 232 124) * ((mz_gI N 249 0).toInt64)) / 100) * 7) / 10)) (cf_542_0 321 (((((N.2 232 124) * ((mz_gI N 249 0).toInt64)) / 100) * 7) / 10) N) h5 hq) (g_aload_n rfl (g_lload rfl (g_aload_n rfl (g_getR (mz_at hS (Nat.le_of_ble_eq_true rfl) mzcS_232) mzcf_12_118 (mz_rb hR (Nat.le_of_ble_eq_true rfl) rfl mzcR_232_118) ?_))))
    obtain ⟨h6, hp⟩ := hp
    refine g_v3n (Nat.le_of_ble_eq_true rfl) (mz_at hS (Nat.le_of_ble_eq_true rfl) mzcS_232) (fun _ hq => cs_542 (Nat.le_trans (Nat.le_of_ble_eq_true rfl) hd) (hS.le (Nat.le_of_ble_eq_true rfl)) (hR.le (Nat.le_of_ble_eq_true rfl)) 322 (mz_at hS (Nat.le_of_ble_eq_true rfl) mzcS_322) ((s.1 * ((mz_gI N 249 1).toInt64)) / 100) (cf_544_0 ((((N.2 232 124) * ((mz_gI N 249 0).toInt64)) / 100) - (((((N.2 232 124) * ((mz_gI N 249 0).toInt64)) / 100) * 7) / 10)) (cf_542_0 321 (((((N.2 232 124) * ((mz_gI N 249 0).toInt64)) / 100) * 7) / 10) N)) h6 hq) ?_
    refine g_weak ?_ (g_cl (cg_541_150 hd hS hR (((N.2 232 124) * ((mz_gI N 249 0).toInt64)) / 100) ((s.1 * ((mz_gI N 249 1).toInt64)) / 100) ((s.2.1 * ((mz_gI N 249 2).toInt64)) / 100) (cf_542_0 322 ((s.1 * ((mz_gI N 249 1).toInt64)) / 100) (cf_544_0 ((((N.2 232 124) * ((mz_gI N 249 0).toInt64)) / 100) - (((((N.2 232 124) * ((mz_gI N 249 0).toInt64)) / 100) * 7) / 10)) (cf_542_0 321 (((((N.2 232 124) * ((mz_gI N 249 0).toInt64)) / 100) * 7) / 10) N))) hr hp (hx1 _ hC)))
    exact ⟨rfl, rfl, rfl, rfl, trivial⟩
theorem cg_541_28 (hd : 3 ≤ d) (hS : mz_extR S 342) (hR : mz_rok R 342)  (v1 : Int64) (v3 : Int64) (v5 : Int32) (N : mz_N) {C0 : (mz_N) → Prop} (hr : ∀ (N2 : mz_N), C0 N2 → Q (.inl none) (mz_k S R N2 b t)) (hp : cp_541_28 v1 v3 v5 N) (hC : C0 (cf_541_28 v1 v3 v5 N)) : mz_G (d, mz_X0 L xs, none, [], mk_541, 14, Q) 28 mt_541_28 [(0, .ref 232), (1, .long v1), (3, .long v3), (5, .int v5)] [] false (mz_k S R N b t) := by
  obtain ⟨n, hn⟩ := hp
  exact g_loop (G := fun s => mz_G (d, mz_X0 L xs, none, [], mk_541, 14, Q) 28 mt_541_28 [(0, .ref 232), (1, .long s.1), (3, .long s.2.1), (5, .int s.2.2)] [] false (mz_k S R N b t)) (C := C0) (fun C2 hc hx s hP hC => cb_541_28 hd hS hR N s hr hc hx hP hC) n (v1, v3, v5) hn hC
theorem cb_541_2 (hd : 3 ≤ d) (hS : mz_extR S 342) (hR : mz_rok R 342)   (s : Int32 × mz_N) {C0 : (mz_N) → Prop} (hr : ∀ (N2 : mz_N), C0 N2 → Q (.inl none) (mz_k S R N2 b t)) {C1 : ((Int32 × mz_N) ⊕ (mz_N)) → Prop} (hc1 : ∀ s2, C1 (.inl s2) → mz_G (d, mz_X0 L xs, none, [], mk_541, 14, Q) 2 mt_541_2 [(0, .ref 232), (1, .int s2.1)] [] false (mz_k S R s2.2 b t)) (hx1 : ∀ z, C1 (.inr z) → C0 z) (hp : cd_541_2  s) (hC : C1 (cq_541_2  s)) : mz_G (d, mz_X0 L xs, none, [], mk_541, 14, Q) 2 mt_541_2 [(0, .ref 232), (1, .int s.1)] [] false (mz_k S R s.2 b t) := by
  unfold cq_541_2 at hC
  unfold cd_541_2 at hp
  refine g_iload_n rfl (g_bipush mzb_10 ?_)
  refine g_icge (tg := 21) rfl ms_541_21 hC (fun h1 hC => ?_) (fun h1 hC => ?_)
  · have hp := hp.1 h1
    refine g_aload_n rfl (g_getR (mz_at hS (Nat.le_of_ble_eq_true rfl) mzcS_232) mzcf_12_121 (mz_rb hR (Nat.le_of_ble_eq_true rfl) rfl mzcR_232_121) (g_iload_n rfl (g_lconst mzl_0 ?_)))
    have h2 := hp
    refine g_last (mz_at hS (Nat.le_of_ble_eq_true rfl) mzcS_325) h2 (g_iinc rfl mzi_1 (Nat.le_of_ble_eq_true rfl) rfl (g_goto (tg := 2) rfl ms_541_2 ?_))
    refine g_weak ?_ (g_cl (hc1 ((s.1 + 1), mz_wL s.2 325 s.1 0) hC))
    exact ⟨rfl, rfl, trivial⟩
  · have hp := hp.2 h1
    refine g_lconst mzl_0 (g_lstore_n (Nat.le_of_ble_eq_true rfl) rfl rfl (g_lconst mzl_0 (g_lstore_n (Nat.le_of_ble_eq_true rfl) rfl rfl (g_iconst mzi_0 (g_istore (Nat.le_of_ble_eq_true rfl) rfl ?_)))))
    refine g_weak ?_ (g_cl (cg_541_28 hd hS hR 0 0 0 s.2 hr hp (hx1 _ hC)))
    exact ⟨rfl, rfl, rfl, rfl, trivial⟩
theorem cg_541_2 (hd : 3 ≤ d) (hS : mz_extR S 342) (hR : mz_rok R 342)  (v1 : Int32) (N : mz_N) {C0 : (mz_N) → Prop} (hr : ∀ (N2 : mz_N), C0 N2 → Q (.inl none) (mz_k S R N2 b t)) (hp : cp_541_2 v1 N) (hC : C0 (cf_541_2 v1 N)) : mz_G (d, mz_X0 L xs, none, [], mk_541, 14, Q) 2 mt_541_2 [(0, .ref 232), (1, .int v1)] [] false (mz_k S R N b t) := by
  obtain ⟨n, hn⟩ := hp
  exact g_loop (G := fun s => mz_G (d, mz_X0 L xs, none, [], mk_541, 14, Q) 2 mt_541_2 [(0, .ref 232), (1, .int s.1)] [] false (mz_k S R s.2 b t)) (C := C0) (fun C2 hc hx s hP hC => cb_541_2 hd hS hR  s hr hc hx hP hC) n (v1, N) hn hC
theorem cg_541_0 (hd : 3 ≤ d) (hS : mz_extR S 342) (hR : mz_rok R 342)  (N : mz_N) {C0 : (mz_N) → Prop} (hr : ∀ (N2 : mz_N), C0 N2 → Q (.inl none) (mz_k S R N2 b t)) (hp : cp_541_0 N) (hC : C0 (cf_541_0 N)) : mz_G (d, mz_X0 L xs, none, [], mk_541, 14, Q) 0 mk_541 [(0, .ref 232)] [] true (mz_k S R N b t) := by
  unfold cf_541_0 at hC
  unfold cp_541_0 at hp
  refine g_iconst mzi_0 (g_istore_n (Nat.le_of_ble_eq_true rfl) rfl ?_)
  refine g_weak ?_ (g_cl (cg_541_2 hd hS hR 0 N hr hp hC))
  exact ⟨rfl, rfl, trivial⟩
theorem cs_541 (hd : 4 ≤ d) (hS : mz_extR S 342) (hR : mz_rok R 342)  (N : mz_N) (hp : cp_541_0 N) (hq : Q (.inl none) (mz_k S R (cf_541_0 N) b t)) : mz_Ed (mz_X0 L xs) d 541 [.ref 232] (mz_k S R N b t) Q :=
  by
  refine g_in mzq_541 (Nat.le_of_ble_eq_true rfl) (Nat.le_of_ble_eq_true rfl) (Nat.le_trans (Nat.le_of_ble_eq_true rfl) hd) ?_
  refine g_weak ?_ (cg_541_0 (d := d - 1) (by omega) hS hR N (C0 := fun z => Q (.inl none) (mz_k S R z b t)) (fun _ h => h) hp hq)
  exact ⟨rfl, trivial⟩
end Fn31
