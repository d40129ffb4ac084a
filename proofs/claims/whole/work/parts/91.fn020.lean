/-! THE FUNCTIONS: written by program: each method comes to its function. -/
section Fn20
variable {L : Nat} {xs : Nat → Int32} {d : Nat} {S : mz_S} {R : Nat → Nat → Option Nat} {Q : mz_Q} {N : mz_N} {b : Bool} {t : Nat}
/-! 411 KeptHouseModel.writeRow (IIIIZJ)Z -/
theorem ms_411_0 : mz_sf mk_411 0 = mk_411 := mz_sf_zero _
theorem ms_411_3 : mz_sf mk_411 3 = mt_411_3 := mz_sf_add ms_411_0 (t := 3) rfl rfl
theorem ms_411_43 : mz_sf mk_411 43 = mt_411_43 := mz_sf_add ms_411_3 (t := 40) rfl rfl
theorem ms_411_44 : mz_sf mk_411 44 = mt_411_44 := mz_sf_add ms_411_43 (t := 1) rfl rfl
theorem ms_411_51 : mz_sf mk_411 51 = mt_411_51 := mz_sf_add ms_411_44 (t := 7) rfl rfl
theorem ms_411_68 : mz_sf mk_411 68 = mt_411_68 := mz_sf_add ms_411_51 (t := 17) rfl rfl
theorem ms_411_82 : mz_sf mk_411 82 = mt_411_82 := mz_sf_add ms_411_68 (t := 14) rfl rfl
theorem ms_411_83 : mz_sf mk_411 83 = mt_411_83 := mz_sf_add ms_411_82 (t := 1) rfl rfl
theorem ms_411_107 : mz_sf mk_411 107 = mt_411_107 := mz_sf_add ms_411_83 (t := 24) rfl rfl
theorem ms_411_135 : mz_sf mk_411 135 = mt_411_135 := mz_sf_add ms_411_107 (t := 28) rfl rfl
theorem ms_411_139 : mz_sf mk_411 139 = mt_411_139 := mz_sf_add ms_411_135 (t := 4) rfl rfl
theorem ms_411_140 : mz_sf mk_411 140 = mt_411_140 := mz_sf_add ms_411_139 (t := 1) rfl rfl
theorem ms_411_157 : mz_sf mk_411 157 = mt_411_157 := mz_sf_add ms_411_140 (t := 17) rfl rfl
theorem ms_411_169 : mz_sf mk_411 169 = mt_411_169 := mz_sf_add ms_411_157 (t := 12) rfl rfl
theorem ms_411_171 : mz_sf mk_411 171 = mt_411_171 := mz_sf_add ms_411_169 (t := 2) rfl rfl
theorem ms_411_194 : mz_sf mk_411 194 = mt_411_194 := mz_sf_add ms_411_171 (t := 23) rfl rfl
theorem ms_411_197 : mz_sf mk_411 197 = mt_411_197 := mz_sf_add ms_411_194 (t := 3) rfl rfl
theorem ms_411_214 : mz_sf mk_411 214 = mt_411_214 := mz_sf_add ms_411_197 (t := 17) rfl rfl
theorem ms_411_215 : mz_sf mk_411 215 = mt_411_215 := mz_sf_add ms_411_214 (t := 1) rfl rfl
theorem ms_411_232 : mz_sf mk_411 232 = mt_411_232 := mz_sf_add ms_411_215 (t := 17) rfl rfl
theorem ms_411_233 : mz_sf mk_411 233 = mt_411_233 := mz_sf_add ms_411_232 (t := 1) rfl rfl
theorem ms_411_250 : mz_sf mk_411 250 = mt_411_250 := mz_sf_add ms_411_233 (t := 17) rfl rfl
theorem ms_411_254 : mz_sf mk_411 254 = mt_411_254 := mz_sf_add ms_411_250 (t := 4) rfl rfl
theorem ms_411_255 : mz_sf mk_411 255 = mt_411_255 := mz_sf_add ms_411_254 (t := 1) rfl rfl
set_option maxRecDepth 100000 in
theorem mzq_411 : mz_PG0 411 = some (12, ⟨"KeptHouseModel", "writeRow", "(IIIIZJ)Z"⟩, prog_14_method_171_code, 11, some .boolean, [], mk_411, []) := rfl
theorem cg_411_44 (hd : 1 ≤ d) (hS : mz_extR S 342) (hR : mz_rok R 342)  (s1 : Int32) (s2 : Int32) (v1 : Int32) (v2 : Int32) (v3 : Int32) (v4 : Int32) (v5 : Bool) (v6 : Int64) (v8 : Int32) (N : mz_N) {C0 : (Bool × mz_N) → Prop} (hr : ∀ (w : Bool) (N2 : mz_N), C0 (w, N2) → Q (.inl (some (.int (mz_b01 w)))) (mz_k S R N2 b t)) {C1 : ((Int32 × mz_N) ⊕ (Bool × mz_N)) → Prop} (hc1 : ∀ s2, C1 (.inl s2) → mz_G (d, mz_X0 L xs, some .boolean, [], mk_411, 11, Q) 3 mt_411_3 [(0, .ref 232), (1, .int v1), (2, .int v2), (3, .int v3), (4, .int v4), (5, .int (mz_b01 v5)), (6, .long v6), (8, .int s2.1)] [] false (mz_k S R s2.2 b t)) (hx1 : ∀ z, C1 (.inr z) → C0 z) (hp : cp_411_44 s1 s2 v1 v2 v3 v4 v5 v6 v8 N) (hC : C1 (cf_411_44 s1 s2 v1 v2 v3 v4 v5 v6 v8 N)) : mz_G (d, mz_X0 L xs, some .boolean, [], mk_411, 11, Q) 44 mt_411_44 [(0, .ref 232), (1, .int v1), (2, .int v2), (3, .int v3), (4, .int v4), (5, .int (mz_b01 v5)), (6, .long v6), (8, .int v8)] [.int s2, .int s1, .ref 341] false (mz_k S R N b t) := by
  unfold cf_411_44 at hC
  unfold cp_411_44 at hp
  have h1 := hp
  refine g_bast (mz_at hS (Nat.le_of_ble_eq_true rfl) mzcS_341) h1 (g_iinc rfl mzi_1 (Nat.le_of_ble_eq_true rfl) rfl (g_goto (tg := 3) rfl ms_411_3 ?_))
  refine g_weak ?_ (g_cl (hc1 ((v8 + 1), mz_wI N 341 s1 (mz_nb s2)) hC))
  exact ⟨rfl, rfl, rfl, rfl, rfl, rfl, rfl, rfl, trivial⟩
theorem cg_411_43 (hd : 1 ≤ d) (hS : mz_extR S 342) (hR : mz_rok R 342)  (s1 : Int32) (v1 : Int32) (v2 : Int32) (v3 : Int32) (v4 : Int32) (v5 : Bool) (v6 : Int64) (v8 : Int32) (N : mz_N) {C0 : (Bool × mz_N) → Prop} (hr : ∀ (w : Bool) (N2 : mz_N), C0 (w, N2) → Q (.inl (some (.int (mz_b01 w)))) (mz_k S R N2 b t)) {C1 : ((Int32 × mz_N) ⊕ (Bool × mz_N)) → Prop} (hc1 : ∀ s2, C1 (.inl s2) → mz_G (d, mz_X0 L xs, some .boolean, [], mk_411, 11, Q) 3 mt_411_3 [(0, .ref 232), (1, .int v1), (2, .int v2), (3, .int v3), (4, .int v4), (5, .int (mz_b01 v5)), (6, .long v6), (8, .int s2.1)] [] false (mz_k S R s2.2 b t)) (hx1 : ∀ z, C1 (.inr z) → C0 z) (hp : cp_411_43 s1 v1 v2 v3 v4 v5 v6 v8 N) (hC : C1 (cf_411_43 s1 v1 v2 v3 v4 v5 v6 v8 N)) : mz_G (d, mz_X0 L xs, some .boolean, [], mk_411, 11, Q) 43 mt_411_43 [(0, .ref 232), (1, .int v1), (2, .int v2), (3, .int v3), (4, .int v4), (5, .int (mz_b01 v5)), (6, .long v6), (8, .int v8)] [.int s1, .ref 341] false (mz_k S R N b t) := by
  unfold cf_411_43 at hC
  unfold cp_411_43 at hp
  refine g_iconst mzi_0 ?_
  refine g_weak ?_ (g_cl (cg_411_44 hd hS hR s1 0 v1 v2 v3 v4 v5 v6 v8 N hr hc1 hx1 hp hC))
  exact ⟨rfl, rfl, rfl, rfl, rfl, rfl, rfl, rfl, trivial⟩
theorem cg_411_255 (hd : 1 ≤ d) (hS : mz_extR S 342) (hR : mz_rok R 342)  (s1 : Bool) (v8 : Bool) (N : mz_N) {C0 : (Bool × mz_N) → Prop} (hr : ∀ (w : Bool) (N2 : mz_N), C0 (w, N2) → Q (.inl (some (.int (mz_b01 w)))) (mz_k S R N2 b t)) (hp : cp_411_255 s1 v8 N) (hC : C0 (cf_411_255 s1 v8 N)) : mz_G (d, mz_X0 L xs, some .boolean, [], mk_411, 11, Q) 255 mt_411_255 [(8, .int (mz_b01 v8))] [.int (mz_b01 s1), .ref 232] false (mz_k S R N b t) := by
  unfold cf_411_255 at hC
  unfold cp_411_255 at hp
  refine g_putZ (z := s1) (mz_at hS (Nat.le_of_ble_eq_true rfl) mzcS_232) mzcf_12_137 (g_iload rfl ?_)
  exact g_zret (z := v8) rfl (hr _ _ hC)
theorem cg_411_250 (hd : 1 ≤ d) (hS : mz_extR S 342) (hR : mz_rok R 342)  (v8 : Bool) (N : mz_N) {C0 : (Bool × mz_N) → Prop} (hr : ∀ (w : Bool) (N2 : mz_N), C0 (w, N2) → Q (.inl (some (.int (mz_b01 w)))) (mz_k S R N2 b t)) (hp : cp_411_250 v8 N) (hC : C0 (cf_411_250 v8 N)) : mz_G (d, mz_X0 L xs, some .boolean, [], mk_411, 11, Q) 250 mt_411_250 [(8, .int (mz_b01 v8))] [.ref 232] false (mz_k S R N b t) := by
  unfold cf_411_250 at hC
  unfold cp_411_250 at hp
  refine g_iconst mzi_1 (g_goto (tg := 255) rfl ms_411_255 ?_)
  refine g_weak ?_ (g_cl (cg_411_255 hd hS hR true v8 N hr hp hC))
  exact ⟨rfl, trivial⟩
theorem cg_411_233 (hd : 1 ≤ d) (hS : mz_extR S 342) (hR : mz_rok R 342)  (s1 : Int32) (s2 : Bool) (v8 : Bool) (N : mz_N) {C0 : (Bool × mz_N) → Prop} (hr : ∀ (w : Bool) (N2 : mz_N), C0 (w, N2) → Q (.inl (some (.int (mz_b01 w)))) (mz_k S R N2 b t)) (hp : cp_411_233 s1 s2 v8 N) (hC : C0 (cf_411_233 s1 s2 v8 N)) : mz_G (d, mz_X0 L xs, some .boolean, [], mk_411, 11, Q) 233 mt_411_233 [(0, .ref 232), (8, .int (mz_b01 v8))] [.int (mz_b01 s2), .int s1, .ref 232] false (mz_k S R N b t) := by
  unfold cf_411_233 at hC
  unfold cp_411_233 at hp
  refine g_isub (g_putI (mz_at hS (Nat.le_of_ble_eq_true rfl) mzcS_232) mzcf_12_136 (g_aload_n rfl (g_aload_n rfl ?_)))
  obtain ⟨h1, hp⟩ := hp
  refine g_getZ (mz_at hS (Nat.le_of_ble_eq_true rfl) mzcS_232) mzcf_12_137 h1 ?_
  refine g_zne (tg := 250) rfl ms_411_250 hC (fun h2 hC => ?_) (fun h2 hC => ?_)
  · have hp := hp.1 h2
    refine g_weak ?_ (g_cl (cg_411_250 hd hS hR v8 (mz_pI N 232 136 (s1 - (mz_b01 s2))) hr hp hC))
    exact ⟨rfl, trivial⟩
  · have hp := hp.2 h2
    refine g_iload rfl ?_
    refine g_zne (tg := 254) rfl ms_411_254 hC (fun h3 hC => ?_) (fun h3 hC => ?_)
    · have hp := hp.1 h3
      refine g_iconst mzi_0 ?_
      refine g_weak ?_ (g_cl (cg_411_255 hd hS hR false v8 (mz_pI N 232 136 (s1 - (mz_b01 s2))) hr hp hC))
      exact ⟨rfl, trivial⟩
    · have hp := hp.2 h3
      refine g_weak ?_ (g_cl (cg_411_250 hd hS hR v8 (mz_pI N 232 136 (s1 - (mz_b01 s2))) hr hp hC))
      exact ⟨rfl, trivial⟩
theorem cg_411_215 (hd : 1 ≤ d) (hS : mz_extR S 342) (hR : mz_rok R 342)  (s1 : Int32) (s2 : Bool) (v8 : Bool) (N : mz_N) {C0 : (Bool × mz_N) → Prop} (hr : ∀ (w : Bool) (N2 : mz_N), C0 (w, N2) → Q (.inl (some (.int (mz_b01 w)))) (mz_k S R N2 b t)) (hp : cp_411_215 s1 s2 v8 N) (hC : C0 (cf_411_215 s1 s2 v8 N)) : mz_G (d, mz_X0 L xs, some .boolean, [], mk_411, 11, Q) 215 mt_411_215 [(0, .ref 232), (8, .int (mz_b01 v8))] [.int (mz_b01 s2), .int s1, .ref 329] false (mz_k S R N b t) := by
  unfold cf_411_215 at hC
  unfold cp_411_215 at hp
  obtain ⟨h1, hp⟩ := hp
  refine g_bast (mz_at hS (Nat.le_of_ble_eq_true rfl) mzcS_329) h1 (g_aload_n rfl (g_dup rfl (g_getI (mz_at hS (Nat.le_of_ble_eq_true rfl) mzcS_232) mzcf_12_136 (g_aload_n rfl (g_getI (mz_at hS (Nat.le_of_ble_eq_true rfl) mzcS_232) mzcf_12_136 ?_)))))
  refine g_ifle (tg := 232) rfl ms_411_232 hC (fun h2 hC => ?_) (fun h2 hC => ?_)
  · have hp := hp.1 h2
    refine g_iconst mzi_1 (g_goto (tg := 233) rfl ms_411_233 ?_)
    refine g_weak ?_ (g_cl (cg_411_233 hd hS hR ((mz_wI N 329 s1 (mz_nb (mz_b01 s2))).1 232 136) true v8 (mz_wI N 329 s1 (mz_nb (mz_b01 s2))) hr hp hC))
    exact ⟨rfl, rfl, trivial⟩
  · have hp := hp.2 h2
    refine g_iconst mzi_0 ?_
    refine g_weak ?_ (g_cl (cg_411_233 hd hS hR ((mz_wI N 329 s1 (mz_nb (mz_b01 s2))).1 232 136) false v8 (mz_wI N 329 s1 (mz_nb (mz_b01 s2))) hr hp hC))
    exact ⟨rfl, rfl, trivial⟩
theorem cg_411_171 (hd : 1 ≤ d) (hS : mz_extR S 342) (hR : mz_rok R 342)  (s0 : Int32) (s1 : Int32) (v8 : Bool) (v9 : Int32) (v10 : Int32) (N : mz_N) {C0 : (Bool × mz_N) → Prop} (hr : ∀ (w : Bool) (N2 : mz_N), C0 (w, N2) → Q (.inl (some (.int (mz_b01 w)))) (mz_k S R N2 b t)) {C1 : ((Int32 × mz_N) ⊕ (Bool × mz_N)) → Prop} (hc1 : ∀ s2, C1 (.inl s2) → mz_G (d, mz_X0 L xs, some .boolean, [], mk_411, 11, Q) 157 mt_411_157 [(0, .ref 232), (8, .int (mz_b01 v8)), (9, .int v9), (10, .int s2.1)] [] false (mz_k S R s2.2 b t)) (hx1 : ∀ z, C1 (.inr z) → C0 z) (hp : cp_411_171 s0 s1 v8 v9 v10 N) (hC : C1 (cf_411_171 s0 s1 v8 v9 v10 N)) : mz_G (d, mz_X0 L xs, some .boolean, [], mk_411, 11, Q) 171 mt_411_171 [(0, .ref 232), (8, .int (mz_b01 v8)), (9, .int v9), (10, .int v10)] [.int s1, .int s0] false (mz_k S R N b t) := by
  unfold cf_411_171 at hC
  unfold cp_411_171 at hp
  refine g_icge (tg := 197) rfl ms_411_197 hC (fun h1 hC => ?_) (fun h1 hC => ?_)
  · have hp := hp.1 h1
    refine g_aload_n rfl (g_getR (mz_at hS (Nat.le_of_ble_eq_true rfl) mzcS_232) mzcf_12_129 (mz_rb hR (Nat.le_of_ble_eq_true rfl) rfl mzcR_232_129) (g_iload rfl (g_iload rfl (g_iadd (g_aload_n rfl (g_getR (mz_at hS (Nat.le_of_ble_eq_true rfl) mzcS_232) mzcf_12_159 (mz_rb hR (Nat.le_of_ble_eq_true rfl) rfl mzcR_232_159) (g_iload rfl ?_)))))))
    obtain ⟨h2, hp⟩ := hp
    refine g_bald (mz_at hS (Nat.le_of_ble_eq_true rfl) mzcS_341) h2 ?_
    have h3 := hp
    refine g_bast (mz_at hS (Nat.le_of_ble_eq_true rfl) mzcS_329) h3 (g_iinc rfl mzi_1 (Nat.le_of_ble_eq_true rfl) rfl (g_goto (tg := 157) rfl ms_411_157 ?_))
    refine g_weak ?_ (g_cl (hc1 ((v10 + 1), mz_wI N 329 (v9 + v10) (mz_nb (mz_gI N 341 v10))) hC))
    exact ⟨rfl, rfl, rfl, rfl, trivial⟩
  · have hp := hp.2 h1
    refine g_aload_n rfl (g_getR (mz_at hS (Nat.le_of_ble_eq_true rfl) mzcS_232) mzcf_12_129 (mz_rb hR (Nat.le_of_ble_eq_true rfl) rfl mzcR_232_129) (g_iload rfl (g_iconst mzi_3 (g_iadd (g_iload rfl ?_)))))
    refine g_zeq (tg := 214) rfl ms_411_214 hC (fun h4 hC => ?_) (fun h4 hC => ?_)
    · have hp := hp.1 h4
      refine g_iconst mzi_0 (g_goto (tg := 215) rfl ms_411_215 ?_)
      refine g_weak ?_ (g_cl (cg_411_215 hd hS hR (v9 + 3) false v8 N hr hp (hx1 _ hC)))
      exact ⟨rfl, rfl, trivial⟩
    · have hp := hp.2 h4
      refine g_iconst mzi_1 ?_
      refine g_weak ?_ (g_cl (cg_411_215 hd hS hR (v9 + 3) true v8 N hr hp (hx1 _ hC)))
      exact ⟨rfl, rfl, trivial⟩
theorem cb_411_157 (hd : 1 ≤ d) (hS : mz_extR S 342) (hR : mz_rok R 342)  (v8 : Bool) (v9 : Int32) (s : Int32 × mz_N) {C0 : (Bool × mz_N) → Prop} (hr : ∀ (w : Bool) (N2 : mz_N), C0 (w, N2) → Q (.inl (some (.int (mz_b01 w)))) (mz_k S R N2 b t)) {C1 : ((Int32 × mz_N) ⊕ (Bool × mz_N)) → Prop} (hc1 : ∀ s2, C1 (.inl s2) → mz_G (d, mz_X0 L xs, some .boolean, [], mk_411, 11, Q) 157 mt_411_157 [(0, .ref 232), (8, .int (mz_b01 v8)), (9, .int v9), (10, .int s2.1)] [] false (mz_k S R s2.2 b t)) (hx1 : ∀ z, C1 (.inr z) → C0 z) (hp : cd_411_157 v8 v9 s) (hC : C1 (cq_411_157 v8 v9 s)) : mz_G (d, mz_X0 L xs, some .boolean, [], mk_411, 11, Q) 157 mt_411_157 [(0, .ref 232), (8, .int (mz_b01 v8)), (9, .int v9), (10, .int s.1)] [] false (mz_k S R s.2 b t) := by
  unfold cq_411_157 at hC
  unfold cd_411_157 at hp
  refine g_iload rfl (g_iload rfl ?_)
  refine g_zeq (tg := 169) rfl ms_411_169 hC (fun h1 hC => ?_) (fun h1 hC => ?_)
  · have hp := hp.1 h1
    refine g_bipush mzb_48 (g_goto (tg := 171) rfl ms_411_171 ?_)
    refine g_weak ?_ (g_cl (cg_411_171 hd hS hR s.1 48 v8 v9 s.1 s.2 hr hc1 hx1 hp hC))
    exact ⟨rfl, rfl, rfl, rfl, trivial⟩
  · have hp := hp.2 h1
    refine g_bipush mzb_24 ?_
    refine g_weak ?_ (g_cl (cg_411_171 hd hS hR s.1 24 v8 v9 s.1 s.2 hr hc1 hx1 hp hC))
    exact ⟨rfl, rfl, rfl, rfl, trivial⟩
theorem cg_411_157 (hd : 1 ≤ d) (hS : mz_extR S 342) (hR : mz_rok R 342)  (v8 : Bool) (v9 : Int32) (v10 : Int32) (N : mz_N) {C0 : (Bool × mz_N) → Prop} (hr : ∀ (w : Bool) (N2 : mz_N), C0 (w, N2) → Q (.inl (some (.int (mz_b01 w)))) (mz_k S R N2 b t)) (hp : cp_411_157 v8 v9 v10 N) (hC : C0 (cf_411_157 v8 v9 v10 N)) : mz_G (d, mz_X0 L xs, some .boolean, [], mk_411, 11, Q) 157 mt_411_157 [(0, .ref 232), (8, .int (mz_b01 v8)), (9, .int v9), (10, .int v10)] [] false (mz_k S R N b t) := by
  obtain ⟨n, hn⟩ := hp
  exact g_loop (G := fun s => mz_G (d, mz_X0 L xs, some .boolean, [], mk_411, 11, Q) 157 mt_411_157 [(0, .ref 232), (8, .int (mz_b01 v8)), (9, .int v9), (10, .int s.1)] [] false (mz_k S R s.2 b t)) (C := C0) (fun C2 hc hx s hP hC => cb_411_157 hd hS hR v8 v9 s hr hc hx hP hC) n (v10, N) hn hC
theorem cg_411_140 (hd : 1 ≤ d) (hS : mz_extR S 342) (hR : mz_rok R 342)  (s0 : Bool) (v1 : Int32) (v2 : Int32) (N : mz_N) {C0 : (Bool × mz_N) → Prop} (hr : ∀ (w : Bool) (N2 : mz_N), C0 (w, N2) → Q (.inl (some (.int (mz_b01 w)))) (mz_k S R N2 b t)) (hp : cp_411_140 s0 v1 v2 N) (hC : C0 (cf_411_140 s0 v1 v2 N)) : mz_G (d, mz_X0 L xs, some .boolean, [], mk_411, 11, Q) 140 mt_411_140 [(0, .ref 232), (1, .int v1), (2, .int v2)] [.int (mz_b01 s0)] false (mz_k S R N b t) := by
  unfold cf_411_140 at hC
  unfold cp_411_140 at hp
  refine g_istore (Nat.le_of_ble_eq_true rfl) rfl (g_sipush mzs_9600 (g_iload_n rfl (g_imul (g_bipush mzb_48 (g_iload_n rfl (g_imul (g_iadd ?_)))))))
  refine g_istore (Nat.le_of_ble_eq_true rfl) rfl (g_iconst mzi_0 (g_istore (Nat.le_of_ble_eq_true rfl) rfl ?_))
  refine g_weak ?_ (g_cl (cg_411_157 hd hS hR s0 ((9600 * v1) + (48 * v2)) 0 N hr hp hC))
  exact ⟨rfl, rfl, rfl, rfl, trivial⟩
theorem cg_411_107 (hd : 1 ≤ d) (hS : mz_extR S 342) (hR : mz_rok R 342)  (v1 : Int32) (v2 : Int32) (N : mz_N) {C0 : (Bool × mz_N) → Prop} (hr : ∀ (w : Bool) (N2 : mz_N), C0 (w, N2) → Q (.inl (some (.int (mz_b01 w)))) (mz_k S R N2 b t)) (hp : cp_411_107 v1 v2 N) (hC : C0 (cf_411_107 v1 v2 N)) : mz_G (d, mz_X0 L xs, some .boolean, [], mk_411, 11, Q) 107 mt_411_107 [(0, .ref 232), (1, .int v1), (2, .int v2)] [] false (mz_k S R N b t) := by
  unfold cf_411_107 at hC
  unfold cp_411_107 at hp
  refine g_aload_n rfl (g_getR (mz_at hS (Nat.le_of_ble_eq_true rfl) mzcS_232) mzcf_12_159 (mz_rb hR (Nat.le_of_ble_eq_true rfl) rfl mzcR_232_159) (g_bipush mzb_44 (g_iconst mzi_4 (g_aload_n rfl (g_getR (mz_at hS (Nat.le_of_ble_eq_true rfl) mzcS_232) mzcf_12_159 (mz_rb hR (Nat.le_of_ble_eq_true rfl) rfl mzcR_232_159) (g_iconst mzi_0 (g_bipush mzb_44 ?_)))))))
  obtain ⟨h1, hp⟩ := hp
  refine g_s3v (Nat.le_of_ble_eq_true rfl) (fun _ hq => cs_413 (Nat.le_trans (Nat.le_of_ble_eq_true rfl) hd) (hS.le (Nat.le_of_ble_eq_true rfl)) (hR.le (Nat.le_of_ble_eq_true rfl)) 341 48 (mz_at hS (Nat.le_of_ble_eq_true rfl) mzcS_341) 0 44 N h1 hq) (g_i2l ?_)
  obtain ⟨h2, hp⟩ := hp
  refine g_s4n (Nat.le_of_ble_eq_true rfl) (fun _ hq => cs_412 (Nat.le_trans (Nat.le_of_ble_eq_true rfl) hd) (hS.le (Nat.le_of_ble_eq_true rfl)) (hR.le (Nat.le_of_ble_eq_true rfl)) 341 48 (mz_at hS (Nat.le_of_ble_eq_true rfl) mzcS_341) 44 4 ((cf_413_0 341 48 0 44 N).toInt64) N h2 hq) (g_aload_n rfl (g_getI (mz_at hS (Nat.le_of_ble_eq_true rfl) mzcS_232) mzcf_12_136 ?_))
  refine g_ifeq (tg := 139) rfl ms_411_139 hC (fun h3 hC => ?_) (fun h3 hC => ?_)
  · have hp := hp.1 h3
    refine g_iconst mzi_0 ?_
    refine g_weak ?_ (g_cl (cg_411_140 hd hS hR false v1 v2 (cf_412_0 341 48 44 4 ((cf_413_0 341 48 0 44 N).toInt64) N) hr hp hC))
    exact ⟨rfl, rfl, rfl, trivial⟩
  · have hp := hp.2 h3
    refine g_iconst mzi_1 (g_goto (tg := 140) rfl ms_411_140 ?_)
    refine g_weak ?_ (g_cl (cg_411_140 hd hS hR true v1 v2 (cf_412_0 341 48 44 4 ((cf_413_0 341 48 0 44 N).toInt64) N) hr hp hC))
    exact ⟨rfl, rfl, rfl, trivial⟩
theorem cg_411_83 (hd : 1 ≤ d) (hS : mz_extR S 342) (hR : mz_rok R 342)  (s1 : Int32) (s2 : Bool) (v1 : Int32) (v2 : Int32) (v6 : Int64) (N : mz_N) {C0 : (Bool × mz_N) → Prop} (hr : ∀ (w : Bool) (N2 : mz_N), C0 (w, N2) → Q (.inl (some (.int (mz_b01 w)))) (mz_k S R N2 b t)) (hp : cp_411_83 s1 s2 v1 v2 v6 N) (hC : C0 (cf_411_83 s1 s2 v1 v2 v6 N)) : mz_G (d, mz_X0 L xs, some .boolean, [], mk_411, 11, Q) 83 mt_411_83 [(0, .ref 232), (1, .int v1), (2, .int v2), (6, .long v6)] [.int (mz_b01 s2), .int s1, .ref 341] false (mz_k S R N b t) := by
  unfold cf_411_83 at hC
  unfold cp_411_83 at hp
  obtain ⟨h1, hp⟩ := hp
  refine g_bast (mz_at hS (Nat.le_of_ble_eq_true rfl) mzcS_341) h1 (g_aload_n rfl (g_getR (mz_at hS (Nat.le_of_ble_eq_true rfl) mzcS_232) mzcf_12_159 (mz_rb hR (Nat.le_of_ble_eq_true rfl) rfl mzcR_232_159) (g_iconst mzi_4 (g_iconst mzi_4 (g_iload_n rfl (g_i2l ?_))))))
  obtain ⟨h2, hp⟩ := hp
  refine g_s4n (Nat.le_of_ble_eq_true rfl) (fun _ hq => cs_412 (Nat.le_trans (Nat.le_of_ble_eq_true rfl) hd) (hS.le (Nat.le_of_ble_eq_true rfl)) (hR.le (Nat.le_of_ble_eq_true rfl)) 341 48 (mz_at hS (Nat.le_of_ble_eq_true rfl) mzcS_341) 4 4 v2.toInt64 (mz_wI N 341 s1 (mz_nb (mz_b01 s2))) h2 hq) (g_aload_n rfl (g_getR (mz_at hS (Nat.le_of_ble_eq_true rfl) mzcS_232) mzcf_12_159 (mz_rb hR (Nat.le_of_ble_eq_true rfl) rfl mzcR_232_159) (g_bipush mzb_8 (g_iconst mzi_4 (g_lload rfl ?_)))))
  obtain ⟨h3, hp⟩ := hp
  refine g_s4n (Nat.le_of_ble_eq_true rfl) (fun _ hq => cs_412 (Nat.le_trans (Nat.le_of_ble_eq_true rfl) hd) (hS.le (Nat.le_of_ble_eq_true rfl)) (hR.le (Nat.le_of_ble_eq_true rfl)) 341 48 (mz_at hS (Nat.le_of_ble_eq_true rfl) mzcS_341) 8 4 v6 (cf_412_0 341 48 4 4 v2.toInt64 (mz_wI N 341 s1 (mz_nb (mz_b01 s2)))) h3 hq) ?_
  refine g_weak ?_ (g_cl (cg_411_107 hd hS hR v1 v2 (cf_412_0 341 48 8 4 v6 (cf_412_0 341 48 4 4 v2.toInt64 (mz_wI N 341 s1 (mz_nb (mz_b01 s2))))) hr hp hC))
  exact ⟨rfl, rfl, rfl, trivial⟩
theorem cb_411_3 (hd : 1 ≤ d) (hS : mz_extR S 342) (hR : mz_rok R 342)  (v1 : Int32) (v2 : Int32) (v3 : Int32) (v4 : Int32) (v5 : Bool) (v6 : Int64) (s : Int32 × mz_N) {C0 : (Bool × mz_N) → Prop} (hr : ∀ (w : Bool) (N2 : mz_N), C0 (w, N2) → Q (.inl (some (.int (mz_b01 w)))) (mz_k S R N2 b t)) {C1 : ((Int32 × mz_N) ⊕ (Bool × mz_N)) → Prop} (hc1 : ∀ s2, C1 (.inl s2) → mz_G (d, mz_X0 L xs, some .boolean, [], mk_411, 11, Q) 3 mt_411_3 [(0, .ref 232), (1, .int v1), (2, .int v2), (3, .int v3), (4, .int v4), (5, .int (mz_b01 v5)), (6, .long v6), (8, .int s2.1)] [] false (mz_k S R s2.2 b t)) (hx1 : ∀ z, C1 (.inr z) → C0 z) (hp : cd_411_3 v1 v2 v3 v4 v5 v6 s) (hC : C1 (cq_411_3 v1 v2 v3 v4 v5 v6 s)) : mz_G (d, mz_X0 L xs, some .boolean, [], mk_411, 11, Q) 3 mt_411_3 [(0, .ref 232), (1, .int v1), (2, .int v2), (3, .int v3), (4, .int v4), (5, .int (mz_b01 v5)), (6, .long v6), (8, .int s.1)] [] false (mz_k S R s.2 b t) := by
  unfold cq_411_3 at hC
  unfold cd_411_3 at hp
  refine g_iload rfl (g_bipush mzb_48 ?_)
  refine g_icge (tg := 51) rfl ms_411_51 hC (fun h1 hC => ?_) (fun h1 hC => ?_)
  · have hp := hp.1 h1
    refine g_aload_n rfl (g_getR (mz_at hS (Nat.le_of_ble_eq_true rfl) mzcS_232) mzcf_12_159 (mz_rb hR (Nat.le_of_ble_eq_true rfl) rfl mzcR_232_159) (g_iload rfl (g_iload rfl (g_bipush mzb_12 ?_))))
    refine g_iclt (tg := 43) rfl ms_411_43 hC (fun h2 hC => ?_) (fun h2 hC => ?_)
    · have hp := hp.1 h2
      refine g_weak ?_ (g_cl (cg_411_43 hd hS hR s.1 v1 v2 v3 v4 v5 v6 s.1 s.2 hr hc1 hx1 hp hC))
      exact ⟨rfl, rfl, rfl, rfl, rfl, rfl, rfl, rfl, trivial⟩
    · have hp := hp.2 h2
      refine g_iload rfl (g_bipush mzb_40 ?_)
      refine g_icge (tg := 43) rfl ms_411_43 hC (fun h3 hC => ?_) (fun h3 hC => ?_)
      · have hp := hp.1 h3
        refine g_aload_n rfl (g_getR (mz_at hS (Nat.le_of_ble_eq_true rfl) mzcS_232) mzcf_12_132 (mz_rb hR (Nat.le_of_ble_eq_true rfl) rfl mzcR_232_132) (g_iload rfl (g_bipush mzb_12 (g_isub ?_))))
        obtain ⟨h4, hp⟩ := hp
        refine g_bald (mz_at hS (Nat.le_of_ble_eq_true rfl) mzcS_332) h4 (g_goto (tg := 44) rfl ms_411_44 ?_)
        refine g_weak ?_ (g_cl (cg_411_44 hd hS hR s.1 (mz_gI s.2 332 (s.1 - 12)) v1 v2 v3 v4 v5 v6 s.1 s.2 hr hc1 hx1 hp hC))
        exact ⟨rfl, rfl, rfl, rfl, rfl, rfl, rfl, rfl, trivial⟩
      · have hp := hp.2 h3
        refine g_weak ?_ (g_cl (cg_411_43 hd hS hR s.1 v1 v2 v3 v4 v5 v6 s.1 s.2 hr hc1 hx1 hp hC))
        exact ⟨rfl, rfl, rfl, rfl, rfl, rfl, rfl, rfl, trivial⟩
  · have hp := hp.2 h1
    refine g_aload_n rfl (g_getR (mz_at hS (Nat.le_of_ble_eq_true rfl) mzcS_232) mzcf_12_159 (mz_rb hR (Nat.le_of_ble_eq_true rfl) rfl mzcR_232_159) (g_iconst mzi_0 (g_iload_n rfl (g_i2b (g_bast (mz_at hS (Nat.le_of_ble_eq_true rfl) mzcS_341) (mz_ibd (by decide)) (g_aload_n rfl (g_getR (mz_at hS (Nat.le_of_ble_eq_true rfl) mzcS_232) mzcf_12_159 (mz_rb hR (Nat.le_of_ble_eq_true rfl) rfl mzcR_232_159) ?_)))))))
    refine g_iconst mzi_1 (g_iload rfl (g_i2b (g_bast (mz_at hS (Nat.le_of_ble_eq_true rfl) mzcS_341) (mz_ibd (by decide)) (g_aload_n rfl (g_getR (mz_at hS (Nat.le_of_ble_eq_true rfl) mzcS_232) mzcf_12_159 (mz_rb hR (Nat.le_of_ble_eq_true rfl) rfl mzcR_232_159) (g_iconst mzi_2 (g_iload rfl ?_)))))))
    refine g_zeq (tg := 82) rfl ms_411_82 hC (fun h5 hC => ?_) (fun h5 hC => ?_)
    · have hp := hp.1 h5
      refine g_iconst mzi_1 (g_goto (tg := 83) rfl ms_411_83 ?_)
      refine g_weak ?_ (g_cl (cg_411_83 hd hS hR 2 true v1 v2 v6 (mz_wI (mz_wI s.2 341 0 (mz_nb (mz_i2b v3))) 341 1 (mz_nb (mz_i2b v4))) hr hp (hx1 _ hC)))
      exact ⟨rfl, rfl, rfl, rfl, trivial⟩
    · have hp := hp.2 h5
      refine g_iconst mzi_0 ?_
      refine g_weak ?_ (g_cl (cg_411_83 hd hS hR 2 false v1 v2 v6 (mz_wI (mz_wI s.2 341 0 (mz_nb (mz_i2b v3))) 341 1 (mz_nb (mz_i2b v4))) hr hp (hx1 _ hC)))
      exact ⟨rfl, rfl, rfl, rfl, trivial⟩
theorem cg_411_3 (hd : 1 ≤ d) (hS : mz_extR S 342) (hR : mz_rok R 342)  (v1 : Int32) (v2 : Int32) (v3 : Int32) (v4 : Int32) (v5 : Bool) (v6 : Int64) (v8 : Int32) (N : mz_N) {C0 : (Bool × mz_N) → Prop} (hr : ∀ (w : Bool) (N2 : mz_N), C0 (w, N2) → Q (.inl (some (.int (mz_b01 w)))) (mz_k S R N2 b t)) (hp : cp_411_3 v1 v2 v3 v4 v5 v6 v8 N) (hC : C0 (cf_411_3 v1 v2 v3 v4 v5 v6 v8 N)) : mz_G (d, mz_X0 L xs, some .boolean, [], mk_411, 11, Q) 3 mt_411_3 [(0, .ref 232), (1, .int v1), (2, .int v2), (3, .int v3), (4, .int v4), (5, .int (mz_b01 v5)), (6, .long v6), (8, .int v8)] [] false (mz_k S R N b t) := by
  obtain ⟨n, hn⟩ := hp
  exact g_loop (G := fun s => mz_G (d, mz_X0 L xs, some .boolean, [], mk_411, 11, Q) 3 mt_411_3 [(0, .ref 232), (1, .int v1), (2, .int v2), (3, .int v3), (4, .int v4), (5, .int (mz_b01 v5)), (6, .long v6), (8, .int s.1)] [] false (mz_k S R s.2 b t)) (C := C0) (fun C2 hc hx s hP hC => cb_411_3 hd hS hR v1 v2 v3 v4 v5 v6 s hr hc hx hP hC) n (v8, N) hn hC
theorem cg_411_0 (hd : 1 ≤ d) (hS : mz_extR S 342) (hR : mz_rok R 342)  (v1 : Int32) (v2 : Int32) (v3 : Int32) (v4 : Int32) (v5 : Bool) (v6 : Int64) (N : mz_N) {C0 : (Bool × mz_N) → Prop} (hr : ∀ (w : Bool) (N2 : mz_N), C0 (w, N2) → Q (.inl (some (.int (mz_b01 w)))) (mz_k S R N2 b t)) (hp : cp_411_0 v1 v2 v3 v4 v5 v6 N) (hC : C0 (cf_411_0 v1 v2 v3 v4 v5 v6 N)) : mz_G (d, mz_X0 L xs, some .boolean, [], mk_411, 11, Q) 0 mk_411 [(0, .ref 232), (1, .int v1), (2, .int v2), (3, .int v3), (4, .int v4), (5, .int (mz_b01 v5)), (6, .long v6)] [] true (mz_k S R N b t) := by
  unfold cf_411_0 at hC
  unfold cp_411_0 at hp
  refine g_iconst mzi_0 (g_istore (Nat.le_of_ble_eq_true rfl) rfl ?_)
  refine g_weak ?_ (g_cl (cg_411_3 hd hS hR v1 v2 v3 v4 v5 v6 0 N hr hp hC))
  exact ⟨rfl, rfl, rfl, rfl, rfl, rfl, rfl, rfl, trivial⟩
theorem cs_411 (hd : 2 ≤ d) (hS : mz_extR S 342) (hR : mz_rok R 342)  (v1 : Int32) (v2 : Int32) (v3 : Int32) (v4 : Int32) (v5 : Bool) (v6 : Int64) (N : mz_N) (hp : cp_411_0 v1 v2 v3 v4 v5 v6 N) (hq : Q (.inl (some (.int (mz_b01 ((cf_411_0 v1 v2 v3 v4 v5 v6 N).1))))) (mz_k S R ((cf_411_0 v1 v2 v3 v4 v5 v6 N).2) b t)) : mz_Ed (mz_X0 L xs) d 411 [.ref 232, .int v1, .int v2, .int v3, .int v4, .int (mz_b01 v5), .long v6] (mz_k S R N b t) Q :=
  by
  refine g_in mzq_411 (Nat.le_of_ble_eq_true rfl) (Nat.le_of_ble_eq_true rfl) (Nat.le_trans (Nat.le_of_ble_eq_true rfl) hd) ?_
  refine g_weak ?_ (cg_411_0 (d := d - 1) (by omega) hS hR v1 v2 v3 v4 v5 v6 N (C0 := fun z => Q (.inl (some (.int (mz_b01 z.1)))) (mz_k S R z.2 b t)) (fun _ _ h => h) hp hq)
  exact ⟨rfl, rfl, rfl, rfl, rfl, rfl, rfl, trivial⟩
/-! 409 KeptHouseModel.writeHead (IJJ)Z -/
theorem ms_409_0 : mz_sf mk_409 0 = mk_409 := mz_sf_zero _
theorem ms_409_3 : mz_sf mk_409 3 = mt_409_3 := mz_sf_add ms_409_0 (t := 3) rfl rfl
theorem ms_409_24 : mz_sf mk_409 24 = mt_409_24 := mz_sf_add ms_409_3 (t := 21) rfl rfl
set_option maxRecDepth 100000 in
theorem mzq_409 : mz_PG0 409 = some (12, ⟨"KeptHouseModel", "writeHead", "(IJJ)Z"⟩, prog_14_method_172_code, 7, some .boolean, [], mk_409, []) := rfl
theorem cb_409_3 (hd : 2 ≤ d) (hS : mz_extR S 342) (hR : mz_rok R 342)  (v1 : Int32) (v2 : Int64) (v4 : Int64) (s : Int32 × mz_N) {C0 : (Bool × mz_N) → Prop} (hr : ∀ (w : Bool) (N2 : mz_N), C0 (w, N2) → Q (.inl (some (.int (mz_b01 w)))) (mz_k S R N2 b t)) {C1 : ((Int32 × mz_N) ⊕ (Bool × mz_N)) → Prop} (hc1 : ∀ s2, C1 (.inl s2) → mz_G (d, mz_X0 L xs, some .boolean, [], mk_409, 7, Q) 3 mt_409_3 [(0, .ref 232), (1, .int v1), (2, .long v2), (4, .long v4), (6, .int s2.1)] [] false (mz_k S R s2.2 b t)) (hx1 : ∀ z, C1 (.inr z) → C0 z) (hp : cd_409_3 v1 v2 v4 s) (hC : C1 (cq_409_3 v1 v2 v4 s)) : mz_G (d, mz_X0 L xs, some .boolean, [], mk_409, 7, Q) 3 mt_409_3 [(0, .ref 232), (1, .int v1), (2, .long v2), (4, .long v4), (6, .int s.1)] [] false (mz_k S R s.2 b t) := by
  unfold cq_409_3 at hC
  unfold cd_409_3 at hp
  refine g_iload rfl (g_bipush mzb_28 ?_)
  refine g_icge (tg := 24) rfl ms_409_24 hC (fun h1 hC => ?_) (fun h1 hC => ?_)
  · have hp := hp.1 h1
    refine g_aload_n rfl (g_getR (mz_at hS (Nat.le_of_ble_eq_true rfl) mzcS_232) mzcf_12_132 (mz_rb hR (Nat.le_of_ble_eq_true rfl) rfl mzcR_232_132) (g_iload rfl (g_iconst mzi_0 ?_)))
    have h2 := hp
    refine g_bast (mz_at hS (Nat.le_of_ble_eq_true rfl) mzcS_332) h2 (g_iinc rfl mzi_1 (Nat.le_of_ble_eq_true rfl) rfl (g_goto (tg := 3) rfl ms_409_3 ?_))
    refine g_weak ?_ (g_cl (hc1 ((s.1 + 1), mz_wI s.2 332 s.1 (mz_nb 0)) hC))
    exact ⟨rfl, rfl, rfl, rfl, rfl, trivial⟩
  · have hp := hp.2 h1
    refine g_aload_n rfl (g_iconst mzi_0 (g_iconst mzi_4 (g_lload_n rfl ?_)))
    obtain ⟨h3, hp⟩ := hp
    refine g_v4n (Nat.le_of_ble_eq_true rfl) (mz_at hS (Nat.le_of_ble_eq_true rfl) mzcS_232) (fun _ hq => cs_410 (Nat.le_trans (Nat.le_of_ble_eq_true rfl) hd) (hS.le (Nat.le_of_ble_eq_true rfl)) (hR.le (Nat.le_of_ble_eq_true rfl))  0 4 v2 s.2 h3 hq) (g_aload_n rfl (g_iload_n rfl (g_iconst mzi_0 (g_iconst mzi_0 (g_iconst mzi_0 (g_iconst mzi_1 (g_lload rfl ?_)))))))
    have h4 := hp
    refine g_v7v (Nat.le_of_ble_eq_true rfl) (mz_at hS (Nat.le_of_ble_eq_true rfl) mzcS_232) (fun _ hq => cs_411 (Nat.le_trans (Nat.le_of_ble_eq_true rfl) hd) (hS.le (Nat.le_of_ble_eq_true rfl)) (hR.le (Nat.le_of_ble_eq_true rfl))  v1 0 0 0 true v4 (cf_410_0 0 4 v2 s.2) h4 hq) ?_
    exact g_zret (z := ((cf_411_0 v1 0 0 0 true v4 (cf_410_0 0 4 v2 s.2)).1)) rfl (hr _ _ (hx1 _ hC))
theorem cg_409_3 (hd : 2 ≤ d) (hS : mz_extR S 342) (hR : mz_rok R 342)  (v1 : Int32) (v2 : Int64) (v4 : Int64) (v6 : Int32) (N : mz_N) {C0 : (Bool × mz_N) → Prop} (hr : ∀ (w : Bool) (N2 : mz_N), C0 (w, N2) → Q (.inl (some (.int (mz_b01 w)))) (mz_k S R N2 b t)) (hp : cp_409_3 v1 v2 v4 v6 N) (hC : C0 (cf_409_3 v1 v2 v4 v6 N)) : mz_G (d, mz_X0 L xs, some .boolean, [], mk_409, 7, Q) 3 mt_409_3 [(0, .ref 232), (1, .int v1), (2, .long v2), (4, .long v4), (6, .int v6)] [] false (mz_k S R N b t) := by
  obtain ⟨n, hn⟩ := hp
  exact g_loop (G := fun s => mz_G (d, mz_X0 L xs, some .boolean, [], mk_409, 7, Q) 3 mt_409_3 [(0, .ref 232), (1, .int v1), (2, .long v2), (4, .long v4), (6, .int s.1)] [] false (mz_k S R s.2 b t)) (C := C0) (fun C2 hc hx s hP hC => cb_409_3 hd hS hR v1 v2 v4 s hr hc hx hP hC) n (v6, N) hn hC
theorem cg_409_0 (hd : 2 ≤ d) (hS : mz_extR S 342) (hR : mz_rok R 342)  (v1 : Int32) (v2 : Int64) (v4 : Int64) (N : mz_N) {C0 : (Bool × mz_N) → Prop} (hr : ∀ (w : Bool) (N2 : mz_N), C0 (w, N2) → Q (.inl (some (.int (mz_b01 w)))) (mz_k S R N2 b t)) (hp : cp_409_0 v1 v2 v4 N) (hC : C0 (cf_409_0 v1 v2 v4 N)) : mz_G (d, mz_X0 L xs, some .boolean, [], mk_409, 7, Q) 0 mk_409 [(0, .ref 232), (1, .int v1), (2, .long v2), (4, .long v4)] [] true (mz_k S R N b t) := by
  unfold cf_409_0 at hC
  unfold cp_409_0 at hp
  refine g_iconst mzi_0 (g_istore (Nat.le_of_ble_eq_true rfl) rfl ?_)
  refine g_weak ?_ (g_cl (cg_409_3 hd hS hR v1 v2 v4 0 N hr hp hC))
  exact ⟨rfl, rfl, rfl, rfl, rfl, trivial⟩
theorem cs_409 (hd : 3 ≤ d) (hS : mz_extR S 342) (hR : mz_rok R 342)  (v1 : Int32) (v2 : Int64) (v4 : Int64) (N : mz_N) (hp : cp_409_0 v1 v2 v4 N) (hq : Q (.inl (some (.int (mz_b01 ((cf_409_0 v1 v2 v4 N).1))))) (mz_k S R ((cf_409_0 v1 v2 v4 N).2) b t)) : mz_Ed (mz_X0 L xs) d 409 [.ref 232, .int v1, .long v2, .long v4] (mz_k S R N b t) Q :=
  by
  refine g_in mzq_409 (Nat.le_of_ble_eq_true rfl) (Nat.le_of_ble_eq_true rfl) (Nat.le_trans (Nat.le_of_ble_eq_true rfl) hd) ?_
  refine g_weak ?_ (cg_409_0 (d := d - 1) (by omega) hS hR v1 v2 v4 N (C0 := fun z => Q (.inl (some (.int (mz_b01 z.1)))) (mz_k S R z.2 b t)) (fun _ _ h => h) hp hq)
  exact ⟨rfl, rfl, rfl, rfl, trivial⟩
/-! 417 KeptHouseModel.isBorder (I)Z -/
theorem ms_417_0 : mz_sf mk_417 0 = mk_417 := mz_sf_zero _
theorem ms_417_22 : mz_sf mk_417 22 = mt_417_22 := mz_sf_add ms_417_0 (t := 22) rfl rfl
theorem ms_417_26 : mz_sf mk_417 26 = mt_417_26 := mz_sf_add ms_417_22 (t := 4) rfl rfl
theorem ms_417_30 : mz_sf mk_417 30 = mt_417_30 := mz_sf_add ms_417_26 (t := 4) rfl rfl
theorem ms_417_42 : mz_sf mk_417 42 = mt_417_42 := mz_sf_add ms_417_30 (t := 12) rfl rfl
theorem ms_417_46 : mz_sf mk_417 46 = mt_417_46 := mz_sf_add ms_417_42 (t := 4) rfl rfl
theorem ms_417_47 : mz_sf mk_417 47 = mt_417_47 := mz_sf_add ms_417_46 (t := 1) rfl rfl
set_option maxRecDepth 100000 in
theorem mzq_417 : mz_PG0 417 = some (12, ⟨"KeptHouseModel", "isBorder", "(I)Z"⟩, prog_14_method_7_code, 1, some .boolean, [], mk_417, []) := rfl
theorem cg_417_0 (hd : 0 ≤ d) (hS : mz_extR S 342) (hR : mz_rok R 342)  (v0 : Int32) {C0 : (Bool) → Prop} (hr : ∀ (w : Bool), C0 w → Q (.inl (some (.int (mz_b01 w)))) (mz_k S R N b t)) (hp : cp_417_0 v0) (hC : C0 (cf_417_0 v0)) : mz_G (d, mz_X0 L xs, some .boolean, [], mk_417, 1, Q) 0 mk_417 [(0, .int v0)] [] true (mz_k S R N b t) := by
  unfold cf_417_0 at hC
  unfold cp_417_0 at hp
  refine g_iload_n rfl (g_bipush mzb_54 ?_)
  refine g_icge (tg := 30) rfl ms_417_30 hC (fun h1 hC => ?_) (fun h1 hC => ?_)
  · refine g_iload_n rfl (g_bipush mzb_9 (g_irem (by decide) ?_))
    refine g_ifeq (tg := 22) rfl ms_417_22 hC (fun h2 hC => ?_) (fun h2 hC => ?_)
    · refine g_iconst mzi_1 (g_goto (tg := 47) rfl ms_417_47 ?_)
      exact g_zret (z := true) rfl (hr _ hC)
    · refine g_iload_n rfl (g_bipush mzb_9 (g_irem (by decide) (g_bipush mzb_8 ?_)))
      refine g_icne (tg := 26) rfl ms_417_26 hC (fun h3 hC => ?_) (fun h3 hC => ?_)
      · refine g_iconst mzi_1 (g_goto (tg := 47) rfl ms_417_47 ?_)
        exact g_zret (z := true) rfl (hr _ hC)
      · refine g_iconst mzi_0 (g_goto (tg := 47) rfl ms_417_47 ?_)
        exact g_zret (z := false) rfl (hr _ hC)
  · refine g_iload_n rfl (g_bipush mzb_62 ?_)
    refine g_iclt (tg := 42) rfl ms_417_42 hC (fun h4 hC => ?_) (fun h4 hC => ?_)
    · refine g_iconst mzi_1 (g_goto (tg := 47) rfl ms_417_47 ?_)
      exact g_zret (z := true) rfl (hr _ hC)
    · refine g_iload_n rfl (g_bipush mzb_101 ?_)
      refine g_icle (tg := 46) rfl ms_417_46 hC (fun h5 hC => ?_) (fun h5 hC => ?_)
      · refine g_iconst mzi_1 (g_goto (tg := 47) rfl ms_417_47 ?_)
        exact g_zret (z := true) rfl (hr _ hC)
      · refine g_iconst mzi_0 ?_
        exact g_zret (z := false) rfl (hr _ hC)
theorem cs_417 (hd : 1 ≤ d) (hS : mz_extR S 342) (hR : mz_rok R 342)  (v0 : Int32) (hp : cp_417_0 v0) (hq : Q (.inl (some (.int (mz_b01 (cf_417_0 v0))))) (mz_k S R N b t)) : mz_Ed (mz_X0 L xs) d 417 [.int v0] (mz_k S R N b t) Q :=
  by
  refine g_in mzq_417 (Nat.le_of_ble_eq_true rfl) (Nat.le_of_ble_eq_true rfl) (Nat.le_trans (Nat.le_of_ble_eq_true rfl) hd) ?_
  refine g_weak ?_ (cg_417_0 (d := d - 1) (by omega) hS hR v0 (C0 := fun z => Q (.inl (some (.int (mz_b01 z)))) (mz_k S R N b t)) (fun _ h => h) hp hq)
  exact ⟨rfl, trivial⟩
/-! 416 KeptHouseModel.firstPlan (I)V -/
theorem ms_416_0 : mz_sf mk_416 0 = mk_416 := mz_sf_zero _
theorem ms_416_2 : mz_sf mk_416 2 = mt_416_2 := mz_sf_add ms_416_0 (t := 2) rfl rfl
theorem ms_416_34 : mz_sf mk_416 34 = mt_416_34 := mz_sf_add ms_416_2 (t := 32) rfl rfl
theorem ms_416_35 : mz_sf mk_416 35 = mt_416_35 := mz_sf_add ms_416_34 (t := 1) rfl rfl
theorem ms_416_42 : mz_sf mk_416 42 = mt_416_42 := mz_sf_add ms_416_35 (t := 7) rfl rfl
set_option maxRecDepth 100000 in
theorem mzq_416 : mz_PG0 416 = some (12, ⟨"KeptHouseModel", "firstPlan", "(I)V"⟩, prog_14_method_187_code, 3, none, [], mk_416, []) := rfl
theorem cg_416_35 (hd : 1 ≤ d) (hS : mz_extR S 342) (hR : mz_rok R 342)  (s1 : Int32) (s2 : Int32) (v1 : Int32) (v2 : Int32) (N : mz_N) {C0 : (mz_N) → Prop} (hr : ∀ (N2 : mz_N), C0 N2 → Q (.inl none) (mz_k S R N2 b t)) {C1 : ((Int32 × mz_N) ⊕ (mz_N)) → Prop} (hc1 : ∀ s2, C1 (.inl s2) → mz_G (d, mz_X0 L xs, none, [], mk_416, 3, Q) 2 mt_416_2 [(0, .ref 232), (1, .int v1), (2, .int s2.1)] [] false (mz_k S R s2.2 b t)) (hx1 : ∀ z, C1 (.inr z) → C0 z) (hp : cp_416_35 s1 s2 v1 v2 N) (hC : C1 (cf_416_35 s1 s2 v1 v2 N)) : mz_G (d, mz_X0 L xs, none, [], mk_416, 3, Q) 35 mt_416_35 [(0, .ref 232), (1, .int v1), (2, .int v2)] [.int s2, .int s1, .ref 233] false (mz_k S R N b t) := by
  unfold cf_416_35 at hC
  unfold cp_416_35 at hp
  have h1 := hp
  refine g_iast (mz_at hS (Nat.le_of_ble_eq_true rfl) mzcS_233) h1 (g_iinc rfl mzi_1 (Nat.le_of_ble_eq_true rfl) rfl (g_goto (tg := 2) rfl ms_416_2 ?_))
  refine g_weak ?_ (g_cl (hc1 ((v2 + 1), mz_wI N 233 s1 s2) hC))
  exact ⟨rfl, rfl, rfl, trivial⟩
theorem cb_416_2 (hd : 1 ≤ d) (hS : mz_extR S 342) (hR : mz_rok R 342)  (v1 : Int32) (s : Int32 × mz_N) {C0 : (mz_N) → Prop} (hr : ∀ (N2 : mz_N), C0 N2 → Q (.inl none) (mz_k S R N2 b t)) {C1 : ((Int32 × mz_N) ⊕ (mz_N)) → Prop} (hc1 : ∀ s2, C1 (.inl s2) → mz_G (d, mz_X0 L xs, none, [], mk_416, 3, Q) 2 mt_416_2 [(0, .ref 232), (1, .int v1), (2, .int s2.1)] [] false (mz_k S R s2.2 b t)) (hx1 : ∀ z, C1 (.inr z) → C0 z) (hp : cd_416_2 v1 s) (hC : C1 (cq_416_2 v1 s)) : mz_G (d, mz_X0 L xs, none, [], mk_416, 3, Q) 2 mt_416_2 [(0, .ref 232), (1, .int v1), (2, .int s.1)] [] false (mz_k S R s.2 b t) := by
  unfold cq_416_2 at hC
  unfold cd_416_2 at hp
  refine g_iload_n rfl (g_sipush mzs_550 ?_)
  refine g_icge (tg := 42) rfl ms_416_42 hC (fun h1 hC => ?_) (fun h1 hC => ?_)
  · have hp := hp.1 h1
    refine g_aload_n rfl (g_getR (mz_at hS (Nat.le_of_ble_eq_true rfl) mzcS_232) mzcf_12_3 (mz_rb hR (Nat.le_of_ble_eq_true rfl) rfl mzcR_232_3) (g_sipush mzs_550 (g_iload_n rfl (g_imul (g_iload_n rfl (g_iadd (g_iload_n rfl ?_)))))))
    refine g_bipush mzb_110 (g_irem (by decide) ?_)
    refine g_s1v (Nat.le_of_ble_eq_true rfl) (fun _ hq => cs_417 (Nat.le_trans (Nat.le_of_ble_eq_true rfl) hd) (hS.le (Nat.le_of_ble_eq_true rfl)) (hR.le (Nat.le_of_ble_eq_true rfl))  (mz_irem s.1 110) trivial hq) ?_
    refine g_zeq (tg := 34) rfl ms_416_34 hC (fun h3 hC => ?_) (fun h3 hC => ?_)
    · have hp := hp.1 h3
      refine g_iconst mzi_2 (g_goto (tg := 35) rfl ms_416_35 ?_)
      refine g_weak ?_ (g_cl (cg_416_35 hd hS hR ((550 * v1) + s.1) 2 v1 s.1 s.2 hr hc1 hx1 hp hC))
      exact ⟨rfl, rfl, rfl, trivial⟩
    · have hp := hp.2 h3
      refine g_iconst mzi_0 ?_
      refine g_weak ?_ (g_cl (cg_416_35 hd hS hR ((550 * v1) + s.1) 0 v1 s.1 s.2 hr hc1 hx1 hp hC))
      exact ⟨rfl, rfl, rfl, trivial⟩
  · have hp := hp.2 h1
    exact g_vret rfl (hr _ (hx1 _ hC))
theorem cg_416_2 (hd : 1 ≤ d) (hS : mz_extR S 342) (hR : mz_rok R 342)  (v1 : Int32) (v2 : Int32) (N : mz_N) {C0 : (mz_N) → Prop} (hr : ∀ (N2 : mz_N), C0 N2 → Q (.inl none) (mz_k S R N2 b t)) (hp : cp_416_2 v1 v2 N) (hC : C0 (cf_416_2 v1 v2 N)) : mz_G (d, mz_X0 L xs, none, [], mk_416, 3, Q) 2 mt_416_2 [(0, .ref 232), (1, .int v1), (2, .int v2)] [] false (mz_k S R N b t) := by
  obtain ⟨n, hn⟩ := hp
  exact g_loop (G := fun s => mz_G (d, mz_X0 L xs, none, [], mk_416, 3, Q) 2 mt_416_2 [(0, .ref 232), (1, .int v1), (2, .int s.1)] [] false (mz_k S R s.2 b t)) (C := C0) (fun C2 hc hx s hP hC => cb_416_2 hd hS hR v1 s hr hc hx hP hC) n (v2, N) hn hC
theorem cg_416_0 (hd : 1 ≤ d) (hS : mz_extR S 342) (hR : mz_rok R 342)  (v1 : Int32) (N : mz_N) {C0 : (mz_N) → Prop} (hr : ∀ (N2 : mz_N), C0 N2 → Q (.inl none) (mz_k S R N2 b t)) (hp : cp_416_0 v1 N) (hC : C0 (cf_416_0 v1 N)) : mz_G (d, mz_X0 L xs, none, [], mk_416, 3, Q) 0 mk_416 [(0, .ref 232), (1, .int v1)] [] true (mz_k S R N b t) := by
  unfold cf_416_0 at hC
  unfold cp_416_0 at hp
  refine g_iconst mzi_0 (g_istore_n (Nat.le_of_ble_eq_true rfl) rfl ?_)
  refine g_weak ?_ (g_cl (cg_416_2 hd hS hR v1 0 N hr hp hC))
  exact ⟨rfl, rfl, rfl, trivial⟩
theorem cs_416 (hd : 2 ≤ d) (hS : mz_extR S 342) (hR : mz_rok R 342)  (v1 : Int32) (N : mz_N) (hp : cp_416_0 v1 N) (hq : Q (.inl none) (mz_k S R (cf_416_0 v1 N) b t)) : mz_Ed (mz_X0 L xs) d 416 [.ref 232, .int v1] (mz_k S R N b t) Q :=
  by
  refine g_in mzq_416 (Nat.le_of_ble_eq_true rfl) (Nat.le_of_ble_eq_true rfl) (Nat.le_trans (Nat.le_of_ble_eq_true rfl) hd) ?_
  refine g_weak ?_ (cg_416_0 (d := d - 1) (by omega) hS hR v1 N (C0 := fun z => Q (.inl none) (mz_k S R z b t)) (fun _ h => h) hp hq)
  exact ⟨rfl, rfl, trivial⟩
/-! 418 KeptHouseModel.firstNumbers ()V -/
theorem ms_418_0 : mz_sf mk_418 0 = mk_418 := mz_sf_zero _
theorem ms_418_20 : mz_sf mk_418 20 = mt_418_20 := mz_sf_add ms_418_0 (t := 20) rfl rfl
theorem ms_418_43 : mz_sf mk_418 43 = mt_418_43 := mz_sf_add ms_418_20 (t := 23) rfl rfl
theorem ms_418_69 : mz_sf mk_418 69 = mt_418_69 := mz_sf_add ms_418_43 (t := 26) rfl rfl
theorem ms_418_89 : mz_sf mk_418 89 = mt_418_89 := mz_sf_add ms_418_69 (t := 20) rfl rfl
theorem ms_418_109 : mz_sf mk_418 109 = mt_418_109 := mz_sf_add ms_418_89 (t := 20) rfl rfl
theorem ms_418_126 : mz_sf mk_418 126 = mt_418_126 := mz_sf_add ms_418_109 (t := 17) rfl rfl
theorem ms_418_145 : mz_sf mk_418 145 = mt_418_145 := mz_sf_add ms_418_126 (t := 19) rfl rfl
theorem ms_418_147 : mz_sf mk_418 147 = mt_418_147 := mz_sf_add ms_418_145 (t := 2) rfl rfl
theorem ms_418_167 : mz_sf mk_418 167 = mt_418_167 := mz_sf_add ms_418_147 (t := 20) rfl rfl
theorem ms_418_173 : mz_sf mk_418 173 = mt_418_173 := mz_sf_add ms_418_167 (t := 6) rfl rfl
theorem ms_418_175 : mz_sf mk_418 175 = mt_418_175 := mz_sf_add ms_418_173 (t := 2) rfl rfl
theorem ms_418_194 : mz_sf mk_418 194 = mt_418_194 := mz_sf_add ms_418_175 (t := 19) rfl rfl
theorem ms_418_196 : mz_sf mk_418 196 = mt_418_196 := mz_sf_add ms_418_194 (t := 2) rfl rfl
theorem ms_418_215 : mz_sf mk_418 215 = mt_418_215 := mz_sf_add ms_418_196 (t := 19) rfl rfl
theorem ms_418_217 : mz_sf mk_418 217 = mt_418_217 := mz_sf_add ms_418_215 (t := 2) rfl rfl
theorem ms_418_237 : mz_sf mk_418 237 = mt_418_237 := mz_sf_add ms_418_217 (t := 20) rfl rfl
theorem ms_418_243 : mz_sf mk_418 243 = mt_418_243 := mz_sf_add ms_418_237 (t := 6) rfl rfl
theorem ms_418_245 : mz_sf mk_418 245 = mt_418_245 := mz_sf_add ms_418_243 (t := 2) rfl rfl
theorem ms_418_266 : mz_sf mk_418 266 = mt_418_266 := mz_sf_add ms_418_245 (t := 21) rfl rfl
theorem ms_418_279 : mz_sf mk_418 279 = mt_418_279 := mz_sf_add ms_418_266 (t := 13) rfl rfl
set_option maxRecDepth 100000 in
theorem mzq_418 : mz_PG0 418 = some (12, ⟨"KeptHouseModel", "firstNumbers", "()V"⟩, prog_14_method_189_code, 2, none, [], mk_418, []) := rfl
theorem cb_418_245 (hd : 0 ≤ d) (hS : mz_extR S 342) (hR : mz_rok R 342)   (s : Int32 × mz_N) {C0 : (mz_N) → Prop} (hr : ∀ (N2 : mz_N), C0 N2 → Q (.inl none) (mz_k S R N2 b t)) {C1 : ((Int32 × mz_N) ⊕ (mz_N)) → Prop} (hc1 : ∀ s2, C1 (.inl s2) → mz_G (d, mz_X0 L xs, none, [], mk_418, 2, Q) 245 mt_418_245 [(0, .ref 232), (1, .int s2.1)] [] false (mz_k S R s2.2 b t)) (hx1 : ∀ z, C1 (.inr z) → C0 z) (hp : cd_418_245  s) (hC : C1 (cq_418_245  s)) : mz_G (d, mz_X0 L xs, none, [], mk_418, 2, Q) 245 mt_418_245 [(0, .ref 232), (1, .int s.1)] [] false (mz_k S R s.2 b t) := by
  unfold cq_418_245 at hC
  unfold cd_418_245 at hp
  refine g_iload_n rfl (g_iconst mzi_2 ?_)
  refine g_icge (tg := 279) rfl ms_418_279 hC (fun h1 hC => ?_) (fun h1 hC => ?_)
  · have hp := hp.1 h1
    refine g_aload_n rfl (g_getR (mz_at hS (Nat.le_of_ble_eq_true rfl) mzcS_232) mzcf_12_92 (mz_rb hR (Nat.le_of_ble_eq_true rfl) rfl mzcR_232_92) (g_iload_n rfl (g_con3 ?_)))
    obtain ⟨h2, hp⟩ := hp
    refine g_last (mz_at hS (Nat.le_of_ble_eq_true rfl) mzcS_298) h2 (g_aload_n rfl (g_getR (mz_at hS (Nat.le_of_ble_eq_true rfl) mzcS_232) mzcf_12_90 (mz_rb hR (Nat.le_of_ble_eq_true rfl) rfl mzcR_232_90) (g_iload_n rfl (g_iconst mzi_0 ?_))))
    obtain ⟨h3, hp⟩ := hp
    refine g_iast (mz_at hS (Nat.le_of_ble_eq_true rfl) mzcS_296) h3 (g_aload_n rfl (g_getR (mz_at hS (Nat.le_of_ble_eq_true rfl) mzcS_232) mzcf_12_91 (mz_rb hR (Nat.le_of_ble_eq_true rfl) rfl mzcR_232_91) (g_iload_n rfl (g_iconst mzi_0 ?_))))
    have h4 := hp
    refine g_iast (mz_at hS (Nat.le_of_ble_eq_true rfl) mzcS_297) h4 (g_iinc rfl mzi_1 (Nat.le_of_ble_eq_true rfl) rfl (g_goto (tg := 245) rfl ms_418_245 ?_))
    have hg := hc1 ((s.1 + 1), mz_wI (mz_wI (mz_wL s.2 298 s.1 (-1)) 296 s.1 0) 297 s.1 0) hC
    try dsimp only at hg
    refine g_weak ?_ (g_cl hg)
    exact ⟨rfl, rfl, trivial⟩
  · have hp := hp.2 h1
    exact g_vret rfl (hr _ (hx1 _ hC))
theorem cg_418_245 (hd : 0 ≤ d) (hS : mz_extR S 342) (hR : mz_rok R 342)  (v1 : Int32) (N : mz_N) {C0 : (mz_N) → Prop} (hr : ∀ (N2 : mz_N), C0 N2 → Q (.inl none) (mz_k S R N2 b t)) (hp : cp_418_245 v1 N) (hC : C0 (cf_418_245 v1 N)) : mz_G (d, mz_X0 L xs, none, [], mk_418, 2, Q) 245 mt_418_245 [(0, .ref 232), (1, .int v1)] [] false (mz_k S R N b t) := by
  obtain ⟨n, hn⟩ := hp
  exact g_loop (G := fun s => mz_G (d, mz_X0 L xs, none, [], mk_418, 2, Q) 245 mt_418_245 [(0, .ref 232), (1, .int s.1)] [] false (mz_k S R s.2 b t)) (C := C0) (fun C2 hc hx s hP hC => cb_418_245 hd hS hR  s hr hc hx hP hC) n (v1, N) hn hC
theorem cb_418_217 (hd : 0 ≤ d) (hS : mz_extR S 342) (hR : mz_rok R 342)   (s : Int32 × mz_N) {C0 : (mz_N) → Prop} (hr : ∀ (N2 : mz_N), C0 N2 → Q (.inl none) (mz_k S R N2 b t)) {C1 : ((Int32 × mz_N) ⊕ (mz_N)) → Prop} (hc1 : ∀ s2, C1 (.inl s2) → mz_G (d, mz_X0 L xs, none, [], mk_418, 2, Q) 217 mt_418_217 [(0, .ref 232), (1, .int s2.1)] [] false (mz_k S R s2.2 b t)) (hx1 : ∀ z, C1 (.inr z) → C0 z) (hp : cd_418_217  s) (hC : C1 (cq_418_217  s)) : mz_G (d, mz_X0 L xs, none, [], mk_418, 2, Q) 217 mt_418_217 [(0, .ref 232), (1, .int s.1)] [] false (mz_k S R s.2 b t) := by
  unfold cq_418_217 at hC
  unfold cd_418_217 at hp
  refine g_iload_n rfl (g_bipush mzb_40 ?_)
  refine g_icge (tg := 243) rfl ms_418_243 hC (fun h1 hC => ?_) (fun h1 hC => ?_)
  · have hp := hp.1 h1
    refine g_aload_n rfl (g_getR (mz_at hS (Nat.le_of_ble_eq_true rfl) mzcS_232) mzcf_12_106 (mz_rb hR (Nat.le_of_ble_eq_true rfl) rfl mzcR_232_106) (g_iload_n rfl (g_iconst mzi_0 ?_)))
    obtain ⟨h2, hp⟩ := hp
    refine g_zast (z := false) (mz_at hS (Nat.le_of_ble_eq_true rfl) mzcS_311) h2 (g_aload_n rfl (g_getR (mz_at hS (Nat.le_of_ble_eq_true rfl) mzcS_232) mzcf_12_111 (mz_rb hR (Nat.le_of_ble_eq_true rfl) rfl mzcR_232_111) (g_iload_n rfl (g_iconst mzi_m1 ?_))))
    have h3 := hp
    refine g_iast (mz_at hS (Nat.le_of_ble_eq_true rfl) mzcS_316) h3 (g_iinc rfl mzi_1 (Nat.le_of_ble_eq_true rfl) rfl (g_goto (tg := 217) rfl ms_418_217 ?_))
    have hg := hc1 ((s.1 + 1), mz_wI (mz_wI s.2 311 s.1 (mz_b01 false)) 316 s.1 (-1)) hC
    try dsimp only at hg
    refine g_weak ?_ (g_cl hg)
    exact ⟨rfl, rfl, trivial⟩
  · have hp := hp.2 h1
    refine g_iconst mzi_0 (g_istore_n (Nat.le_of_ble_eq_true rfl) rfl ?_)
    refine g_weak ?_ (g_cl (cg_418_245 hd hS hR 0 s.2 hr hp (hx1 _ hC)))
    exact ⟨rfl, rfl, trivial⟩
theorem cg_418_217 (hd : 0 ≤ d) (hS : mz_extR S 342) (hR : mz_rok R 342)  (v1 : Int32) (N : mz_N) {C0 : (mz_N) → Prop} (hr : ∀ (N2 : mz_N), C0 N2 → Q (.inl none) (mz_k S R N2 b t)) (hp : cp_418_217 v1 N) (hC : C0 (cf_418_217 v1 N)) : mz_G (d, mz_X0 L xs, none, [], mk_418, 2, Q) 217 mt_418_217 [(0, .ref 232), (1, .int v1)] [] false (mz_k S R N b t) := by
  obtain ⟨n, hn⟩ := hp
  exact g_loop (G := fun s => mz_G (d, mz_X0 L xs, none, [], mk_418, 2, Q) 217 mt_418_217 [(0, .ref 232), (1, .int s.1)] [] false (mz_k S R s.2 b t)) (C := C0) (fun C2 hc hx s hP hC => cb_418_217 hd hS hR  s hr hc hx hP hC) n (v1, N) hn hC
theorem cb_418_196 (hd : 0 ≤ d) (hS : mz_extR S 342) (hR : mz_rok R 342)   (s : Int32 × mz_N) {C0 : (mz_N) → Prop} (hr : ∀ (N2 : mz_N), C0 N2 → Q (.inl none) (mz_k S R N2 b t)) {C1 : ((Int32 × mz_N) ⊕ (mz_N)) → Prop} (hc1 : ∀ s2, C1 (.inl s2) → mz_G (d, mz_X0 L xs, none, [], mk_418, 2, Q) 196 mt_418_196 [(0, .ref 232), (1, .int s2.1)] [] false (mz_k S R s2.2 b t)) (hx1 : ∀ z, C1 (.inr z) → C0 z) (hp : cd_418_196  s) (hC : C1 (cq_418_196  s)) : mz_G (d, mz_X0 L xs, none, [], mk_418, 2, Q) 196 mt_418_196 [(0, .ref 232), (1, .int s.1)] [] false (mz_k S R s.2 b t) := by
  unfold cq_418_196 at hC
  unfold cd_418_196 at hp
  refine g_iload_n rfl (g_bipush mzb_20 ?_)
  refine g_icge (tg := 215) rfl ms_418_215 hC (fun h1 hC => ?_) (fun h1 hC => ?_)
  · have hp := hp.1 h1
    refine g_aload_n rfl (g_getR (mz_at hS (Nat.le_of_ble_eq_true rfl) mzcS_232) mzcf_12_103 (mz_rb hR (Nat.le_of_ble_eq_true rfl) rfl mzcR_232_103) (g_iload_n rfl (g_iconst mzi_0 ?_)))
    have h2 := hp
    refine g_zast (z := false) (mz_at hS (Nat.le_of_ble_eq_true rfl) mzcS_308) h2 (g_iinc rfl mzi_1 (Nat.le_of_ble_eq_true rfl) rfl (g_goto (tg := 196) rfl ms_418_196 ?_))
    refine g_weak ?_ (g_cl (hc1 ((s.1 + 1), mz_wI s.2 308 s.1 (mz_b01 false)) hC))
    exact ⟨rfl, rfl, trivial⟩
  · have hp := hp.2 h1
    refine g_iconst mzi_0 (g_istore_n (Nat.le_of_ble_eq_true rfl) rfl ?_)
    refine g_weak ?_ (g_cl (cg_418_217 hd hS hR 0 s.2 hr hp (hx1 _ hC)))
    exact ⟨rfl, rfl, trivial⟩
theorem cg_418_196 (hd : 0 ≤ d) (hS : mz_extR S 342) (hR : mz_rok R 342)  (v1 : Int32) (N : mz_N) {C0 : (mz_N) → Prop} (hr : ∀ (N2 : mz_N), C0 N2 → Q (.inl none) (mz_k S R N2 b t)) (hp : cp_418_196 v1 N) (hC : C0 (cf_418_196 v1 N)) : mz_G (d, mz_X0 L xs, none, [], mk_418, 2, Q) 196 mt_418_196 [(0, .ref 232), (1, .int v1)] [] false (mz_k S R N b t) := by
  obtain ⟨n, hn⟩ := hp
  exact g_loop (G := fun s => mz_G (d, mz_X0 L xs, none, [], mk_418, 2, Q) 196 mt_418_196 [(0, .ref 232), (1, .int s.1)] [] false (mz_k S R s.2 b t)) (C := C0) (fun C2 hc hx s hP hC => cb_418_196 hd hS hR  s hr hc hx hP hC) n (v1, N) hn hC
theorem cb_418_175 (hd : 0 ≤ d) (hS : mz_extR S 342) (hR : mz_rok R 342)   (s : Int32 × mz_N) {C0 : (mz_N) → Prop} (hr : ∀ (N2 : mz_N), C0 N2 → Q (.inl none) (mz_k S R N2 b t)) {C1 : ((Int32 × mz_N) ⊕ (mz_N)) → Prop} (hc1 : ∀ s2, C1 (.inl s2) → mz_G (d, mz_X0 L xs, none, [], mk_418, 2, Q) 175 mt_418_175 [(0, .ref 232), (1, .int s2.1)] [] false (mz_k S R s2.2 b t)) (hx1 : ∀ z, C1 (.inr z) → C0 z) (hp : cd_418_175  s) (hC : C1 (cq_418_175  s)) : mz_G (d, mz_X0 L xs, none, [], mk_418, 2, Q) 175 mt_418_175 [(0, .ref 232), (1, .int s.1)] [] false (mz_k S R s.2 b t) := by
  unfold cq_418_175 at hC
  unfold cd_418_175 at hp
  refine g_iload_n rfl (g_bipush mzb_16 ?_)
  refine g_icge (tg := 194) rfl ms_418_194 hC (fun h1 hC => ?_) (fun h1 hC => ?_)
  · have hp := hp.1 h1
    refine g_aload_n rfl (g_getR (mz_at hS (Nat.le_of_ble_eq_true rfl) mzcS_232) mzcf_12_80 (mz_rb hR (Nat.le_of_ble_eq_true rfl) rfl mzcR_232_80) (g_iload_n rfl (g_iconst mzi_0 ?_)))
    have h2 := hp
    refine g_zast (z := false) (mz_at hS (Nat.le_of_ble_eq_true rfl) mzcS_287) h2 (g_iinc rfl mzi_1 (Nat.le_of_ble_eq_true rfl) rfl (g_goto (tg := 175) rfl ms_418_175 ?_))
    refine g_weak ?_ (g_cl (hc1 ((s.1 + 1), mz_wI s.2 287 s.1 (mz_b01 false)) hC))
    exact ⟨rfl, rfl, trivial⟩
  · have hp := hp.2 h1
    refine g_iconst mzi_0 (g_istore_n (Nat.le_of_ble_eq_true rfl) rfl ?_)
    refine g_weak ?_ (g_cl (cg_418_196 hd hS hR 0 s.2 hr hp (hx1 _ hC)))
    exact ⟨rfl, rfl, trivial⟩
theorem cg_418_175 (hd : 0 ≤ d) (hS : mz_extR S 342) (hR : mz_rok R 342)  (v1 : Int32) (N : mz_N) {C0 : (mz_N) → Prop} (hr : ∀ (N2 : mz_N), C0 N2 → Q (.inl none) (mz_k S R N2 b t)) (hp : cp_418_175 v1 N) (hC : C0 (cf_418_175 v1 N)) : mz_G (d, mz_X0 L xs, none, [], mk_418, 2, Q) 175 mt_418_175 [(0, .ref 232), (1, .int v1)] [] false (mz_k S R N b t) := by
  obtain ⟨n, hn⟩ := hp
  exact g_loop (G := fun s => mz_G (d, mz_X0 L xs, none, [], mk_418, 2, Q) 175 mt_418_175 [(0, .ref 232), (1, .int s.1)] [] false (mz_k S R s.2 b t)) (C := C0) (fun C2 hc hx s hP hC => cb_418_175 hd hS hR  s hr hc hx hP hC) n (v1, N) hn hC
theorem cb_418_147 (hd : 0 ≤ d) (hS : mz_extR S 342) (hR : mz_rok R 342)   (s : Int32 × mz_N) {C0 : (mz_N) → Prop} (hr : ∀ (N2 : mz_N), C0 N2 → Q (.inl none) (mz_k S R N2 b t)) {C1 : ((Int32 × mz_N) ⊕ (mz_N)) → Prop} (hc1 : ∀ s2, C1 (.inl s2) → mz_G (d, mz_X0 L xs, none, [], mk_418, 2, Q) 147 mt_418_147 [(0, .ref 232), (1, .int s2.1)] [] false (mz_k S R s2.2 b t)) (hx1 : ∀ z, C1 (.inr z) → C0 z) (hp : cd_418_147  s) (hC : C1 (cq_418_147  s)) : mz_G (d, mz_X0 L xs, none, [], mk_418, 2, Q) 147 mt_418_147 [(0, .ref 232), (1, .int s.1)] [] false (mz_k S R s.2 b t) := by
  unfold cq_418_147 at hC
  unfold cd_418_147 at hp
  refine g_iload_n rfl (g_bipush mzb_8 ?_)
  refine g_icge (tg := 173) rfl ms_418_173 hC (fun h1 hC => ?_) (fun h1 hC => ?_)
  · have hp := hp.1 h1
    refine g_aload_n rfl (g_getR (mz_at hS (Nat.le_of_ble_eq_true rfl) mzcS_232) mzcf_12_75 (mz_rb hR (Nat.le_of_ble_eq_true rfl) rfl mzcR_232_75) (g_iload_n rfl (g_iconst mzi_0 ?_)))
    obtain ⟨h2, hp⟩ := hp
    refine g_zast (z := false) (mz_at hS (Nat.le_of_ble_eq_true rfl) mzcS_282) h2 (g_aload_n rfl (g_getR (mz_at hS (Nat.le_of_ble_eq_true rfl) mzcS_232) mzcf_12_78 (mz_rb hR (Nat.le_of_ble_eq_true rfl) rfl mzcR_232_78) (g_iload_n rfl (g_iconst mzi_0 ?_))))
    have h3 := hp
    refine g_iast (mz_at hS (Nat.le_of_ble_eq_true rfl) mzcS_285) h3 (g_iinc rfl mzi_1 (Nat.le_of_ble_eq_true rfl) rfl (g_goto (tg := 147) rfl ms_418_147 ?_))
    refine g_weak ?_ (g_cl (hc1 ((s.1 + 1), mz_wI (mz_wI s.2 282 s.1 (mz_b01 false)) 285 s.1 0) hC))
    exact ⟨rfl, rfl, trivial⟩
  · have hp := hp.2 h1
    refine g_iconst mzi_0 (g_istore_n (Nat.le_of_ble_eq_true rfl) rfl ?_)
    refine g_weak ?_ (g_cl (cg_418_175 hd hS hR 0 s.2 hr hp (hx1 _ hC)))
    exact ⟨rfl, rfl, trivial⟩
theorem cg_418_147 (hd : 0 ≤ d) (hS : mz_extR S 342) (hR : mz_rok R 342)  (v1 : Int32) (N : mz_N) {C0 : (mz_N) → Prop} (hr : ∀ (N2 : mz_N), C0 N2 → Q (.inl none) (mz_k S R N2 b t)) (hp : cp_418_147 v1 N) (hC : C0 (cf_418_147 v1 N)) : mz_G (d, mz_X0 L xs, none, [], mk_418, 2, Q) 147 mt_418_147 [(0, .ref 232), (1, .int v1)] [] false (mz_k S R N b t) := by
  obtain ⟨n, hn⟩ := hp
  exact g_loop (G := fun s => mz_G (d, mz_X0 L xs, none, [], mk_418, 2, Q) 147 mt_418_147 [(0, .ref 232), (1, .int s.1)] [] false (mz_k S R s.2 b t)) (C := C0) (fun C2 hc hx s hP hC => cb_418_147 hd hS hR  s hr hc hx hP hC) n (v1, N) hn hC
theorem cb_418_126 (hd : 0 ≤ d) (hS : mz_extR S 342) (hR : mz_rok R 342)   (s : Int32 × mz_N) {C0 : (mz_N) → Prop} (hr : ∀ (N2 : mz_N), C0 N2 → Q (.inl none) (mz_k S R N2 b t)) {C1 : ((Int32 × mz_N) ⊕ (mz_N)) → Prop} (hc1 : ∀ s2, C1 (.inl s2) → mz_G (d, mz_X0 L xs, none, [], mk_418, 2, Q) 126 mt_418_126 [(0, .ref 232), (1, .int s2.1)] [] false (mz_k S R s2.2 b t)) (hx1 : ∀ z, C1 (.inr z) → C0 z) (hp : cd_418_126  s) (hC : C1 (cq_418_126  s)) : mz_G (d, mz_X0 L xs, none, [], mk_418, 2, Q) 126 mt_418_126 [(0, .ref 232), (1, .int s.1)] [] false (mz_k S R s.2 b t) := by
  unfold cq_418_126 at hC
  unfold cd_418_126 at hp
  refine g_iload_n rfl (g_bipush mzb_18 ?_)
  refine g_icge (tg := 145) rfl ms_418_145 hC (fun h1 hC => ?_) (fun h1 hC => ?_)
  · have hp := hp.1 h1
    refine g_aload_n rfl (g_getR (mz_at hS (Nat.le_of_ble_eq_true rfl) mzcS_232) mzcf_12_71 (mz_rb hR (Nat.le_of_ble_eq_true rfl) rfl mzcR_232_71) (g_iload_n rfl (g_iconst mzi_0 ?_)))
    have h2 := hp
    refine g_zast (z := false) (mz_at hS (Nat.le_of_ble_eq_true rfl) mzcS_279) h2 (g_iinc rfl mzi_1 (Nat.le_of_ble_eq_true rfl) rfl (g_goto (tg := 126) rfl ms_418_126 ?_))
    refine g_weak ?_ (g_cl (hc1 ((s.1 + 1), mz_wI s.2 279 s.1 (mz_b01 false)) hC))
    exact ⟨rfl, rfl, trivial⟩
  · have hp := hp.2 h1
    refine g_iconst mzi_0 (g_istore_n (Nat.le_of_ble_eq_true rfl) rfl ?_)
    refine g_weak ?_ (g_cl (cg_418_147 hd hS hR 0 s.2 hr hp (hx1 _ hC)))
    exact ⟨rfl, rfl, trivial⟩
theorem cg_418_126 (hd : 0 ≤ d) (hS : mz_extR S 342) (hR : mz_rok R 342)  (v1 : Int32) (N : mz_N) {C0 : (mz_N) → Prop} (hr : ∀ (N2 : mz_N), C0 N2 → Q (.inl none) (mz_k S R N2 b t)) (hp : cp_418_126 v1 N) (hC : C0 (cf_418_126 v1 N)) : mz_G (d, mz_X0 L xs, none, [], mk_418, 2, Q) 126 mt_418_126 [(0, .ref 232), (1, .int v1)] [] false (mz_k S R N b t) := by
  obtain ⟨n, hn⟩ := hp
  exact g_loop (G := fun s => mz_G (d, mz_X0 L xs, none, [], mk_418, 2, Q) 126 mt_418_126 [(0, .ref 232), (1, .int s.1)] [] false (mz_k S R s.2 b t)) (C := C0) (fun C2 hc hx s hP hC => cb_418_126 hd hS hR  s hr hc hx hP hC) n (v1, N) hn hC
theorem cg_418_109 (hd : 0 ≤ d) (hS : mz_extR S 342) (hR : mz_rok R 342)  (N : mz_N) {C0 : (mz_N) → Prop} (hr : ∀ (N2 : mz_N), C0 N2 → Q (.inl none) (mz_k S R N2 b t)) (hp : cp_418_109 N) (hC : C0 (cf_418_109 N)) : mz_G (d, mz_X0 L xs, none, [], mk_418, 2, Q) 109 mt_418_109 [(0, .ref 232)] [] false (mz_k S R N b t) := by
  unfold cf_418_109 at hC
  unfold cp_418_109 at hp
  refine g_aload_n rfl (g_iconst mzi_0 (g_putI (mz_at hS (Nat.le_of_ble_eq_true rfl) mzcS_232) mzcf_12_96 (g_aload_n rfl (g_iconst mzi_0 (g_putI (mz_at hS (Nat.le_of_ble_eq_true rfl) mzcS_232) mzcf_12_141 (g_aload_n rfl (g_iconst mzi_0 ?_)))))))
  refine g_putI (mz_at hS (Nat.le_of_ble_eq_true rfl) mzcS_232) mzcf_12_143 (g_iconst mzi_0 (g_istore_n (Nat.le_of_ble_eq_true rfl) rfl ?_))
  refine g_weak ?_ (g_cl (cg_418_126 hd hS hR 0 (mz_pI (mz_pI (mz_pI N 232 96 0) 232 141 0) 232 143 0) hr hp hC))
  exact ⟨rfl, rfl, trivial⟩
theorem cg_418_89 (hd : 0 ≤ d) (hS : mz_extR S 342) (hR : mz_rok R 342)  (N : mz_N) {C0 : (mz_N) → Prop} (hr : ∀ (N2 : mz_N), C0 N2 → Q (.inl none) (mz_k S R N2 b t)) (hp : cp_418_89 N) (hC : C0 (cf_418_89 N)) : mz_G (d, mz_X0 L xs, none, [], mk_418, 2, Q) 89 mt_418_89 [(0, .ref 232)] [] false (mz_k S R N b t) := by
  unfold cf_418_89 at hC
  unfold cp_418_89 at hp
  refine g_aload_n rfl (g_iconst mzi_0 (g_putZ (z := false) (mz_at hS (Nat.le_of_ble_eq_true rfl) mzcS_232) mzcf_12_67 (g_aload_n rfl (g_lconst mzl_0 (g_putL (mz_at hS (Nat.le_of_ble_eq_true rfl) mzcS_232) mzcf_12_68 (g_aload_n rfl (g_iconst mzi_0 ?_)))))))
  refine g_putI (mz_at hS (Nat.le_of_ble_eq_true rfl) mzcS_232) mzcf_12_72 (g_aload_n rfl (g_iconst mzi_0 (g_putI (mz_at hS (Nat.le_of_ble_eq_true rfl) mzcS_232) mzcf_12_112 ?_)))
  refine g_weak ?_ (g_cl (cg_418_109 hd hS hR (mz_pI (mz_pI (mz_pL (mz_pI N 232 67 (mz_b01 false)) 232 68 0) 232 72 0) 232 112 0) hr hp hC))
  exact ⟨rfl, trivial⟩
theorem cg_418_69 (hd : 0 ≤ d) (hS : mz_extR S 342) (hR : mz_rok R 342)  (N : mz_N) {C0 : (mz_N) → Prop} (hr : ∀ (N2 : mz_N), C0 N2 → Q (.inl none) (mz_k S R N2 b t)) (hp : cp_418_69 N) (hC : C0 (cf_418_69 N)) : mz_G (d, mz_X0 L xs, none, [], mk_418, 2, Q) 69 mt_418_69 [(0, .ref 232)] [] false (mz_k S R N b t) := by
  unfold cf_418_69 at hC
  unfold cp_418_69 at hp
  refine g_aload_n rfl (g_iconst mzi_0 (g_putZ (z := false) (mz_at hS (Nat.le_of_ble_eq_true rfl) mzcS_232) mzcf_12_63 (g_aload_n rfl (g_iconst mzi_0 (g_putZ (z := false) (mz_at hS (Nat.le_of_ble_eq_true rfl) mzcS_232) mzcf_12_64 (g_aload_n rfl (g_iconst mzi_0 ?_)))))))
  refine g_putZ (z := false) (mz_at hS (Nat.le_of_ble_eq_true rfl) mzcS_232) mzcf_12_65 (g_aload_n rfl (g_lconst mzl_0 (g_putL (mz_at hS (Nat.le_of_ble_eq_true rfl) mzcS_232) mzcf_12_66 ?_)))
  refine g_weak ?_ (g_cl (cg_418_89 hd hS hR (mz_pL (mz_pI (mz_pI (mz_pI N 232 63 (mz_b01 false)) 232 64 (mz_b01 false)) 232 65 (mz_b01 false)) 232 66 0) hr hp hC))
  exact ⟨rfl, trivial⟩
theorem cg_418_43 (hd : 0 ≤ d) (hS : mz_extR S 342) (hR : mz_rok R 342)  (N : mz_N) {C0 : (mz_N) → Prop} (hr : ∀ (N2 : mz_N), C0 N2 → Q (.inl none) (mz_k S R N2 b t)) (hp : cp_418_43 N) (hC : C0 (cf_418_43 N)) : mz_G (d, mz_X0 L xs, none, [], mk_418, 2, Q) 43 mt_418_43 [(0, .ref 232)] [] false (mz_k S R N b t) := by
  unfold cf_418_43 at hC
  unfold cp_418_43 at hp
  refine g_aload_n rfl (g_sipush mzs_1500 (g_putI (mz_at hS (Nat.le_of_ble_eq_true rfl) mzcS_232) mzcf_12_54 (g_aload_n rfl (g_iconst mzi_0 (g_putI (mz_at hS (Nat.le_of_ble_eq_true rfl) mzcS_232) mzcf_12_55 (g_aload_n rfl (g_sipush mzs_2000 ?_)))))))
  refine g_putI (mz_at hS (Nat.le_of_ble_eq_true rfl) mzcS_232) mzcf_12_61 (g_aload_n rfl (g_sipush mzs_20000 (g_putI (mz_at hS (Nat.le_of_ble_eq_true rfl) mzcS_232) mzcf_12_62 ?_)))
  refine g_weak ?_ (g_cl (cg_418_69 hd hS hR (mz_pI (mz_pI (mz_pI (mz_pI N 232 54 1500) 232 55 0) 232 61 2000) 232 62 20000) hr hp hC))
  exact ⟨rfl, trivial⟩
theorem cg_418_0 (hd : 0 ≤ d) (hS : mz_extR S 342) (hR : mz_rok R 342)  (N : mz_N) {C0 : (mz_N) → Prop} (hr : ∀ (N2 : mz_N), C0 N2 → Q (.inl none) (mz_k S R N2 b t)) (hp : cp_418_0 N) (hC : C0 (cf_418_0 N)) : mz_G (d, mz_X0 L xs, none, [], mk_418, 2, Q) 0 mk_418 [(0, .ref 232)] [] true (mz_k S R N b t) := by
  unfold cf_418_0 at hC
  unfold cp_418_0 at hp
  refine g_aload_n rfl (g_lconst mzl_0 (g_putL (mz_at hS (Nat.le_of_ble_eq_true rfl) mzcS_232) mzcf_12_2 (g_aload_n rfl (g_lconst mzl_0 (g_putL (mz_at hS (Nat.le_of_ble_eq_true rfl) mzcS_232) mzcf_12_122 (g_aload_n rfl (g_lconst mzl_0 ?_)))))))
  refine g_putL (mz_at hS (Nat.le_of_ble_eq_true rfl) mzcS_232) mzcf_12_123 (g_aload_n rfl (g_lconst mzl_0 (g_putL (mz_at hS (Nat.le_of_ble_eq_true rfl) mzcS_232) mzcf_12_124 (g_aload_n rfl (g_lconst mzl_0 (g_putL (mz_at hS (Nat.le_of_ble_eq_true rfl) mzcS_232) mzcf_12_125 (g_aload_n rfl ?_)))))))
  refine g_sipush mzs_5000 (g_putI (mz_at hS (Nat.le_of_ble_eq_true rfl) mzcS_232) mzcf_12_21 (g_aload_n rfl (g_iconst mzi_1 (g_putZ (z := true) (mz_at hS (Nat.le_of_ble_eq_true rfl) mzcS_232) mzcf_12_52 (g_aload_n rfl (g_bipush mzb_100 (g_putI (mz_at hS (Nat.le_of_ble_eq_true rfl) mzcS_232) mzcf_12_53 ?_)))))))
  refine g_weak ?_ (g_cl (cg_418_43 hd hS hR (mz_pI (mz_pI (mz_pI (mz_pL (mz_pL (mz_pL (mz_pL (mz_pL N 232 2 0) 232 122 0) 232 123 0) 232 124 0) 232 125 0) 232 21 5000) 232 52 (mz_b01 true)) 232 53 100) hr hp hC))
  exact ⟨rfl, trivial⟩
theorem cs_418 (hd : 1 ≤ d) (hS : mz_extR S 342) (hR : mz_rok R 342)  (N : mz_N) (hp : cp_418_0 N) (hq : Q (.inl none) (mz_k S R (cf_418_0 N) b t)) : mz_Ed (mz_X0 L xs) d 418 [.ref 232] (mz_k S R N b t) Q :=
  by
  refine g_in mzq_418 (Nat.le_of_ble_eq_true rfl) (Nat.le_of_ble_eq_true rfl) (Nat.le_trans (Nat.le_of_ble_eq_true rfl) hd) ?_
  refine g_weak ?_ (cg_418_0 (d := d - 1) (by omega) hS hR N (C0 := fun z => Q (.inl none) (mz_k S R z b t)) (fun _ h => h) hp hq)
  exact ⟨rfl, trivial⟩
/-! 415 KeptHouseModel.firstThings ()V -/
theorem ms_415_0 : mz_sf mk_415 0 = mk_415 := mz_sf_zero _
theorem ms_415_12 : mz_sf mk_415 12 = mt_415_12 := mz_sf_add ms_415_0 (t := 12) rfl rfl
theorem ms_415_34 : mz_sf mk_415 34 = mt_415_34 := mz_sf_add ms_415_12 (t := 22) rfl rfl
theorem ms_415_57 : mz_sf mk_415 57 = mt_415_57 := mz_sf_add ms_415_34 (t := 23) rfl rfl
theorem ms_415_78 : mz_sf mk_415 78 = mt_415_78 := mz_sf_add ms_415_57 (t := 21) rfl rfl
theorem ms_415_84 : mz_sf mk_415 84 = mt_415_84 := mz_sf_add ms_415_78 (t := 6) rfl rfl
theorem ms_415_86 : mz_sf mk_415 86 = mt_415_86 := mz_sf_add ms_415_84 (t := 2) rfl rfl
theorem ms_415_109 : mz_sf mk_415 109 = mt_415_109 := mz_sf_add ms_415_86 (t := 23) rfl rfl
theorem ms_415_115 : mz_sf mk_415 115 = mt_415_115 := mz_sf_add ms_415_109 (t := 6) rfl rfl
theorem ms_415_117 : mz_sf mk_415 117 = mt_415_117 := mz_sf_add ms_415_115 (t := 2) rfl rfl
theorem ms_415_138 : mz_sf mk_415 138 = mt_415_138 := mz_sf_add ms_415_117 (t := 21) rfl rfl
theorem ms_415_159 : mz_sf mk_415 159 = mt_415_159 := mz_sf_add ms_415_138 (t := 21) rfl rfl
theorem ms_415_180 : mz_sf mk_415 180 = mt_415_180 := mz_sf_add ms_415_159 (t := 21) rfl rfl
theorem ms_415_193 : mz_sf mk_415 193 = mt_415_193 := mz_sf_add ms_415_180 (t := 13) rfl rfl
theorem ms_415_195 : mz_sf mk_415 195 = mt_415_195 := mz_sf_add ms_415_193 (t := 2) rfl rfl
theorem ms_415_215 : mz_sf mk_415 215 = mt_415_215 := mz_sf_add ms_415_195 (t := 20) rfl rfl
theorem ms_415_228 : mz_sf mk_415 228 = mt_415_228 := mz_sf_add ms_415_215 (t := 13) rfl rfl
theorem ms_415_230 : mz_sf mk_415 230 = mt_415_230 := mz_sf_add ms_415_228 (t := 2) rfl rfl
theorem ms_415_251 : mz_sf mk_415 251 = mt_415_251 := mz_sf_add ms_415_230 (t := 21) rfl rfl
theorem ms_415_272 : mz_sf mk_415 272 = mt_415_272 := mz_sf_add ms_415_251 (t := 21) rfl rfl
theorem ms_415_278 : mz_sf mk_415 278 = mt_415_278 := mz_sf_add ms_415_272 (t := 6) rfl rfl
theorem ms_415_280 : mz_sf mk_415 280 = mt_415_280 := mz_sf_add ms_415_278 (t := 2) rfl rfl
theorem ms_415_300 : mz_sf mk_415 300 = mt_415_300 := mz_sf_add ms_415_280 (t := 20) rfl rfl
set_option maxRecDepth 100000 in
theorem mzq_415 : mz_PG0 415 = some (12, ⟨"KeptHouseModel", "firstThings", "()V"⟩, prog_14_method_188_code, 2, none, [], mk_415, []) := rfl
theorem cg_415_57 (hd : 2 ≤ d) (hS : mz_extR S 342) (hR : mz_rok R 342)  (v1 : Int32) (N : mz_N) {C0 : (mz_N) → Prop} (hr : ∀ (N2 : mz_N), C0 N2 → Q (.inl none) (mz_k S R N2 b t)) {C1 : ((Int32 × mz_N) ⊕ (mz_N)) → Prop} (hc1 : ∀ s2, C1 (.inl s2) → mz_G (d, mz_X0 L xs, none, [], mk_415, 2, Q) 12 mt_415_12 [(0, .ref 232), (1, .int s2.1)] [] false (mz_k S R s2.2 b t)) (hx1 : ∀ z, C1 (.inr z) → C0 z) (hp : cp_415_57 v1 N) (hC : C1 (cf_415_57 v1 N)) : mz_G (d, mz_X0 L xs, none, [], mk_415, 2, Q) 57 mt_415_57 [(0, .ref 232), (1, .int v1)] [] false (mz_k S R N b t) := by
  unfold cf_415_57 at hC
  unfold cp_415_57 at hp
  refine g_aload_n rfl (g_getR (mz_at hS (Nat.le_of_ble_eq_true rfl) mzcS_232) mzcf_12_43 (mz_rb hR (Nat.le_of_ble_eq_true rfl) rfl mzcR_232_43) (g_iload_n rfl (g_lconst mzl_0 ?_)))
  obtain ⟨h1, hp⟩ := hp
  refine g_last (mz_at hS (Nat.le_of_ble_eq_true rfl) mzcS_263) h1 (g_aload_n rfl (g_getR (mz_at hS (Nat.le_of_ble_eq_true rfl) mzcS_232) mzcf_12_44 (mz_rb hR (Nat.le_of_ble_eq_true rfl) rfl mzcR_232_44) (g_iload_n rfl (g_lconst mzl_0 ?_))))
  obtain ⟨h2, hp⟩ := hp
  refine g_last (mz_at hS (Nat.le_of_ble_eq_true rfl) mzcS_264) h2 (g_aload_n rfl (g_getR (mz_at hS (Nat.le_of_ble_eq_true rfl) mzcS_232) mzcf_12_45 (mz_rb hR (Nat.le_of_ble_eq_true rfl) rfl mzcR_232_45) (g_iload_n rfl (g_lconst mzl_0 ?_))))
  have h3 := hp
  refine g_last (mz_at hS (Nat.le_of_ble_eq_true rfl) mzcS_265) h3 (g_iinc rfl mzi_1 (Nat.le_of_ble_eq_true rfl) rfl (g_goto (tg := 12) rfl ms_415_12 ?_))
  refine g_weak ?_ (g_cl (hc1 ((v1 + 1), mz_wL (mz_wL (mz_wL N 263 v1 0) 264 v1 0) 265 v1 0) hC))
  exact ⟨rfl, rfl, trivial⟩
theorem cg_415_272 (hd : 2 ≤ d) (hS : mz_extR S 342) (hR : mz_rok R 342)  (v1 : Int32) (N : mz_N) {C0 : (mz_N) → Prop} (hr : ∀ (N2 : mz_N), C0 N2 → Q (.inl none) (mz_k S R N2 b t)) {C1 : ((Int32 × mz_N) ⊕ (mz_N)) → Prop} (hc1 : ∀ s2, C1 (.inl s2) → mz_G (d, mz_X0 L xs, none, [], mk_415, 2, Q) 230 mt_415_230 [(0, .ref 232), (1, .int s2.1)] [] false (mz_k S R s2.2 b t)) (hx1 : ∀ z, C1 (.inr z) → C0 z) (hp : cp_415_272 v1 N) (hC : C1 (cf_415_272 v1 N)) : mz_G (d, mz_X0 L xs, none, [], mk_415, 2, Q) 272 mt_415_272 [(0, .ref 232), (1, .int v1)] [] false (mz_k S R N b t) := by
  unfold cf_415_272 at hC
  unfold cp_415_272 at hp
  refine g_iinc rfl mzi_1 (Nat.le_of_ble_eq_true rfl) rfl (g_goto (tg := 230) rfl ms_415_230 ?_)
  refine g_weak ?_ (g_cl (hc1 ((v1 + 1), N) hC))
  exact ⟨rfl, rfl, trivial⟩
theorem cb_415_280 (hd : 2 ≤ d) (hS : mz_extR S 342) (hR : mz_rok R 342)   (s : Int32 × mz_N) {C0 : (mz_N) → Prop} (hr : ∀ (N2 : mz_N), C0 N2 → Q (.inl none) (mz_k S R N2 b t)) {C1 : ((Int32 × mz_N) ⊕ (mz_N)) → Prop} (hc1 : ∀ s2, C1 (.inl s2) → mz_G (d, mz_X0 L xs, none, [], mk_415, 2, Q) 280 mt_415_280 [(0, .ref 232), (1, .int s2.1)] [] false (mz_k S R s2.2 b t)) (hx1 : ∀ z, C1 (.inr z) → C0 z) (hp : cd_415_280  s) (hC : C1 (cq_415_280  s)) : mz_G (d, mz_X0 L xs, none, [], mk_415, 2, Q) 280 mt_415_280 [(0, .ref 232), (1, .int s.1)] [] false (mz_k S R s.2 b t) := by
  unfold cq_415_280 at hC
  unfold cd_415_280 at hp
  refine g_iload_n rfl (g_sipush mzs_196 ?_)
  refine g_icge (tg := 300) rfl ms_415_300 hC (fun h1 hC => ?_) (fun h1 hC => ?_)
  · have hp := hp.1 h1
    refine g_aload_n rfl (g_getR (mz_at hS (Nat.le_of_ble_eq_true rfl) mzcS_232) mzcf_12_26 (mz_rb hR (Nat.le_of_ble_eq_true rfl) rfl mzcR_232_26) (g_iload_n rfl (g_iconst mzi_0 ?_)))
    have h2 := hp
    refine g_iast (mz_at hS (Nat.le_of_ble_eq_true rfl) mzcS_252) h2 (g_iinc rfl mzi_1 (Nat.le_of_ble_eq_true rfl) rfl (g_goto (tg := 280) rfl ms_415_280 ?_))
    refine g_weak ?_ (g_cl (hc1 ((s.1 + 1), mz_wI s.2 252 s.1 0) hC))
    exact ⟨rfl, rfl, trivial⟩
  · have hp := hp.2 h1
    refine g_aload_n rfl (g_iconst mzi_0 (g_putI (mz_at hS (Nat.le_of_ble_eq_true rfl) mzcS_232) mzcf_12_27 (g_aload_n rfl (g_iconst mzi_0 (g_putI (mz_at hS (Nat.le_of_ble_eq_true rfl) mzcS_232) mzcf_12_25 (g_aload_n rfl (g_iconst mzi_0 ?_)))))))
    refine g_putZ (z := false) (mz_at hS (Nat.le_of_ble_eq_true rfl) mzcS_232) mzcf_12_36 (g_aload_n rfl ?_)
    have h3 := hp
    refine g_v1n (Nat.le_of_ble_eq_true rfl) (mz_at hS (Nat.le_of_ble_eq_true rfl) mzcS_232) (fun _ hq => cs_418 (Nat.le_trans (Nat.le_of_ble_eq_true rfl) hd) (hS.le (Nat.le_of_ble_eq_true rfl)) (hR.le (Nat.le_of_ble_eq_true rfl))  (mz_pI (mz_pI (mz_pI s.2 232 27 0) 232 25 0) 232 36 (mz_b01 false)) h3 hq) ?_
    exact g_vret rfl (hr _ (hx1 _ hC))
theorem cg_415_280 (hd : 2 ≤ d) (hS : mz_extR S 342) (hR : mz_rok R 342)  (v1 : Int32) (N : mz_N) {C0 : (mz_N) → Prop} (hr : ∀ (N2 : mz_N), C0 N2 → Q (.inl none) (mz_k S R N2 b t)) (hp : cp_415_280 v1 N) (hC : C0 (cf_415_280 v1 N)) : mz_G (d, mz_X0 L xs, none, [], mk_415, 2, Q) 280 mt_415_280 [(0, .ref 232), (1, .int v1)] [] false (mz_k S R N b t) := by
  obtain ⟨n, hn⟩ := hp
  exact g_loop (G := fun s => mz_G (d, mz_X0 L xs, none, [], mk_415, 2, Q) 280 mt_415_280 [(0, .ref 232), (1, .int s.1)] [] false (mz_k S R s.2 b t)) (C := C0) (fun C2 hc hx s hP hC => cb_415_280 hd hS hR  s hr hc hx hP hC) n (v1, N) hn hC
theorem cb_415_230 (hd : 2 ≤ d) (hS : mz_extR S 342) (hR : mz_rok R 342)   (s : Int32 × mz_N) {C0 : (mz_N) → Prop} (hr : ∀ (N2 : mz_N), C0 N2 → Q (.inl none) (mz_k S R N2 b t)) {C1 : ((Int32 × mz_N) ⊕ (mz_N)) → Prop} (hc1 : ∀ s2, C1 (.inl s2) → mz_G (d, mz_X0 L xs, none, [], mk_415, 2, Q) 230 mt_415_230 [(0, .ref 232), (1, .int s2.1)] [] false (mz_k S R s2.2 b t)) (hx1 : ∀ z, C1 (.inr z) → C0 z) (hp : cd_415_230  s) (hC : C1 (cq_415_230  s)) : mz_G (d, mz_X0 L xs, none, [], mk_415, 2, Q) 230 mt_415_230 [(0, .ref 232), (1, .int s.1)] [] false (mz_k S R s.2 b t) := by
  unfold cq_415_230 at hC
  unfold cd_415_230 at hp
  refine g_iload_n rfl (g_iconst mzi_3 ?_)
  refine g_icge (tg := 278) rfl ms_415_278 hC (fun h1 hC => ?_) (fun h1 hC => ?_)
  · have hp := hp.1 h1
    refine g_aload_n rfl (g_getR (mz_at hS (Nat.le_of_ble_eq_true rfl) mzcS_232) mzcf_12_22 (mz_rb hR (Nat.le_of_ble_eq_true rfl) rfl mzcR_232_22) (g_iload_n rfl (g_iconst mzi_0 ?_)))
    obtain ⟨h2, hp⟩ := hp
    refine g_iast (mz_at hS (Nat.le_of_ble_eq_true rfl) mzcS_249) h2 (g_aload_n rfl (g_getR (mz_at hS (Nat.le_of_ble_eq_true rfl) mzcS_232) mzcf_12_23 (mz_rb hR (Nat.le_of_ble_eq_true rfl) rfl mzcR_232_23) (g_iload_n rfl (g_sipush mzs_5000 ?_))))
    obtain ⟨h3, hp⟩ := hp
    refine g_iast (mz_at hS (Nat.le_of_ble_eq_true rfl) mzcS_250) h3 (g_aload_n rfl (g_getR (mz_at hS (Nat.le_of_ble_eq_true rfl) mzcS_232) mzcf_12_100 (mz_rb hR (Nat.le_of_ble_eq_true rfl) rfl mzcR_232_100) (g_iload_n rfl (g_lconst mzl_0 ?_))))
    obtain ⟨h4, hp⟩ := hp
    refine g_last (mz_at hS (Nat.le_of_ble_eq_true rfl) mzcS_305) h4 (g_aload_n rfl (g_getR (mz_at hS (Nat.le_of_ble_eq_true rfl) mzcS_232) mzcf_12_101 (mz_rb hR (Nat.le_of_ble_eq_true rfl) rfl mzcR_232_101) (g_iload_n rfl (g_iconst mzi_0 ?_))))
    obtain ⟨h5, hp⟩ := hp
    refine g_iast (mz_at hS (Nat.le_of_ble_eq_true rfl) mzcS_306) h5 (g_aload_n rfl (g_getR (mz_at hS (Nat.le_of_ble_eq_true rfl) mzcS_232) mzcf_12_102 (mz_rb hR (Nat.le_of_ble_eq_true rfl) rfl mzcR_232_102) (g_iload_n rfl (g_iconst mzi_0 ?_))))
    obtain ⟨h6, hp⟩ := hp
    refine g_zast (z := false) (mz_at hS (Nat.le_of_ble_eq_true rfl) mzcS_307) h6 ?_
    refine g_weak ?_ (g_cl (cg_415_272 hd hS hR s.1 (mz_wI (mz_wI (mz_wL (mz_wI (mz_wI s.2 249 s.1 0) 250 s.1 5000) 305 s.1 0) 306 s.1 0) 307 s.1 (mz_b01 false)) hr hc1 hx1 hp hC))
    exact ⟨rfl, rfl, trivial⟩
  · have hp := hp.2 h1
    refine g_iconst mzi_0 (g_istore_n (Nat.le_of_ble_eq_true rfl) rfl ?_)
    refine g_weak ?_ (g_cl (cg_415_280 hd hS hR 0 s.2 hr hp (hx1 _ hC)))
    exact ⟨rfl, rfl, trivial⟩
theorem cg_415_230 (hd : 2 ≤ d) (hS : mz_extR S 342) (hR : mz_rok R 342)  (v1 : Int32) (N : mz_N) {C0 : (mz_N) → Prop} (hr : ∀ (N2 : mz_N), C0 N2 → Q (.inl none) (mz_k S R N2 b t)) (hp : cp_415_230 v1 N) (hC : C0 (cf_415_230 v1 N)) : mz_G (d, mz_X0 L xs, none, [], mk_415, 2, Q) 230 mt_415_230 [(0, .ref 232), (1, .int v1)] [] false (mz_k S R N b t) := by
  obtain ⟨n, hn⟩ := hp
  exact g_loop (G := fun s => mz_G (d, mz_X0 L xs, none, [], mk_415, 2, Q) 230 mt_415_230 [(0, .ref 232), (1, .int s.1)] [] false (mz_k S R s.2 b t)) (C := C0) (fun C2 hc hx s hP hC => cb_415_230 hd hS hR  s hr hc hx hP hC) n (v1, N) hn hC
theorem cb_415_195 (hd : 2 ≤ d) (hS : mz_extR S 342) (hR : mz_rok R 342)   (s : Int32 × mz_N) {C0 : (mz_N) → Prop} (hr : ∀ (N2 : mz_N), C0 N2 → Q (.inl none) (mz_k S R N2 b t)) {C1 : ((Int32 × mz_N) ⊕ (mz_N)) → Prop} (hc1 : ∀ s2, C1 (.inl s2) → mz_G (d, mz_X0 L xs, none, [], mk_415, 2, Q) 195 mt_415_195 [(0, .ref 232), (1, .int s2.1)] [] false (mz_k S R s2.2 b t)) (hx1 : ∀ z, C1 (.inr z) → C0 z) (hp : cd_415_195  s) (hC : C1 (cq_415_195  s)) : mz_G (d, mz_X0 L xs, none, [], mk_415, 2, Q) 195 mt_415_195 [(0, .ref 232), (1, .int s.1)] [] false (mz_k S R s.2 b t) := by
  unfold cq_415_195 at hC
  unfold cd_415_195 at hp
  refine g_iload_n rfl (g_bipush mzb_10 ?_)
  refine g_icge (tg := 228) rfl ms_415_228 hC (fun h1 hC => ?_) (fun h1 hC => ?_)
  · have hp := hp.1 h1
    refine g_aload_n rfl (g_getR (mz_at hS (Nat.le_of_ble_eq_true rfl) mzcS_232) mzcf_12_120 (mz_rb hR (Nat.le_of_ble_eq_true rfl) rfl mzcR_232_120) (g_iload_n rfl (g_lconst mzl_0 ?_)))
    obtain ⟨h2, hp⟩ := hp
    refine g_last (mz_at hS (Nat.le_of_ble_eq_true rfl) mzcS_324) h2 (g_aload_n rfl (g_getR (mz_at hS (Nat.le_of_ble_eq_true rfl) mzcS_232) mzcf_12_121 (mz_rb hR (Nat.le_of_ble_eq_true rfl) rfl mzcR_232_121) (g_iload_n rfl (g_lconst mzl_0 ?_))))
    obtain ⟨h3, hp⟩ := hp
    refine g_last (mz_at hS (Nat.le_of_ble_eq_true rfl) mzcS_325) h3 (g_aload_n rfl (g_getR (mz_at hS (Nat.le_of_ble_eq_true rfl) mzcS_232) mzcf_12_70 (mz_rb hR (Nat.le_of_ble_eq_true rfl) rfl mzcR_232_70) (g_iload_n rfl (g_iconst mzi_0 ?_))))
    have h4 := hp
    refine g_iast (mz_at hS (Nat.le_of_ble_eq_true rfl) mzcS_278) h4 (g_iinc rfl mzi_1 (Nat.le_of_ble_eq_true rfl) rfl (g_goto (tg := 195) rfl ms_415_195 ?_))
    refine g_weak ?_ (g_cl (hc1 ((s.1 + 1), mz_wI (mz_wL (mz_wL s.2 324 s.1 0) 325 s.1 0) 278 s.1 0) hC))
    exact ⟨rfl, rfl, trivial⟩
  · have hp := hp.2 h1
    refine g_iconst mzi_0 (g_istore_n (Nat.le_of_ble_eq_true rfl) rfl ?_)
    refine g_weak ?_ (g_cl (cg_415_230 hd hS hR 0 s.2 hr hp (hx1 _ hC)))
    exact ⟨rfl, rfl, trivial⟩
theorem cg_415_195 (hd : 2 ≤ d) (hS : mz_extR S 342) (hR : mz_rok R 342)  (v1 : Int32) (N : mz_N) {C0 : (mz_N) → Prop} (hr : ∀ (N2 : mz_N), C0 N2 → Q (.inl none) (mz_k S R N2 b t)) (hp : cp_415_195 v1 N) (hC : C0 (cf_415_195 v1 N)) : mz_G (d, mz_X0 L xs, none, [], mk_415, 2, Q) 195 mt_415_195 [(0, .ref 232), (1, .int v1)] [] false (mz_k S R N b t) := by
  obtain ⟨n, hn⟩ := hp
  exact g_loop (G := fun s => mz_G (d, mz_X0 L xs, none, [], mk_415, 2, Q) 195 mt_415_195 [(0, .ref 232), (1, .int s.1)] [] false (mz_k S R s.2 b t)) (C := C0) (fun C2 hc hx s hP hC => cb_415_195 hd hS hR  s hr hc hx hP hC) n (v1, N) hn hC
theorem cg_415_159 (hd : 2 ≤ d) (hS : mz_extR S 342) (hR : mz_rok R 342)  (v1 : Int32) (N : mz_N) {C0 : (mz_N) → Prop} (hr : ∀ (N2 : mz_N), C0 N2 → Q (.inl none) (mz_k S R N2 b t)) {C1 : ((Int32 × mz_N) ⊕ (mz_N)) → Prop} (hc1 : ∀ s2, C1 (.inl s2) → mz_G (d, mz_X0 L xs, none, [], mk_415, 2, Q) 117 mt_415_117 [(0, .ref 232), (1, .int s2.1)] [] false (mz_k S R s2.2 b t)) (hx1 : ∀ z, C1 (.inr z) → C0 z) (hp : cp_415_159 v1 N) (hC : C1 (cf_415_159 v1 N)) : mz_G (d, mz_X0 L xs, none, [], mk_415, 2, Q) 159 mt_415_159 [(0, .ref 232), (1, .int v1)] [] false (mz_k S R N b t) := by
  unfold cf_415_159 at hC
  unfold cp_415_159 at hp
  refine g_aload_n rfl (g_getR (mz_at hS (Nat.le_of_ble_eq_true rfl) mzcS_232) mzcf_12_59 (mz_rb hR (Nat.le_of_ble_eq_true rfl) rfl mzcR_232_59) (g_iload_n rfl (g_iconst mzi_0 ?_)))
  obtain ⟨h1, hp⟩ := hp
  refine g_zast (z := false) (mz_at hS (Nat.le_of_ble_eq_true rfl) mzcS_275) h1 (g_aload_n rfl (g_getR (mz_at hS (Nat.le_of_ble_eq_true rfl) mzcS_232) mzcf_12_117 (mz_rb hR (Nat.le_of_ble_eq_true rfl) rfl mzcR_232_117) (g_iload_n rfl (g_lconst mzl_0 ?_))))
  obtain ⟨h2, hp⟩ := hp
  refine g_last (mz_at hS (Nat.le_of_ble_eq_true rfl) mzcS_321) h2 (g_aload_n rfl (g_getR (mz_at hS (Nat.le_of_ble_eq_true rfl) mzcS_232) mzcf_12_118 (mz_rb hR (Nat.le_of_ble_eq_true rfl) rfl mzcR_232_118) (g_iload_n rfl (g_lconst mzl_0 ?_))))
  obtain ⟨h3, hp⟩ := hp
  refine g_last (mz_at hS (Nat.le_of_ble_eq_true rfl) mzcS_322) h3 (g_aload_n rfl (g_getR (mz_at hS (Nat.le_of_ble_eq_true rfl) mzcS_232) mzcf_12_119 (mz_rb hR (Nat.le_of_ble_eq_true rfl) rfl mzcR_232_119) (g_iload_n rfl (g_lconst mzl_0 ?_))))
  have h4 := hp
  refine g_last (mz_at hS (Nat.le_of_ble_eq_true rfl) mzcS_323) h4 (g_iinc rfl mzi_1 (Nat.le_of_ble_eq_true rfl) rfl (g_goto (tg := 117) rfl ms_415_117 ?_))
  refine g_weak ?_ (g_cl (hc1 ((v1 + 1), mz_wL (mz_wL (mz_wL (mz_wI N 275 v1 (mz_b01 false)) 321 v1 0) 322 v1 0) 323 v1 0) hC))
  exact ⟨rfl, rfl, trivial⟩
theorem cb_415_117 (hd : 2 ≤ d) (hS : mz_extR S 342) (hR : mz_rok R 342)   (s : Int32 × mz_N) {C0 : (mz_N) → Prop} (hr : ∀ (N2 : mz_N), C0 N2 → Q (.inl none) (mz_k S R N2 b t)) {C1 : ((Int32 × mz_N) ⊕ (mz_N)) → Prop} (hc1 : ∀ s2, C1 (.inl s2) → mz_G (d, mz_X0 L xs, none, [], mk_415, 2, Q) 117 mt_415_117 [(0, .ref 232), (1, .int s2.1)] [] false (mz_k S R s2.2 b t)) (hx1 : ∀ z, C1 (.inr z) → C0 z) (hp : cd_415_117  s) (hC : C1 (cq_415_117  s)) : mz_G (d, mz_X0 L xs, none, [], mk_415, 2, Q) 117 mt_415_117 [(0, .ref 232), (1, .int s.1)] [] false (mz_k S R s.2 b t) := by
  unfold cq_415_117 at hC
  unfold cd_415_117 at hp
  refine g_iload_n rfl (g_bipush mzb_11 ?_)
  refine g_icge (tg := 193) rfl ms_415_193 hC (fun h1 hC => ?_) (fun h1 hC => ?_)
  · have hp := hp.1 h1
    refine g_aload_n rfl (g_getR (mz_at hS (Nat.le_of_ble_eq_true rfl) mzcS_232) mzcf_12_19 (mz_rb hR (Nat.le_of_ble_eq_true rfl) rfl mzcR_232_19) (g_iload_n rfl (g_bipush mzb_100 ?_)))
    obtain ⟨h2, hp⟩ := hp
    refine g_iast (mz_at hS (Nat.le_of_ble_eq_true rfl) mzcS_247) h2 (g_aload_n rfl (g_getR (mz_at hS (Nat.le_of_ble_eq_true rfl) mzcS_232) mzcf_12_20 (mz_rb hR (Nat.le_of_ble_eq_true rfl) rfl mzcR_232_20) (g_iload_n rfl (g_iconst mzi_0 ?_))))
    obtain ⟨h3, hp⟩ := hp
    refine g_iast (mz_at hS (Nat.le_of_ble_eq_true rfl) mzcS_248) h3 (g_aload_n rfl (g_getR (mz_at hS (Nat.le_of_ble_eq_true rfl) mzcS_232) mzcf_12_56 (mz_rb hR (Nat.le_of_ble_eq_true rfl) rfl mzcR_232_56) (g_iload_n rfl (g_iconst mzi_0 ?_))))
    obtain ⟨h4, hp⟩ := hp
    refine g_iast (mz_at hS (Nat.le_of_ble_eq_true rfl) mzcS_272) h4 (g_aload_n rfl (g_getR (mz_at hS (Nat.le_of_ble_eq_true rfl) mzcS_232) mzcf_12_57 (mz_rb hR (Nat.le_of_ble_eq_true rfl) rfl mzcR_232_57) (g_iload_n rfl (g_iconst mzi_0 ?_))))
    obtain ⟨h5, hp⟩ := hp
    refine g_zast (z := false) (mz_at hS (Nat.le_of_ble_eq_true rfl) mzcS_273) h5 (g_aload_n rfl (g_getR (mz_at hS (Nat.le_of_ble_eq_true rfl) mzcS_232) mzcf_12_58 (mz_rb hR (Nat.le_of_ble_eq_true rfl) rfl mzcR_232_58) (g_iload_n rfl (g_iconst mzi_0 ?_))))
    obtain ⟨h6, hp⟩ := hp
    refine g_iast (mz_at hS (Nat.le_of_ble_eq_true rfl) mzcS_274) h6 ?_
    refine g_weak ?_ (g_cl (cg_415_159 hd hS hR s.1 (mz_wI (mz_wI (mz_wI (mz_wI (mz_wI s.2 247 s.1 100) 248 s.1 0) 272 s.1 0) 273 s.1 (mz_b01 false)) 274 s.1 0) hr hc1 hx1 hp hC))
    exact ⟨rfl, rfl, trivial⟩
  · have hp := hp.2 h1
    refine g_iconst mzi_0 (g_istore_n (Nat.le_of_ble_eq_true rfl) rfl ?_)
    refine g_weak ?_ (g_cl (cg_415_195 hd hS hR 0 s.2 hr hp (hx1 _ hC)))
    exact ⟨rfl, rfl, trivial⟩
theorem cg_415_117 (hd : 2 ≤ d) (hS : mz_extR S 342) (hR : mz_rok R 342)  (v1 : Int32) (N : mz_N) {C0 : (mz_N) → Prop} (hr : ∀ (N2 : mz_N), C0 N2 → Q (.inl none) (mz_k S R N2 b t)) (hp : cp_415_117 v1 N) (hC : C0 (cf_415_117 v1 N)) : mz_G (d, mz_X0 L xs, none, [], mk_415, 2, Q) 117 mt_415_117 [(0, .ref 232), (1, .int v1)] [] false (mz_k S R N b t) := by
  obtain ⟨n, hn⟩ := hp
  exact g_loop (G := fun s => mz_G (d, mz_X0 L xs, none, [], mk_415, 2, Q) 117 mt_415_117 [(0, .ref 232), (1, .int s.1)] [] false (mz_k S R s.2 b t)) (C := C0) (fun C2 hc hx s hP hC => cb_415_117 hd hS hR  s hr hc hx hP hC) n (v1, N) hn hC
theorem cb_415_86 (hd : 2 ≤ d) (hS : mz_extR S 342) (hR : mz_rok R 342)   (s : Int32 × mz_N) {C0 : (mz_N) → Prop} (hr : ∀ (N2 : mz_N), C0 N2 → Q (.inl none) (mz_k S R N2 b t)) {C1 : ((Int32 × mz_N) ⊕ (mz_N)) → Prop} (hc1 : ∀ s2, C1 (.inl s2) → mz_G (d, mz_X0 L xs, none, [], mk_415, 2, Q) 86 mt_415_86 [(0, .ref 232), (1, .int s2.1)] [] false (mz_k S R s2.2 b t)) (hx1 : ∀ z, C1 (.inr z) → C0 z) (hp : cd_415_86  s) (hC : C1 (cq_415_86  s)) : mz_G (d, mz_X0 L xs, none, [], mk_415, 2, Q) 86 mt_415_86 [(0, .ref 232), (1, .int s.1)] [] false (mz_k S R s.2 b t) := by
  unfold cq_415_86 at hC
  unfold cd_415_86 at hp
  refine g_iload_n rfl (g_bipush mzb_96 ?_)
  refine g_icge (tg := 115) rfl ms_415_115 hC (fun h1 hC => ?_) (fun h1 hC => ?_)
  · have hp := hp.1 h1
    refine g_aload_n rfl (g_getR (mz_at hS (Nat.le_of_ble_eq_true rfl) mzcS_232) mzcf_12_18 (mz_rb hR (Nat.le_of_ble_eq_true rfl) rfl mzcR_232_18) (g_iload_n rfl (g_iconst mzi_0 ?_)))
    obtain ⟨h2, hp⟩ := hp
    refine g_iast (mz_at hS (Nat.le_of_ble_eq_true rfl) mzcS_246) h2 (g_aload_n rfl (g_getR (mz_at hS (Nat.le_of_ble_eq_true rfl) mzcS_232) mzcf_12_17 (mz_rb hR (Nat.le_of_ble_eq_true rfl) rfl mzcR_232_17) (g_iload_n rfl (g_bipush mzb_24 (g_irem (by decide) (g_iconst mzi_0 ?_))))))
    have h3 := hp
    refine g_iast (mz_at hS (Nat.le_of_ble_eq_true rfl) mzcS_245) h3 (g_iinc rfl mzi_1 (Nat.le_of_ble_eq_true rfl) rfl (g_goto (tg := 86) rfl ms_415_86 ?_))
    refine g_weak ?_ (g_cl (hc1 ((s.1 + 1), mz_wI (mz_wI s.2 246 s.1 0) 245 (mz_irem s.1 24) 0) hC))
    exact ⟨rfl, rfl, trivial⟩
  · have hp := hp.2 h1
    refine g_iconst mzi_0 (g_istore_n (Nat.le_of_ble_eq_true rfl) rfl ?_)
    refine g_weak ?_ (g_cl (cg_415_117 hd hS hR 0 s.2 hr hp (hx1 _ hC)))
    exact ⟨rfl, rfl, trivial⟩
theorem cg_415_86 (hd : 2 ≤ d) (hS : mz_extR S 342) (hR : mz_rok R 342)  (v1 : Int32) (N : mz_N) {C0 : (mz_N) → Prop} (hr : ∀ (N2 : mz_N), C0 N2 → Q (.inl none) (mz_k S R N2 b t)) (hp : cp_415_86 v1 N) (hC : C0 (cf_415_86 v1 N)) : mz_G (d, mz_X0 L xs, none, [], mk_415, 2, Q) 86 mt_415_86 [(0, .ref 232), (1, .int v1)] [] false (mz_k S R N b t) := by
  obtain ⟨n, hn⟩ := hp
  exact g_loop (G := fun s => mz_G (d, mz_X0 L xs, none, [], mk_415, 2, Q) 86 mt_415_86 [(0, .ref 232), (1, .int s.1)] [] false (mz_k S R s.2 b t)) (C := C0) (fun C2 hc hx s hP hC => cb_415_86 hd hS hR  s hr hc hx hP hC) n (v1, N) hn hC
theorem cb_415_12 (hd : 2 ≤ d) (hS : mz_extR S 342) (hR : mz_rok R 342)   (s : Int32 × mz_N) {C0 : (mz_N) → Prop} (hr : ∀ (N2 : mz_N), C0 N2 → Q (.inl none) (mz_k S R N2 b t)) {C1 : ((Int32 × mz_N) ⊕ (mz_N)) → Prop} (hc1 : ∀ s2, C1 (.inl s2) → mz_G (d, mz_X0 L xs, none, [], mk_415, 2, Q) 12 mt_415_12 [(0, .ref 232), (1, .int s2.1)] [] false (mz_k S R s2.2 b t)) (hx1 : ∀ z, C1 (.inr z) → C0 z) (hp : cd_415_12  s) (hC : C1 (cq_415_12  s)) : mz_G (d, mz_X0 L xs, none, [], mk_415, 2, Q) 12 mt_415_12 [(0, .ref 232), (1, .int s.1)] [] false (mz_k S R s.2 b t) := by
  unfold cq_415_12 at hC
  unfold cd_415_12 at hp
  refine g_iload_n rfl (g_sipush mzs_240 ?_)
  refine g_icge (tg := 84) rfl ms_415_84 hC (fun h1 hC => ?_) (fun h1 hC => ?_)
  · have hp := hp.1 h1
    refine g_aload_n rfl (g_getR (mz_at hS (Nat.le_of_ble_eq_true rfl) mzcS_232) mzcf_12_5 (mz_rb hR (Nat.le_of_ble_eq_true rfl) rfl mzcR_232_5) (g_iload_n rfl (g_bipush mzb_15 ?_)))
    obtain ⟨h2, hp⟩ := hp
    refine g_iast (mz_at hS (Nat.le_of_ble_eq_true rfl) mzcS_234) h2 (g_aload_n rfl (g_getR (mz_at hS (Nat.le_of_ble_eq_true rfl) mzcS_232) mzcf_12_16 (mz_rb hR (Nat.le_of_ble_eq_true rfl) rfl mzcR_232_16) (g_iload_n rfl (g_iconst mzi_0 ?_))))
    obtain ⟨h3, hp⟩ := hp
    refine g_iast (mz_at hS (Nat.le_of_ble_eq_true rfl) mzcS_244) h3 (g_aload_n rfl (g_getR (mz_at hS (Nat.le_of_ble_eq_true rfl) mzcS_232) mzcf_12_40 (mz_rb hR (Nat.le_of_ble_eq_true rfl) rfl mzcR_232_40) (g_iload_n rfl (g_con3 ?_))))
    obtain ⟨h4, hp⟩ := hp
    refine g_last (mz_at hS (Nat.le_of_ble_eq_true rfl) mzcS_260) h4 (g_aload_n rfl (g_getR (mz_at hS (Nat.le_of_ble_eq_true rfl) mzcS_232) mzcf_12_41 (mz_rb hR (Nat.le_of_ble_eq_true rfl) rfl mzcR_232_41) (g_iload_n rfl (g_lconst mzl_0 ?_))))
    obtain ⟨h5, hp⟩ := hp
    refine g_last (mz_at hS (Nat.le_of_ble_eq_true rfl) mzcS_261) h5 (g_aload_n rfl (g_getR (mz_at hS (Nat.le_of_ble_eq_true rfl) mzcS_232) mzcf_12_42 (mz_rb hR (Nat.le_of_ble_eq_true rfl) rfl mzcR_232_42) (g_iload_n rfl (g_lconst mzl_0 ?_))))
    obtain ⟨h6, hp⟩ := hp
    refine g_last (mz_at hS (Nat.le_of_ble_eq_true rfl) mzcS_262) h6 ?_
    refine g_weak ?_ (g_cl (cg_415_57 hd hS hR s.1 (mz_wL (mz_wL (mz_wL (mz_wI (mz_wI s.2 234 s.1 15) 244 s.1 0) 260 s.1 18000) 261 s.1 0) 262 s.1 0) hr hc1 hx1 hp hC))
    exact ⟨rfl, rfl, trivial⟩
  · have hp := hp.2 h1
    refine g_iconst mzi_0 (g_istore_n (Nat.le_of_ble_eq_true rfl) rfl ?_)
    refine g_weak ?_ (g_cl (cg_415_86 hd hS hR 0 s.2 hr hp (hx1 _ hC)))
    exact ⟨rfl, rfl, trivial⟩
theorem cg_415_12 (hd : 2 ≤ d) (hS : mz_extR S 342) (hR : mz_rok R 342)  (v1 : Int32) (N : mz_N) {C0 : (mz_N) → Prop} (hr : ∀ (N2 : mz_N), C0 N2 → Q (.inl none) (mz_k S R N2 b t)) (hp : cp_415_12 v1 N) (hC : C0 (cf_415_12 v1 N)) : mz_G (d, mz_X0 L xs, none, [], mk_415, 2, Q) 12 mt_415_12 [(0, .ref 232), (1, .int v1)] [] false (mz_k S R N b t) := by
  obtain ⟨n, hn⟩ := hp
  exact g_loop (G := fun s => mz_G (d, mz_X0 L xs, none, [], mk_415, 2, Q) 12 mt_415_12 [(0, .ref 232), (1, .int s.1)] [] false (mz_k S R s.2 b t)) (C := C0) (fun C2 hc hx s hP hC => cb_415_12 hd hS hR  s hr hc hx hP hC) n (v1, N) hn hC
theorem cg_415_0 (hd : 2 ≤ d) (hS : mz_extR S 342) (hR : mz_rok R 342)  (N : mz_N) {C0 : (mz_N) → Prop} (hr : ∀ (N2 : mz_N), C0 N2 → Q (.inl none) (mz_k S R N2 b t)) (hp : cp_415_0 N) (hC : C0 (cf_415_0 N)) : mz_G (d, mz_X0 L xs, none, [], mk_415, 2, Q) 0 mk_415 [(0, .ref 232)] [] true (mz_k S R N b t) := by
  unfold cf_415_0 at hC
  unfold cp_415_0 at hp
  refine g_aload_n rfl (g_iconst mzi_0 ?_)
  obtain ⟨h1, hp⟩ := hp
  refine g_v2n (Nat.le_of_ble_eq_true rfl) (mz_at hS (Nat.le_of_ble_eq_true rfl) mzcS_232) (fun _ hq => cs_416 (Nat.le_trans (Nat.le_of_ble_eq_true rfl) hd) (hS.le (Nat.le_of_ble_eq_true rfl)) (hR.le (Nat.le_of_ble_eq_true rfl))  0 N h1 hq) (g_aload_n rfl (g_iconst mzi_0 (g_putI (mz_at hS (Nat.le_of_ble_eq_true rfl) mzcS_232) mzcf_12_4 (g_iconst mzi_0 (g_istore_n (Nat.le_of_ble_eq_true rfl) rfl ?_)))))
  refine g_weak ?_ (g_cl (cg_415_12 hd hS hR 0 (mz_pI (cf_416_0 0 N) 232 4 0) hr hp hC))
  exact ⟨rfl, rfl, trivial⟩
theorem cs_415 (hd : 3 ≤ d) (hS : mz_extR S 342) (hR : mz_rok R 342)  (N : mz_N) (hp : cp_415_0 N) (hq : Q (.inl none) (mz_k S R (cf_415_0 N) b t)) : mz_Ed (mz_X0 L xs) d 415 [.ref 232] (mz_k S R N b t) Q :=
  by
  refine g_in mzq_415 (Nat.le_of_ble_eq_true rfl) (Nat.le_of_ble_eq_true rfl) (Nat.le_trans (Nat.le_of_ble_eq_true rfl) hd) ?_
  refine g_weak ?_ (cg_415_0 (d := d - 1) (by omega) hS hR N (C0 := fun z => Q (.inl none) (mz_k S R z b t)) (fun _ h => h) hp hq)
  exact ⟨rfl, trivial⟩
/-! 420 KeptHouseModel.baseOf (I)I -/
theorem ms_420_0 : mz_sf mk_420 0 = mk_420 := mz_sf_zero _
theorem ms_420_78 : mz_sf mk_420 78 = mt_420_78 := mz_sf_add ms_420_0 (t := 78) rfl rfl
theorem ms_420_80 : mz_sf mk_420 80 = mt_420_80 := mz_sf_add ms_420_78 (t := 2) rfl rfl
theorem ms_420_83 : mz_sf mk_420 83 = mt_420_83 := mz_sf_add ms_420_80 (t := 3) rfl rfl
theorem ms_420_86 : mz_sf mk_420 86 = mt_420_86 := mz_sf_add ms_420_83 (t := 3) rfl rfl
theorem ms_420_89 : mz_sf mk_420 89 = mt_420_89 := mz_sf_add ms_420_86 (t := 3) rfl rfl
theorem ms_420_92 : mz_sf mk_420 92 = mt_420_92 := mz_sf_add ms_420_89 (t := 3) rfl rfl
theorem ms_420_95 : mz_sf mk_420 95 = mt_420_95 := mz_sf_add ms_420_92 (t := 3) rfl rfl
theorem ms_420_98 : mz_sf mk_420 98 = mt_420_98 := mz_sf_add ms_420_95 (t := 3) rfl rfl
theorem ms_420_101 : mz_sf mk_420 101 = mt_420_101 := mz_sf_add ms_420_98 (t := 3) rfl rfl
theorem ms_420_104 : mz_sf mk_420 104 = mt_420_104 := mz_sf_add ms_420_101 (t := 3) rfl rfl
theorem ms_420_107 : mz_sf mk_420 107 = mt_420_107 := mz_sf_add ms_420_104 (t := 3) rfl rfl
theorem ms_420_110 : mz_sf mk_420 110 = mt_420_110 := mz_sf_add ms_420_107 (t := 3) rfl rfl
theorem ms_420_113 : mz_sf mk_420 113 = mt_420_113 := mz_sf_add ms_420_110 (t := 3) rfl rfl
theorem ms_420_116 : mz_sf mk_420 116 = mt_420_116 := mz_sf_add ms_420_113 (t := 3) rfl rfl
theorem ms_420_119 : mz_sf mk_420 119 = mt_420_119 := mz_sf_add ms_420_116 (t := 3) rfl rfl
set_option maxRecDepth 100000 in
theorem mzq_420 : mz_PG0 420 = some (12, ⟨"KeptHouseModel", "baseOf", "(I)I"⟩, prog_14_method_159_code, 1, some .int, [], mk_420, []) := rfl
theorem cg_420_0 (hd : 0 ≤ d) (hS : mz_extR S 342) (hR : mz_rok R 342)  (v0 : Int32) {C0 : (Int32) → Prop} (hr : ∀ (w : Int32), C0 w → Q (.inl (some (.int w))) (mz_k S R N b t)) (hp : cp_420_0 v0) (hC : C0 (cf_420_0 v0)) : mz_G (d, mz_X0 L xs, some .int, [], mk_420, 1, Q) 0 mk_420 [(0, .int v0)] [] true (mz_k S R N b t) := by
  unfold cf_420_0 at hC
  unfold cp_420_0 at hp
  refine g_iload_n rfl ?_
  refine mz_cs hC (fun h1 hC => ?_) (fun h1 hC => ?_)
  · refine g_brn (tg := 76) (by rw [h1]; rfl) (by decide) rfl ?_
    refine g_iconst mzi_0 ?_
    exact g_iret rfl (hr _ hC)
  · refine mz_cs hC (fun h2 hC => ?_) (fun h2 hC => ?_)
    · refine g_br (tg := 78) (by rw [h2]; rfl) ms_420_78 ?_
      refine g_iconst mzi_5 ?_
      exact g_iret rfl (hr _ hC)
    · refine mz_cs hC (fun h3 hC => ?_) (fun h3 hC => ?_)
      · refine g_br (tg := 80) (by rw [h3]; rfl) ms_420_80 ?_
        refine g_bipush mzb_10 ?_
        exact g_iret rfl (hr _ hC)
      · refine mz_cs hC (fun h4 hC => ?_) (fun h4 hC => ?_)
        · refine g_br (tg := 83) (by rw [h4]; rfl) ms_420_83 ?_
          refine g_bipush mzb_20 ?_
          exact g_iret rfl (hr _ hC)
        · refine mz_cs hC (fun h5 hC => ?_) (fun h5 hC => ?_)
          · refine g_br (tg := 86) (by rw [h5]; rfl) ms_420_86 ?_
            refine g_bipush mzb_22 ?_
            exact g_iret rfl (hr _ hC)
          · refine mz_cs hC (fun h6 hC => ?_) (fun h6 hC => ?_)
            · refine g_br (tg := 89) (by rw [h6]; rfl) ms_420_89 ?_
              refine g_bipush mzb_26 ?_
              exact g_iret rfl (hr _ hC)
            · refine mz_cs hC (fun h7 hC => ?_) (fun h7 hC => ?_)
              · refine g_br (tg := 92) (by rw [h7]; rfl) ms_420_92 ?_
                refine g_bipush mzb_34 ?_
                exact g_iret rfl (hr _ hC)
              · refine mz_cs hC (fun h8 hC => ?_) (fun h8 hC => ?_)
                · refine g_br (tg := 95) (by rw [h8]; rfl) ms_420_95 ?_
                  refine g_bipush mzb_36 ?_
                  exact g_iret rfl (hr _ hC)
                · refine mz_cs hC (fun h9 hC => ?_) (fun h9 hC => ?_)
                  · refine g_br (tg := 98) (by rw [h9]; rfl) ms_420_98 ?_
                    refine g_bipush mzb_46 ?_
                    exact g_iret rfl (hr _ hC)
                  · refine mz_cs hC (fun h10 hC => ?_) (fun h10 hC => ?_)
                    · refine g_br (tg := 101) (by rw [h10]; rfl) ms_420_101 ?_
                      refine g_bipush mzb_47 ?_
                      exact g_iret rfl (hr _ hC)
                    · refine mz_cs hC (fun h11 hC => ?_) (fun h11 hC => ?_)
                      · refine g_br (tg := 104) (by rw [h11]; rfl) ms_420_104 ?_
                        refine g_bipush mzb_48 ?_
                        exact g_iret rfl (hr _ hC)
                      · refine mz_cs hC (fun h12 hC => ?_) (fun h12 hC => ?_)
                        · refine g_br (tg := 107) (by rw [h12]; rfl) ms_420_107 ?_
                          refine g_bipush mzb_51 ?_
                          exact g_iret rfl (hr _ hC)
                        · refine mz_cs hC (fun h13 hC => ?_) (fun h13 hC => ?_)
                          · refine g_br (tg := 110) (by rw [h13]; rfl) ms_420_110 ?_
                            refine g_bipush mzb_67 ?_
                            exact g_iret rfl (hr _ hC)
                          · refine mz_cs hC (fun h14 hC => ?_) (fun h14 hC => ?_)
                            · refine g_br (tg := 113) (by rw [h14]; rfl) ms_420_113 ?_
                              refine g_bipush mzb_87 ?_
                              exact g_iret rfl (hr _ hC)
                            · refine mz_cs hC (fun h15 hC => ?_) (fun h15 hC => ?_)
                              · refine g_br (tg := 116) (by rw [h15]; rfl) ms_420_116 ?_
                                refine g_bipush mzb_127 ?_
                                exact g_iret rfl (hr _ hC)
                              · refine g_br (tg := 119) ((mz_tsw_d (l := [1, 2, 3, 4, 5, 6, 7, 8, 9, 10, 11, 12, 13, 14, 15]) (mz_rng 1 14) ⟨h1, h2, h3, h4, h5, h6, h7, h8, h9, h10, h11, h12, h13, h14, h15, trivial⟩).trans (mz_tg_t rfl)) ms_420_119 ?_
                                refine g_sipush mzs_135 ?_
                                exact g_iret rfl (hr _ hC)
theorem cs_420 (hd : 1 ≤ d) (hS : mz_extR S 342) (hR : mz_rok R 342)  (v0 : Int32) (hp : cp_420_0 v0) (hq : Q (.inl (some (.int (cf_420_0 v0)))) (mz_k S R N b t)) : mz_Ed (mz_X0 L xs) d 420 [.int v0] (mz_k S R N b t) Q :=
  by
  refine g_in mzq_420 (Nat.le_of_ble_eq_true rfl) (Nat.le_of_ble_eq_true rfl) (Nat.le_trans (Nat.le_of_ble_eq_true rfl) hd) ?_
  refine g_weak ?_ (cg_420_0 (d := d - 1) (by omega) hS hR v0 (C0 := fun z => Q (.inl (some (.int z))) (mz_k S R N b t)) (fun _ h => h) hp hq)
  exact ⟨rfl, trivial⟩
/-! 419 KeptHouseModel.kindOf (I)I -/
theorem ms_419_0 : mz_sf mk_419 0 = mk_419 := mz_sf_zero _
theorem ms_419_2 : mz_sf mk_419 2 = mt_419_2 := mz_sf_add ms_419_0 (t := 2) rfl rfl
theorem ms_419_18 : mz_sf mk_419 18 = mt_419_18 := mz_sf_add ms_419_2 (t := 16) rfl rfl
set_option maxRecDepth 100000 in
theorem mzq_419 : mz_PG0 419 = some (12, ⟨"KeptHouseModel", "kindOf", "(I)I"⟩, prog_14_method_161_code, 2, some .int, [], mk_419, []) := rfl
theorem cb_419_2 (hd : 1 ≤ d) (hS : mz_extR S 342) (hR : mz_rok R 342)  (v0 : Int32) (s : Int32) {C0 : (Int32) → Prop} (hr : ∀ (w : Int32), C0 w → Q (.inl (some (.int w))) (mz_k S R N b t)) {C1 : ((Int32) ⊕ (Int32)) → Prop} (hc1 : ∀ s2, C1 (.inl s2) → mz_G (d, mz_X0 L xs, some .int, [], mk_419, 2, Q) 2 mt_419_2 [(0, .int v0), (1, .int s2)] [] false (mz_k S R N b t)) (hx1 : ∀ z, C1 (.inr z) → C0 z) (hp : cd_419_2 v0 s) (hC : C1 (cq_419_2 v0 s)) : mz_G (d, mz_X0 L xs, some .int, [], mk_419, 2, Q) 2 mt_419_2 [(0, .int v0), (1, .int s)] [] false (mz_k S R N b t) := by
  unfold cq_419_2 at hC
  unfold cd_419_2 at hp
  refine g_iload_n rfl (g_iload_n rfl (g_iconst mzi_1 (g_iadd ?_)))
  refine g_s1v (Nat.le_of_ble_eq_true rfl) (fun _ hq => cs_420 (Nat.le_trans (Nat.le_of_ble_eq_true rfl) hd) (hS.le (Nat.le_of_ble_eq_true rfl)) (hR.le (Nat.le_of_ble_eq_true rfl))  (s + 1) trivial hq) ?_
  refine g_iclt (tg := 18) rfl ms_419_18 hC (fun h2 hC => ?_) (fun h2 hC => ?_)
  · refine g_iload_n rfl ?_
    exact g_iret rfl (hr _ (hx1 _ hC))
  · refine g_iinc rfl mzi_1 (Nat.le_of_ble_eq_true rfl) rfl (g_goto (tg := 2) rfl ms_419_2 ?_)
    refine g_weak ?_ (g_cl (hc1 ((s + 1)) hC))
    exact ⟨rfl, rfl, trivial⟩
theorem cg_419_2 (hd : 1 ≤ d) (hS : mz_extR S 342) (hR : mz_rok R 342)  (v0 : Int32) (v1 : Int32) {C0 : (Int32) → Prop} (hr : ∀ (w : Int32), C0 w → Q (.inl (some (.int w))) (mz_k S R N b t)) (hp : cp_419_2 v0 v1) (hC : C0 (cf_419_2 v0 v1)) : mz_G (d, mz_X0 L xs, some .int, [], mk_419, 2, Q) 2 mt_419_2 [(0, .int v0), (1, .int v1)] [] false (mz_k S R N b t) := by
  obtain ⟨n, hn⟩ := hp
  exact g_loop (G := fun s => mz_G (d, mz_X0 L xs, some .int, [], mk_419, 2, Q) 2 mt_419_2 [(0, .int v0), (1, .int s)] [] false (mz_k S R N b t)) (C := C0) (fun C2 hc hx s hP hC => cb_419_2 hd hS hR v0 s hr hc hx hP hC) n (v1) hn hC
theorem cg_419_0 (hd : 1 ≤ d) (hS : mz_extR S 342) (hR : mz_rok R 342)  (v0 : Int32) {C0 : (Int32) → Prop} (hr : ∀ (w : Int32), C0 w → Q (.inl (some (.int w))) (mz_k S R N b t)) (hp : cp_419_0 v0) (hC : C0 (cf_419_0 v0)) : mz_G (d, mz_X0 L xs, some .int, [], mk_419, 2, Q) 0 mk_419 [(0, .int v0)] [] true (mz_k S R N b t) := by
  unfold cf_419_0 at hC
  unfold cp_419_0 at hp
  refine g_iconst mzi_1 (g_istore_n (Nat.le_of_ble_eq_true rfl) rfl ?_)
  refine g_weak ?_ (g_cl (cg_419_2 hd hS hR v0 1 hr hp hC))
  exact ⟨rfl, rfl, trivial⟩
theorem cs_419 (hd : 2 ≤ d) (hS : mz_extR S 342) (hR : mz_rok R 342)  (v0 : Int32) (hp : cp_419_0 v0) (hq : Q (.inl (some (.int (cf_419_0 v0)))) (mz_k S R N b t)) : mz_Ed (mz_X0 L xs) d 419 [.int v0] (mz_k S R N b t) Q :=
  by
  refine g_in mzq_419 (Nat.le_of_ble_eq_true rfl) (Nat.le_of_ble_eq_true rfl) (Nat.le_trans (Nat.le_of_ble_eq_true rfl) hd) ?_
  refine g_weak ?_ (cg_419_0 (d := d - 1) (by omega) hS hR v0 (C0 := fun z => Q (.inl (some (.int z))) (mz_k S R N b t)) (fun _ h => h) hp hq)
  exact ⟨rfl, trivial⟩
/-! 422 KeptHouseModel.at (II)I -/
theorem ms_422_0 : mz_sf mk_422 0 = mk_422 := mz_sf_zero _
set_option maxRecDepth 100000 in
theorem mzq_422 : mz_PG0 422 = some (12, ⟨"KeptHouseModel", "at", "(II)I"⟩, prog_14_method_190_code, 3, some .int, [], mk_422, []) := rfl
theorem cg_422_0 (hd : 0 ≤ d) (hS : mz_extR S 342) (hR : mz_rok R 342)  (v1 : Int32) (v2 : Int32) (N : mz_N) {C0 : (Int32) → Prop} (hr : ∀ (w : Int32), C0 w → Q (.inl (some (.int w))) (mz_k S R N b t)) (hp : cp_422_0 v1 v2 N) (hC : C0 (cf_422_0 v1 v2 N)) : mz_G (d, mz_X0 L xs, some .int, [], mk_422, 3, Q) 0 mk_422 [(0, .ref 232), (1, .int v1), (2, .int v2)] [] true (mz_k S R N b t) := by
  unfold cf_422_0 at hC
  unfold cp_422_0 at hp
  refine g_aload_n rfl (g_getR (mz_at hS (Nat.le_of_ble_eq_true rfl) mzcS_232) mzcf_12_131 (mz_rb hR (Nat.le_of_ble_eq_true rfl) rfl mzcR_232_131) (g_iload_n rfl (g_iload_n rfl (g_iadd ?_))))
  have h1 := hp
  refine g_bald (mz_at hS (Nat.le_of_ble_eq_true rfl) mzcS_331) h1 (g_sipush mzs_255 (g_iand ?_))
  exact g_iret rfl (hr _ hC)
theorem cs_422 (hd : 1 ≤ d) (hS : mz_extR S 342) (hR : mz_rok R 342)  (v1 : Int32) (v2 : Int32) (N : mz_N) (hp : cp_422_0 v1 v2 N) (hq : Q (.inl (some (.int (cf_422_0 v1 v2 N)))) (mz_k S R N b t)) : mz_Ed (mz_X0 L xs) d 422 [.ref 232, .int v1, .int v2] (mz_k S R N b t) Q :=
  by
  refine g_in mzq_422 (Nat.le_of_ble_eq_true rfl) (Nat.le_of_ble_eq_true rfl) (Nat.le_trans (Nat.le_of_ble_eq_true rfl) hd) ?_
  refine g_weak ?_ (cg_422_0 (d := d - 1) (by omega) hS hR v1 v2 N (C0 := fun z => Q (.inl (some (.int z))) (mz_k S R N b t)) (fun _ h => h) hp hq)
  exact ⟨rfl, rfl, rfl, trivial⟩
/-! 423 KeptHouseModel.number ([BII)J -/
theorem ms_423_0 : mz_sf mk_423 0 = mk_423 := mz_sf_zero _
theorem ms_423_7 : mz_sf mk_423 7 = mt_423_7 := mz_sf_add ms_423_0 (t := 7) rfl rfl
theorem ms_423_29 : mz_sf mk_423 29 = mt_423_29 := mz_sf_add ms_423_7 (t := 22) rfl rfl
theorem ms_423_35 : mz_sf mk_423 35 = mt_423_35 := mz_sf_add ms_423_29 (t := 6) rfl rfl
set_option maxRecDepth 100000 in
theorem mzq_423 : mz_PG0 423 = some (12, ⟨"KeptHouseModel", "number", "([BII)J"⟩, prog_14_method_169_code, 6, some .long, [], mk_423, []) := rfl
set_option maxRecDepth 20000 in
theorem cb_423_7 (hd : 0 ≤ d) (hS : mz_extR S 342) (hR : mz_rok R 342) (a0 : Nat) (n0 : Nat) (hs0 : S[a0]? = some (2, n0, [])) (v1 : Int32) (N : mz_N) (s : Int64 × Int32) {C0 : (Int64) → Prop} (hr : ∀ (w : Int64), C0 w → Q (.inl (some (.long w))) (mz_k S R N b t)) {C1 : ((Int64 × Int32) ⊕ (Int64)) → Prop} (hc1 : ∀ s2, C1 (.inl s2) → mz_G (d, mz_X0 L xs, some .long, [], mk_423, 6, Q) 7 mt_423_7 [(0, .ref a0), (1, .int v1), (3, .long s2.1), (5, .int s2.2)] [] false (mz_k S R N b t)) (hx1 : ∀ z, C1 (.inr z) → C0 z) (hp : cd_423_7 a0 n0 v1 N s) (hC : C1 (cq_423_7 a0 n0 v1 N s)) : mz_G (d, mz_X0 L xs, some .long, [], mk_423, 6, Q) 7 mt_423_7 [(0, .ref a0), (1, .int v1), (3, .long s.1), (5, .int s.2)] [] false (mz_k S R N b t) := by
  unfold cq_423_7 at hC
  unfold cd_423_7 at hp
  refine g_iload rfl ?_
  refine g_iflt (tg := 35) rfl ms_423_35 hC (fun h1 hC => ?_) (fun h1 hC => ?_)
  · have hp := hp.1 h1
    refine g_lload_n rfl ?_
    exact g_lret rfl (hr _ (hx1 _ hC))
  · have hp := hp.2 h1
    refine g_lload_n rfl (g_bipush mzb_8 (g_lshl (g_aload_n rfl (g_iload_n rfl (g_iload rfl (g_iadd ?_))))))
    have h2 := hp
    refine g_bald hs0 h2 (g_i2l (g_con3 (g_land (g_lor (g_lstore_n (Nat.le_of_ble_eq_true rfl) rfl rfl (g_iinc rfl mzi_m1 (Nat.le_of_ble_eq_true rfl) rfl (g_goto (tg := 7) rfl ms_423_7 ?_)))))))
    have hg := hc1 (((mz_lshl s.1 8) ||| (((mz_gI N a0 (v1 + s.2)).toInt64) &&& 255)), (s.2 + (-1))) hC
    try dsimp only at hg
    refine g_weak ?_ (g_cl hg)
    exact ⟨rfl, rfl, rfl, rfl, trivial⟩
theorem cg_423_7 (hd : 0 ≤ d) (hS : mz_extR S 342) (hR : mz_rok R 342) (a0 : Nat) (n0 : Nat) (hs0 : S[a0]? = some (2, n0, [])) (v1 : Int32) (v3 : Int64) (v5 : Int32) (N : mz_N) {C0 : (Int64) → Prop} (hr : ∀ (w : Int64), C0 w → Q (.inl (some (.long w))) (mz_k S R N b t)) (hp : cp_423_7 a0 n0 v1 v3 v5 N) (hC : C0 (cf_423_7 a0 n0 v1 v3 v5 N)) : mz_G (d, mz_X0 L xs, some .long, [], mk_423, 6, Q) 7 mt_423_7 [(0, .ref a0), (1, .int v1), (3, .long v3), (5, .int v5)] [] false (mz_k S R N b t) := by
  obtain ⟨n, hn⟩ := hp
  exact g_loop (G := fun s => mz_G (d, mz_X0 L xs, some .long, [], mk_423, 6, Q) 7 mt_423_7 [(0, .ref a0), (1, .int v1), (3, .long s.1), (5, .int s.2)] [] false (mz_k S R N b t)) (C := C0) (fun C2 hc hx s hP hC => cb_423_7 hd hS hR a0 n0 hs0 v1 N s hr hc hx hP hC) n (v3, v5) hn hC
theorem cg_423_0 (hd : 0 ≤ d) (hS : mz_extR S 342) (hR : mz_rok R 342) (a0 : Nat) (n0 : Nat) (hs0 : S[a0]? = some (2, n0, [])) (v1 : Int32) (v2 : Int32) (N : mz_N) {C0 : (Int64) → Prop} (hr : ∀ (w : Int64), C0 w → Q (.inl (some (.long w))) (mz_k S R N b t)) (hp : cp_423_0 a0 n0 v1 v2 N) (hC : C0 (cf_423_0 a0 n0 v1 v2 N)) : mz_G (d, mz_X0 L xs, some .long, [], mk_423, 6, Q) 0 mk_423 [(0, .ref a0), (1, .int v1), (2, .int v2)] [] true (mz_k S R N b t) := by
  unfold cf_423_0 at hC
  unfold cp_423_0 at hp
  refine g_lconst mzl_0 (g_lstore_n (Nat.le_of_ble_eq_true rfl) rfl rfl (g_iload_n rfl (g_iconst mzi_1 (g_isub (g_istore (Nat.le_of_ble_eq_true rfl) rfl ?_)))))
  refine g_weak ?_ (g_cl (cg_423_7 hd hS hR a0 n0 hs0 v1 0 (v2 - 1) N hr hp hC))
  exact ⟨rfl, rfl, rfl, rfl, trivial⟩
theorem cs_423 (hd : 1 ≤ d) (hS : mz_extR S 342) (hR : mz_rok R 342) (a0 : Nat) (n0 : Nat) (hs0 : S[a0]? = some (2, n0, [])) (v1 : Int32) (v2 : Int32) (N : mz_N) (hp : cp_423_0 a0 n0 v1 v2 N) (hq : Q (.inl (some (.long (cf_423_0 a0 n0 v1 v2 N)))) (mz_k S R N b t)) : mz_Ed (mz_X0 L xs) d 423 [.ref a0, .int v1, .int v2] (mz_k S R N b t) Q :=
  by
  refine g_in mzq_423 (Nat.le_of_ble_eq_true rfl) (Nat.le_of_ble_eq_true rfl) (Nat.le_trans (Nat.le_of_ble_eq_true rfl) hd) ?_
  refine g_weak ?_ (cg_423_0 (d := d - 1) (by omega) hS hR a0 n0 hs0 v1 v2 N (C0 := fun z => Q (.inl (some (.long z))) (mz_k S R N b t)) (fun _ h => h) hp hq)
  exact ⟨rfl, rfl, rfl, trivial⟩
/-! 425 KeptHouseModel.small (II)I -/
theorem ms_425_0 : mz_sf mk_425 0 = mk_425 := mz_sf_zero _
set_option maxRecDepth 100000 in
theorem mzq_425 : mz_PG0 425 = some (12, ⟨"KeptHouseModel", "small", "(II)I"⟩, prog_14_method_191_code, 3, some .int, [], mk_425, []) := rfl
theorem cg_425_0 (hd : 1 ≤ d) (hS : mz_extR S 342) (hR : mz_rok R 342)  (v1 : Int32) (v2 : Int32) (N : mz_N) {C0 : (Int32) → Prop} (hr : ∀ (w : Int32), C0 w → Q (.inl (some (.int w))) (mz_k S R N b t)) (hp : cp_425_0 v1 v2 N) (hC : C0 (cf_425_0 v1 v2 N)) : mz_G (d, mz_X0 L xs, some .int, [], mk_425, 3, Q) 0 mk_425 [(0, .ref 232), (1, .int v1), (2, .int v2)] [] true (mz_k S R N b t) := by
  unfold cf_425_0 at hC
  unfold cp_425_0 at hp
  refine g_aload_n rfl (g_getR (mz_at hS (Nat.le_of_ble_eq_true rfl) mzcS_232) mzcf_12_131 (mz_rb hR (Nat.le_of_ble_eq_true rfl) rfl mzcR_232_131) (g_iload_n rfl (g_iload_n rfl (g_iadd (g_iconst mzi_4 ?_)))))
  have h1 := hp
  refine g_s3v (Nat.le_of_ble_eq_true rfl) (fun _ hq => cs_423 (Nat.le_trans (Nat.le_of_ble_eq_true rfl) hd) (hS.le (Nat.le_of_ble_eq_true rfl)) (hR.le (Nat.le_of_ble_eq_true rfl)) 331 3780 (mz_at hS (Nat.le_of_ble_eq_true rfl) mzcS_331) (v1 + v2) 4 N h1 hq) (g_l2i ?_)
  exact g_iret rfl (hr _ hC)
theorem cs_425 (hd : 2 ≤ d) (hS : mz_extR S 342) (hR : mz_rok R 342)  (v1 : Int32) (v2 : Int32) (N : mz_N) (hp : cp_425_0 v1 v2 N) (hq : Q (.inl (some (.int (cf_425_0 v1 v2 N)))) (mz_k S R N b t)) : mz_Ed (mz_X0 L xs) d 425 [.ref 232, .int v1, .int v2] (mz_k S R N b t) Q :=
  by
  refine g_in mzq_425 (Nat.le_of_ble_eq_true rfl) (Nat.le_of_ble_eq_true rfl) (Nat.le_trans (Nat.le_of_ble_eq_true rfl) hd) ?_
  refine g_weak ?_ (cg_425_0 (d := d - 1) (by omega) hS hR v1 v2 N (C0 := fun z => Q (.inl (some (.int z))) (mz_k S R N b t)) (fun _ h => h) hp hq)
  exact ⟨rfl, rfl, rfl, trivial⟩
end Fn20
