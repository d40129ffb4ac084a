/-! THE FUNCTIONS: written by program: each method comes to its function. -/
section Fn0
variable {L : Nat} {xs : Nat → Int32} {d : Nat} {S : mz_S} {R : Nat → Nat → Option Nat} {Q : mz_Q} {N : mz_N} {b : Bool} {t : Nat}
/-! 13 java/util/Arrays.fill ([II)V -/
theorem ms_13_0 : mz_sf mk_13 0 = mk_13 := mz_sf_zero _
theorem ms_13_5 : mz_sf mk_13 5 = mt_13_5 := mz_sf_add ms_13_0 (t := 5) rfl rfl
theorem ms_13_20 : mz_sf mk_13 20 = mt_13_20 := mz_sf_add ms_13_5 (t := 15) rfl rfl
set_option maxRecDepth 100000 in
theorem mzq_13 : mz_PG0 13 = some (14, ⟨"java/util/Arrays", "fill", "([II)V"⟩, prog_30_method_103_code, 4, none, [], mk_13, []) := rfl
theorem cb_13_5 (hd : 0 ≤ d) (hS : mz_extR S 0) (hR : mz_rok R 0) (a0 : Nat) (n0 : Nat) (hs0 : S[a0]? = some (0, n0, [])) (v1 : Int32) (v3 : Int32) (s : Int32 × mz_N) {C0 : (mz_N) → Prop} (hr : ∀ (N2 : mz_N), C0 N2 → Q (.inl none) (mz_k S R N2 b t)) {C1 : ((Int32 × mz_N) ⊕ (mz_N)) → Prop} (hc1 : ∀ s2, C1 (.inl s2) → mz_G (d, mz_X0 L xs, none, [], mk_13, 4, Q) 5 mt_13_5 [(0, .ref a0), (1, .int v1), (2, .int s2.1), (3, .int v3)] [] false (mz_k S R s2.2 b t)) (hx1 : ∀ z, C1 (.inr z) → C0 z) (hp : cd_13_5 a0 n0 v1 v3 s) (hC : C1 (cq_13_5 a0 n0 v1 v3 s)) : mz_G (d, mz_X0 L xs, none, [], mk_13, 4, Q) 5 mt_13_5 [(0, .ref a0), (1, .int v1), (2, .int s.1), (3, .int v3)] [] false (mz_k S R s.2 b t) := by
  unfold cq_13_5 at hC
  unfold cd_13_5 at hp
  refine g_iload_n rfl (g_iload_n rfl ?_)
  refine g_icge (tg := 20) rfl ms_13_20 hC (fun h1 hC => ?_) (fun h1 hC => ?_)
  · have hp := hp.1 h1
    refine g_aload_n rfl (g_iload_n rfl (g_iload_n rfl ?_))
    have h2 := hp
    refine g_iast hs0 h2 (g_iinc rfl mzi_1 (Nat.le_of_ble_eq_true rfl) rfl (g_goto (tg := 5) rfl ms_13_5 ?_))
    refine g_weak ?_ (g_cl (hc1 ((s.1 + 1), mz_wI s.2 a0 s.1 v1) hC))
    exact ⟨rfl, rfl, rfl, rfl, trivial⟩
  · have hp := hp.2 h1
    exact g_vret rfl (hr _ (hx1 _ hC))
theorem cg_13_5 (hd : 0 ≤ d) (hS : mz_extR S 0) (hR : mz_rok R 0) (a0 : Nat) (n0 : Nat) (hs0 : S[a0]? = some (0, n0, [])) (v1 : Int32) (v2 : Int32) (v3 : Int32) (N : mz_N) {C0 : (mz_N) → Prop} (hr : ∀ (N2 : mz_N), C0 N2 → Q (.inl none) (mz_k S R N2 b t)) (hp : cp_13_5 a0 n0 v1 v2 v3 N) (hC : C0 (cf_13_5 a0 n0 v1 v2 v3 N)) : mz_G (d, mz_X0 L xs, none, [], mk_13, 4, Q) 5 mt_13_5 [(0, .ref a0), (1, .int v1), (2, .int v2), (3, .int v3)] [] false (mz_k S R N b t) := by
  obtain ⟨n, hn⟩ := hp
  exact g_loop (G := fun s => mz_G (d, mz_X0 L xs, none, [], mk_13, 4, Q) 5 mt_13_5 [(0, .ref a0), (1, .int v1), (2, .int s.1), (3, .int v3)] [] false (mz_k S R s.2 b t)) (C := C0) (fun C2 hc hx s hP hC => cb_13_5 hd hS hR a0 n0 hs0 v1 v3 s hr hc hx hP hC) n (v2, N) hn hC
theorem cg_13_0 (hd : 0 ≤ d) (hS : mz_extR S 0) (hR : mz_rok R 0) (a0 : Nat) (n0 : Nat) (hs0 : S[a0]? = some (0, n0, [])) (v1 : Int32) (N : mz_N) {C0 : (mz_N) → Prop} (hr : ∀ (N2 : mz_N), C0 N2 → Q (.inl none) (mz_k S R N2 b t)) (hp : cp_13_0 a0 n0 v1 N) (hC : C0 (cf_13_0 a0 n0 v1 N)) : mz_G (d, mz_X0 L xs, none, [], mk_13, 4, Q) 0 mk_13 [(0, .ref a0), (1, .int v1)] [] true (mz_k S R N b t) := by
  unfold cf_13_0 at hC
  unfold cp_13_0 at hp
  refine g_iconst mzi_0 (g_istore_n (Nat.le_of_ble_eq_true rfl) rfl (g_aload_n rfl (g_len0 hS.1 hs0 rfl (g_istore_n (Nat.le_of_ble_eq_true rfl) rfl ?_))))
  refine g_weak ?_ (g_cl (cg_13_5 hd hS hR a0 n0 hs0 v1 0 (Int32.ofNat n0) N hr hp hC))
  exact ⟨rfl, rfl, rfl, rfl, trivial⟩
theorem cs_13 (hd : 1 ≤ d) (hS : mz_extR S 0) (hR : mz_rok R 0) (a0 : Nat) (n0 : Nat) (hs0 : S[a0]? = some (0, n0, [])) (v1 : Int32) (N : mz_N) (hp : cp_13_0 a0 n0 v1 N) (hq : Q (.inl none) (mz_k S R (cf_13_0 a0 n0 v1 N) b t)) : mz_Ed (mz_X0 L xs) d 13 [.ref a0, .int v1] (mz_k S R N b t) Q :=
  by
  refine g_in mzq_13 (Nat.le_of_ble_eq_true rfl) (Nat.le_of_ble_eq_true rfl) (Nat.le_trans (Nat.le_of_ble_eq_true rfl) hd) ?_
  refine g_weak ?_ (cg_13_0 (d := d - 1) (by omega) hS hR a0 n0 hs0 v1 N (C0 := fun z => Q (.inl none) (mz_k S R z b t)) (fun _ h => h) hp hq)
  exact ⟨rfl, rfl, trivial⟩
/-! 14 KeptHouse$Store.write ([IIIJ)V -/
theorem ms_14_0 : mz_sf mk_14 0 = mk_14 := mz_sf_zero _
theorem ms_14_3 : mz_sf mk_14 3 = mt_14_3 := mz_sf_add ms_14_0 (t := 3) rfl rfl
theorem ms_14_27 : mz_sf mk_14 27 = mt_14_27 := mz_sf_add ms_14_3 (t := 24) rfl rfl
theorem ms_14_33 : mz_sf mk_14 33 = mt_14_33 := mz_sf_add ms_14_27 (t := 6) rfl rfl
set_option maxRecDepth 100000 in
theorem mzq_14 : mz_PG0 14 = some (8, ⟨"KeptHouse$Store", "write", "([IIIJ)V"⟩, prog_10_method_2_code, 6, none, [], mk_14, []) := rfl
theorem cb_14_3 (hd : 0 ≤ d) (hS : mz_extR S 228) (hR : mz_rs R) (a0 : Nat) (n0 : Nat) (hs0 : S[a0]? = some (0, n0, [])) (v1 : Int32) (v2 : Int32) (v3 : Int64) (s : Int32 × mz_N) {C0 : (mz_N) → Prop} (hr : ∀ (N2 : mz_N), C0 N2 → Q (.inl none) (mz_k S R N2 b t)) {C1 : ((Int32 × mz_N) ⊕ (mz_N)) → Prop} (hc1 : ∀ s2, C1 (.inl s2) → mz_G (d, mz_X0 L xs, none, [], mk_14, 6, Q) 3 mt_14_3 [(0, .ref a0), (1, .int v1), (2, .int v2), (3, .long v3), (5, .int s2.1)] [] false (mz_k S R s2.2 b t)) (hx1 : ∀ z, C1 (.inr z) → C0 z) (hp : cd_14_3 a0 n0 v1 v2 v3 s) (hC : C1 (cq_14_3 a0 n0 v1 v2 v3 s)) : mz_G (d, mz_X0 L xs, none, [], mk_14, 6, Q) 3 mt_14_3 [(0, .ref a0), (1, .int v1), (2, .int v2), (3, .long v3), (5, .int s.1)] [] false (mz_k S R s.2 b t) := by
  unfold cq_14_3 at hC
  unfold cd_14_3 at hp
  refine g_iload rfl (g_iload_n rfl ?_)
  refine g_icge (tg := 33) rfl ms_14_33 hC (fun h1 hC => ?_) (fun h1 hC => ?_)
  · have hp := hp.1 h1
    refine g_aload_n rfl (g_iload_n rfl (g_iload rfl (g_iadd (g_lload_n rfl (g_bipush mzb_8 (g_iload rfl (g_imul ?_)))))))
    refine g_lushr (g_l2i (g_sipush mzs_255 (g_iand ?_)))
    have h2 := hp
    refine g_iast hs0 h2 (g_iinc rfl mzi_1 (Nat.le_of_ble_eq_true rfl) rfl (g_goto (tg := 3) rfl ms_14_3 ?_))
    refine g_weak ?_ (g_cl (hc1 ((s.1 + 1), mz_wI s.2 a0 (v1 + s.1) (((mz_lushr v3 (8 * s.1)).toInt32) &&& 255)) hC))
    exact ⟨rfl, rfl, rfl, rfl, rfl, trivial⟩
  · have hp := hp.2 h1
    exact g_vret rfl (hr _ (hx1 _ hC))
theorem cg_14_3 (hd : 0 ≤ d) (hS : mz_extR S 228) (hR : mz_rs R) (a0 : Nat) (n0 : Nat) (hs0 : S[a0]? = some (0, n0, [])) (v1 : Int32) (v2 : Int32) (v3 : Int64) (v5 : Int32) (N : mz_N) {C0 : (mz_N) → Prop} (hr : ∀ (N2 : mz_N), C0 N2 → Q (.inl none) (mz_k S R N2 b t)) (hp : cp_14_3 a0 n0 v1 v2 v3 v5 N) (hC : C0 (cf_14_3 a0 n0 v1 v2 v3 v5 N)) : mz_G (d, mz_X0 L xs, none, [], mk_14, 6, Q) 3 mt_14_3 [(0, .ref a0), (1, .int v1), (2, .int v2), (3, .long v3), (5, .int v5)] [] false (mz_k S R N b t) := by
  obtain ⟨n, hn⟩ := hp
  exact g_loop (G := fun s => mz_G (d, mz_X0 L xs, none, [], mk_14, 6, Q) 3 mt_14_3 [(0, .ref a0), (1, .int v1), (2, .int v2), (3, .long v3), (5, .int s.1)] [] false (mz_k S R s.2 b t)) (C := C0) (fun C2 hc hx s hP hC => cb_14_3 hd hS hR a0 n0 hs0 v1 v2 v3 s hr hc hx hP hC) n (v5, N) hn hC
theorem cg_14_0 (hd : 0 ≤ d) (hS : mz_extR S 228) (hR : mz_rs R) (a0 : Nat) (n0 : Nat) (hs0 : S[a0]? = some (0, n0, [])) (v1 : Int32) (v2 : Int32) (v3 : Int64) (N : mz_N) {C0 : (mz_N) → Prop} (hr : ∀ (N2 : mz_N), C0 N2 → Q (.inl none) (mz_k S R N2 b t)) (hp : cp_14_0 a0 n0 v1 v2 v3 N) (hC : C0 (cf_14_0 a0 n0 v1 v2 v3 N)) : mz_G (d, mz_X0 L xs, none, [], mk_14, 6, Q) 0 mk_14 [(0, .ref a0), (1, .int v1), (2, .int v2), (3, .long v3)] [] true (mz_k S R N b t) := by
  unfold cf_14_0 at hC
  unfold cp_14_0 at hp
  refine g_iconst mzi_0 (g_istore (Nat.le_of_ble_eq_true rfl) rfl ?_)
  refine g_weak ?_ (g_cl (cg_14_3 hd hS hR a0 n0 hs0 v1 v2 v3 0 N hr hp hC))
  exact ⟨rfl, rfl, rfl, rfl, rfl, trivial⟩
theorem cs_14 (hd : 1 ≤ d) (hS : mz_extR S 228) (hR : mz_rs R) (a0 : Nat) (n0 : Nat) (hs0 : S[a0]? = some (0, n0, [])) (v1 : Int32) (v2 : Int32) (v3 : Int64) (N : mz_N) (hp : cp_14_0 a0 n0 v1 v2 v3 N) (hq : Q (.inl none) (mz_k S R (cf_14_0 a0 n0 v1 v2 v3 N) b t)) : mz_Ed (mz_X0 L xs) d 14 [.ref a0, .int v1, .int v2, .long v3] (mz_k S R N b t) Q :=
  by
  refine g_in mzq_14 (Nat.le_of_ble_eq_true rfl) (Nat.le_of_ble_eq_true rfl) (Nat.le_trans (Nat.le_of_ble_eq_true rfl) hd) ?_
  refine g_weak ?_ (cg_14_0 (d := d - 1) (by omega) hS hR a0 n0 hs0 v1 v2 v3 N (C0 := fun z => Q (.inl none) (mz_k S R z b t)) (fun _ h => h) hp hq)
  exact ⟨rfl, rfl, rfl, rfl, trivial⟩
/-! 12 KeptHouse$Store.compose (IIZII)V -/
theorem ms_12_0 : mz_sf mk_12 0 = mk_12 := mz_sf_zero _
theorem ms_12_22 : mz_sf mk_12 22 = mt_12_22 := mz_sf_add ms_12_0 (t := 22) rfl rfl
theorem ms_12_35 : mz_sf mk_12 35 = mt_12_35 := mz_sf_add ms_12_22 (t := 13) rfl rfl
theorem ms_12_36 : mz_sf mk_12 36 = mt_12_36 := mz_sf_add ms_12_35 (t := 1) rfl rfl
theorem ms_12_62 : mz_sf mk_12 62 = mt_12_62 := mz_sf_add ms_12_36 (t := 26) rfl rfl
set_option maxRecDepth 100000 in
theorem mzq_12 : mz_PG0 12 = some (8, ⟨"KeptHouse$Store", "compose", "(IIZII)V"⟩, prog_10_method_11_code, 6, none, [], mk_12, []) := rfl
theorem cg_12_62 (hd : 1 ≤ d) (hS : mz_extR S 228) (hR : mz_rs R)  (N : mz_N) {C0 : (mz_N) → Prop} (hr : ∀ (N2 : mz_N), C0 N2 → Q (.inl none) (mz_k S R N2 b t)) (hp : cp_12_62 N) (hC : C0 (cf_12_62 N)) : mz_G (d, mz_X0 L xs, none, [], mk_12, 6, Q) 62 mt_12_62 [] [] false (mz_k S R N b t) := by
  unfold cf_12_62 at hC
  unfold cp_12_62 at hp
  exact g_vret rfl (hr _ hC)
theorem cg_12_36 (hd : 1 ≤ d) (hS : mz_extR S 228) (hR : mz_rs R)  (s1 : Int32) (s2 : Bool) (v4 : Int32) (v5 : Int32) (N : mz_N) {C0 : (mz_N) → Prop} (hr : ∀ (N2 : mz_N), C0 N2 → Q (.inl none) (mz_k S R N2 b t)) (hp : cp_12_36 s1 s2 v4 v5 N) (hC : C0 (cf_12_36 s1 s2 v4 v5 N)) : mz_G (d, mz_X0 L xs, none, [], mk_12, 6, Q) 36 mt_12_36 [(0, .ref 219), (4, .int v4), (5, .int v5)] [.int (mz_b01 s2), .int s1, .ref 225] false (mz_k S R N b t) := by
  unfold cf_12_36 at hC
  unfold cp_12_36 at hp
  obtain ⟨h1, hp⟩ := hp
  refine g_iast (mz_at hS (Nat.le_of_ble_eq_true rfl) mzcS_225) h1 (g_aload_n rfl (g_getR (mz_at hS (Nat.le_of_ble_eq_true rfl) mzcS_219) mzcf_8_3 (mz_rbs hR (Nat.le_of_ble_eq_true rfl) (Nat.le_of_ble_eq_true rfl) rfl mzcR_219_3) (g_iconst mzi_4 (g_iconst mzi_4 (g_iload rfl (g_i2l ?_))))))
  obtain ⟨h2, hp⟩ := hp
  refine g_s4n (Nat.le_of_ble_eq_true rfl) (fun _ hq => cs_14 (Nat.le_trans (Nat.le_of_ble_eq_true rfl) hd) (hS.le (Nat.le_of_ble_eq_true rfl)) hR 225 48 (mz_at hS (Nat.le_of_ble_eq_true rfl) mzcS_225) 4 4 v4.toInt64 (mz_wI N 225 s1 (mz_b01 s2)) h2 hq) (g_aload_n rfl (g_getR (mz_at hS (Nat.le_of_ble_eq_true rfl) mzcS_219) mzcf_8_3 (mz_rbs hR (Nat.le_of_ble_eq_true rfl) (Nat.le_of_ble_eq_true rfl) rfl mzcR_219_3) (g_bipush mzb_8 (g_iconst mzi_4 (g_iload rfl (g_i2l ?_))))))
  obtain ⟨h3, hp⟩ := hp
  refine g_s4n (Nat.le_of_ble_eq_true rfl) (fun _ hq => cs_14 (Nat.le_trans (Nat.le_of_ble_eq_true rfl) hd) (hS.le (Nat.le_of_ble_eq_true rfl)) hR 225 48 (mz_at hS (Nat.le_of_ble_eq_true rfl) mzcS_225) 8 4 v5.toInt64 (cf_14_0 225 48 4 4 v4.toInt64 (mz_wI N 225 s1 (mz_b01 s2))) h3 hq) ?_
  refine g_weak ?_ (g_cl (cg_12_62 hd hS hR (cf_14_0 225 48 8 4 v5.toInt64 (cf_14_0 225 48 4 4 v4.toInt64 (mz_wI N 225 s1 (mz_b01 s2)))) hr hp hC))
  exact trivial
theorem cg_12_0 (hd : 1 ≤ d) (hS : mz_extR S 228) (hR : mz_rs R)  (v1 : Int32) (v2 : Int32) (v3 : Bool) (v4 : Int32) (v5 : Int32) (N : mz_N) {C0 : (mz_N) → Prop} (hr : ∀ (N2 : mz_N), C0 N2 → Q (.inl none) (mz_k S R N2 b t)) (hp : cp_12_0 v1 v2 v3 v4 v5 N) (hC : C0 (cf_12_0 v1 v2 v3 v4 v5 N)) : mz_G (d, mz_X0 L xs, none, [], mk_12, 6, Q) 0 mk_12 [(0, .ref 219), (1, .int v1), (2, .int v2), (3, .int (mz_b01 v3)), (4, .int v4), (5, .int v5)] [] true (mz_k S R N b t) := by
  unfold cf_12_0 at hC
  unfold cp_12_0 at hp
  refine g_aload_n rfl (g_getR (mz_at hS (Nat.le_of_ble_eq_true rfl) mzcS_219) mzcf_8_3 (mz_rbs hR (Nat.le_of_ble_eq_true rfl) (Nat.le_of_ble_eq_true rfl) rfl mzcR_219_3) (g_iconst mzi_0 ?_))
  obtain ⟨h1, hp⟩ := hp
  refine g_s2n (Nat.le_of_ble_eq_true rfl) (fun _ hq => cs_13 (Nat.le_trans (Nat.le_of_ble_eq_true rfl) hd) (hS.le (Nat.le_of_ble_eq_true rfl)) (mz_rok0 _) 225 48 (mz_at hS (Nat.le_of_ble_eq_true rfl) mzcS_225) 0 N h1 hq) (g_aload_n rfl (g_getR (mz_at hS (Nat.le_of_ble_eq_true rfl) mzcS_219) mzcf_8_3 (mz_rbs hR (Nat.le_of_ble_eq_true rfl) (Nat.le_of_ble_eq_true rfl) rfl mzcR_219_3) (g_iconst mzi_0 (g_iload_n rfl (g_iast (mz_at hS (Nat.le_of_ble_eq_true rfl) mzcS_225) (mz_ibd (by decide)) (g_aload_n rfl (g_getR (mz_at hS (Nat.le_of_ble_eq_true rfl) mzcS_219) mzcf_8_3 (mz_rbs hR (Nat.le_of_ble_eq_true rfl) (Nat.le_of_ble_eq_true rfl) rfl mzcR_219_3) ?_)))))))
  refine g_iconst mzi_1 (g_iload_n rfl (g_iast (mz_at hS (Nat.le_of_ble_eq_true rfl) mzcS_225) (mz_ibd (by decide)) (g_aload_n rfl (g_getR (mz_at hS (Nat.le_of_ble_eq_true rfl) mzcS_219) mzcf_8_3 (mz_rbs hR (Nat.le_of_ble_eq_true rfl) (Nat.le_of_ble_eq_true rfl) rfl mzcR_219_3) (g_iconst mzi_2 (g_iload_n rfl ?_))))))
  refine g_zeq (tg := 35) rfl ms_12_35 hC (fun h2 hC => ?_) (fun h2 hC => ?_)
  · have hp := hp.1 h2
    refine g_iconst mzi_1 (g_goto (tg := 36) rfl ms_12_36 ?_)
    refine g_weak ?_ (g_cl (cg_12_36 hd hS hR 2 true v4 v5 (mz_wI (mz_wI (cf_13_0 225 48 0 N) 225 0 v1) 225 1 v2) hr hp hC))
    exact ⟨rfl, rfl, rfl, trivial⟩
  · have hp := hp.2 h2
    refine g_iconst mzi_0 ?_
    refine g_weak ?_ (g_cl (cg_12_36 hd hS hR 2 false v4 v5 (mz_wI (mz_wI (cf_13_0 225 48 0 N) 225 0 v1) 225 1 v2) hr hp hC))
    exact ⟨rfl, rfl, rfl, trivial⟩
theorem cs_12 (hd : 2 ≤ d) (hS : mz_extR S 228) (hR : mz_rs R)  (v1 : Int32) (v2 : Int32) (v3 : Bool) (v4 : Int32) (v5 : Int32) (N : mz_N) (hp : cp_12_0 v1 v2 v3 v4 v5 N) (hq : Q (.inl none) (mz_k S R (cf_12_0 v1 v2 v3 v4 v5 N) b t)) : mz_Ed (mz_X0 L xs) d 12 [.ref 219, .int v1, .int v2, .int (mz_b01 v3), .int v4, .int v5] (mz_k S R N b t) Q :=
  by
  refine g_in mzq_12 (Nat.le_of_ble_eq_true rfl) (Nat.le_of_ble_eq_true rfl) (Nat.le_trans (Nat.le_of_ble_eq_true rfl) hd) ?_
  refine g_weak ?_ (cg_12_0 (d := d - 1) (by omega) hS hR v1 v2 v3 v4 v5 N (C0 := fun z => Q (.inl none) (mz_k S R z b t)) (fun _ h => h) hp hq)
  exact ⟨rfl, rfl, rfl, rfl, rfl, rfl, trivial⟩
/-! 16 KeptHouse$Store.checkSum ([III)I -/
theorem ms_16_0 : mz_sf mk_16 0 = mk_16 := mz_sf_zero _
theorem ms_16_5 : mz_sf mk_16 5 = mt_16_5 := mz_sf_add ms_16_0 (t := 5) rfl rfl
theorem ms_16_33 : mz_sf mk_16 33 = mt_16_33 := mz_sf_add ms_16_5 (t := 28) rfl rfl
theorem ms_16_52 : mz_sf mk_16 52 = mt_16_52 := mz_sf_add ms_16_33 (t := 19) rfl rfl
set_option maxRecDepth 100000 in
theorem mzq_16 : mz_PG0 16 = some (8, ⟨"KeptHouse$Store", "checkSum", "([III)I"⟩, prog_10_method_6_code, 5, some .int, [], mk_16, []) := rfl
theorem cb_16_5 (hd : 0 ≤ d) (hS : mz_extR S 228) (hR : mz_rs R) (a0 : Nat) (n0 : Nat) (hs0 : S[a0]? = some (0, n0, [])) (v1 : Int32) (v2 : Int32) (N : mz_N) (s : Int32 × Int32) {C0 : (Int32) → Prop} (hr : ∀ (w : Int32), C0 w → Q (.inl (some (.int w))) (mz_k S R N b t)) {C1 : ((Int32 × Int32) ⊕ (Int32)) → Prop} (hc1 : ∀ s2, C1 (.inl s2) → mz_G (d, mz_X0 L xs, some .int, [], mk_16, 5, Q) 5 mt_16_5 [(0, .ref a0), (1, .int v1), (2, .int v2), (3, .int s2.1), (4, .int s2.2)] [] false (mz_k S R N b t)) (hx1 : ∀ z, C1 (.inr z) → C0 z) (hp : cd_16_5 a0 n0 v1 v2 N s) (hC : C1 (cq_16_5 a0 n0 v1 v2 N s)) : mz_G (d, mz_X0 L xs, some .int, [], mk_16, 5, Q) 5 mt_16_5 [(0, .ref a0), (1, .int v1), (2, .int v2), (3, .int s.1), (4, .int s.2)] [] false (mz_k S R N b t) := by
  unfold cq_16_5 at hC
  unfold cd_16_5 at hp
  refine g_iload rfl (g_iload_n rfl ?_)
  refine g_icge (tg := 52) rfl ms_16_52 hC (fun h1 hC => ?_) (fun h1 hC => ?_)
  · have hp := hp.1 h1
    refine g_iload_n rfl (g_aload_n rfl (g_iload_n rfl (g_iload rfl (g_iadd ?_))))
    obtain ⟨h2, hp⟩ := hp
    refine g_iald hS.1 hs0 h2 (g_ixor (g_istore_n (Nat.le_of_ble_eq_true rfl) rfl (g_iload_n rfl (g_iconst mzi_4 (g_iushr (g_gst (g_iload_n rfl ?_)))))))
    refine g_bipush mzb_15 (g_iand ?_)
    obtain ⟨h3, hp⟩ := hp
    refine g_iald1001 h3 (g_ixor (g_istore_n (Nat.le_of_ble_eq_true rfl) rfl (g_iload_n rfl (g_iconst mzi_4 (g_iushr (g_gst (g_iload_n rfl ?_)))))))
    refine g_bipush mzb_15 (g_iand ?_)
    have h4 := hp
    refine g_iald1001 h4 (g_ixor (g_istore_n (Nat.le_of_ble_eq_true rfl) rfl (g_iinc rfl mzi_1 (Nat.le_of_ble_eq_true rfl) rfl (g_goto (tg := 5) rfl ms_16_5 ?_))))
    refine g_weak ?_ (g_cl (hc1 (((mz_iushr ((mz_iushr (s.1 ^^^ (mz_gI N a0 (v1 + s.2))) 4) ^^^ (mz_xs ((s.1 ^^^ (mz_gI N a0 (v1 + s.2))) &&& 15))) 4) ^^^ (mz_xs (((mz_iushr (s.1 ^^^ (mz_gI N a0 (v1 + s.2))) 4) ^^^ (mz_xs ((s.1 ^^^ (mz_gI N a0 (v1 + s.2))) &&& 15))) &&& 15))), (s.2 + 1)) hC))
    exact ⟨rfl, rfl, rfl, rfl, rfl, trivial⟩
  · have hp := hp.2 h1
    refine g_iload_n rfl (g_iconst mzi_m1 (g_ixor ?_))
    exact g_iret rfl (hr _ (hx1 _ hC))
theorem cg_16_5 (hd : 0 ≤ d) (hS : mz_extR S 228) (hR : mz_rs R) (a0 : Nat) (n0 : Nat) (hs0 : S[a0]? = some (0, n0, [])) (v1 : Int32) (v2 : Int32) (v3 : Int32) (v4 : Int32) (N : mz_N) {C0 : (Int32) → Prop} (hr : ∀ (w : Int32), C0 w → Q (.inl (some (.int w))) (mz_k S R N b t)) (hp : cp_16_5 a0 n0 v1 v2 v3 v4 N) (hC : C0 (cf_16_5 a0 n0 v1 v2 v3 v4 N)) : mz_G (d, mz_X0 L xs, some .int, [], mk_16, 5, Q) 5 mt_16_5 [(0, .ref a0), (1, .int v1), (2, .int v2), (3, .int v3), (4, .int v4)] [] false (mz_k S R N b t) := by
  obtain ⟨n, hn⟩ := hp
  exact g_loop (G := fun s => mz_G (d, mz_X0 L xs, some .int, [], mk_16, 5, Q) 5 mt_16_5 [(0, .ref a0), (1, .int v1), (2, .int v2), (3, .int s.1), (4, .int s.2)] [] false (mz_k S R N b t)) (C := C0) (fun C2 hc hx s hP hC => cb_16_5 hd hS hR a0 n0 hs0 v1 v2 N s hr hc hx hP hC) n (v3, v4) hn hC
theorem cg_16_0 (hd : 0 ≤ d) (hS : mz_extR S 228) (hR : mz_rs R) (a0 : Nat) (n0 : Nat) (hs0 : S[a0]? = some (0, n0, [])) (v1 : Int32) (v2 : Int32) (N : mz_N) {C0 : (Int32) → Prop} (hr : ∀ (w : Int32), C0 w → Q (.inl (some (.int w))) (mz_k S R N b t)) (hp : cp_16_0 a0 n0 v1 v2 N) (hC : C0 (cf_16_0 a0 n0 v1 v2 N)) : mz_G (d, mz_X0 L xs, some .int, [], mk_16, 5, Q) 0 mk_16 [(0, .ref a0), (1, .int v1), (2, .int v2)] [] true (mz_k S R N b t) := by
  unfold cf_16_0 at hC
  unfold cp_16_0 at hp
  refine g_iconst mzi_m1 (g_istore_n (Nat.le_of_ble_eq_true rfl) rfl (g_iconst mzi_0 (g_istore (Nat.le_of_ble_eq_true rfl) rfl ?_)))
  refine g_weak ?_ (g_cl (cg_16_5 hd hS hR a0 n0 hs0 v1 v2 (-1) 0 N hr hp hC))
  exact ⟨rfl, rfl, rfl, rfl, rfl, trivial⟩
theorem cs_16 (hd : 1 ≤ d) (hS : mz_extR S 228) (hR : mz_rs R) (a0 : Nat) (n0 : Nat) (hs0 : S[a0]? = some (0, n0, [])) (v1 : Int32) (v2 : Int32) (N : mz_N) (hp : cp_16_0 a0 n0 v1 v2 N) (hq : Q (.inl (some (.int (cf_16_0 a0 n0 v1 v2 N)))) (mz_k S R N b t)) : mz_Ed (mz_X0 L xs) d 16 [.ref a0, .int v1, .int v2] (mz_k S R N b t) Q :=
  by
  refine g_in mzq_16 (Nat.le_of_ble_eq_true rfl) (Nat.le_of_ble_eq_true rfl) (Nat.le_trans (Nat.le_of_ble_eq_true rfl) hd) ?_
  refine g_weak ?_ (cg_16_0 (d := d - 1) (by omega) hS hR a0 n0 hs0 v1 v2 N (C0 := fun z => Q (.inl (some (.int z))) (mz_k S R N b t)) (fun _ h => h) hp hq)
  exact ⟨rfl, rfl, rfl, trivial⟩
/-! 15 KeptHouse$Store.writeLine (II)Z -/
theorem ms_15_0 : mz_sf mk_15 0 = mk_15 := mz_sf_zero _
theorem ms_15_34 : mz_sf mk_15 34 = mt_15_34 := mz_sf_add ms_15_0 (t := 34) rfl rfl
theorem ms_15_41 : mz_sf mk_15 41 = mt_15_41 := mz_sf_add ms_15_34 (t := 7) rfl rfl
theorem ms_15_58 : mz_sf mk_15 58 = mt_15_58 := mz_sf_add ms_15_41 (t := 17) rfl rfl
theorem ms_15_99 : mz_sf mk_15 99 = mt_15_99 := mz_sf_add ms_15_58 (t := 41) rfl rfl
set_option maxRecDepth 100000 in
theorem mzq_15 : mz_PG0 15 = some (8, ⟨"KeptHouse$Store", "writeLine", "(II)Z"⟩, prog_10_method_12_code, 3, some .boolean, [], mk_15, []) := rfl
theorem cg_15_99 (hd : 1 ≤ d) (hS : mz_extR S 228) (hR : mz_rs R)  (N : mz_N) {C0 : (Bool × mz_N) → Prop} (hr : ∀ (w : Bool) (N2 : mz_N), C0 (w, N2) → Q (.inl (some (.int (mz_b01 w)))) (mz_k S R N2 b t)) (hp : cp_15_99 N) (hC : C0 (cf_15_99 N)) : mz_G (d, mz_X0 L xs, some .boolean, [], mk_15, 3, Q) 99 mt_15_99 [] [] false (mz_k S R N b t) := by
  unfold cf_15_99 at hC
  unfold cp_15_99 at hp
  refine g_iconst mzi_1 ?_
  exact g_zret (z := true) rfl (hr _ _ hC)
theorem cg_15_58 (hd : 1 ≤ d) (hS : mz_extR S 228) (hR : mz_rs R)  (v1 : Int32) (v2 : Int32) (N : mz_N) {C0 : (Bool × mz_N) → Prop} (hr : ∀ (w : Bool) (N2 : mz_N), C0 (w, N2) → Q (.inl (some (.int (mz_b01 w)))) (mz_k S R N2 b t)) (hp : cp_15_58 v1 v2 N) (hC : C0 (cf_15_58 v1 v2 N)) : mz_G (d, mz_X0 L xs, some .boolean, [], mk_15, 3, Q) 58 mt_15_58 [(0, .ref 219), (1, .int v1), (2, .int v2)] [] false (mz_k S R N b t) := by
  unfold cf_15_58 at hC
  unfold cp_15_58 at hp
  refine g_aload_n rfl (g_getR (mz_at hS (Nat.le_of_ble_eq_true rfl) mzcS_219) mzcf_8_3 (mz_rbs hR (Nat.le_of_ble_eq_true rfl) (Nat.le_of_ble_eq_true rfl) rfl mzcR_219_3) (g_bipush mzb_44 (g_iconst mzi_4 (g_aload_n rfl (g_getR (mz_at hS (Nat.le_of_ble_eq_true rfl) mzcS_219) mzcf_8_3 (mz_rbs hR (Nat.le_of_ble_eq_true rfl) (Nat.le_of_ble_eq_true rfl) rfl mzcR_219_3) (g_iconst mzi_0 (g_bipush mzb_44 ?_)))))))
  obtain ⟨h1, hp⟩ := hp
  refine g_s3v (Nat.le_of_ble_eq_true rfl) (fun _ hq => cs_16 (Nat.le_trans (Nat.le_of_ble_eq_true rfl) hd) (hS.le (Nat.le_of_ble_eq_true rfl)) hR 225 48 (mz_at hS (Nat.le_of_ble_eq_true rfl) mzcS_225) 0 44 N h1 hq) (g_i2l ?_)
  obtain ⟨h2, hp⟩ := hp
  refine g_s4n (Nat.le_of_ble_eq_true rfl) (fun _ hq => cs_14 (Nat.le_trans (Nat.le_of_ble_eq_true rfl) hd) (hS.le (Nat.le_of_ble_eq_true rfl)) hR 225 48 (mz_at hS (Nat.le_of_ble_eq_true rfl) mzcS_225) 44 4 ((cf_16_0 225 48 0 44 N).toInt64) N h2 hq) (g_aload_n rfl (g_getR (mz_at hS (Nat.le_of_ble_eq_true rfl) mzcS_219) mzcf_8_3 (mz_rbs hR (Nat.le_of_ble_eq_true rfl) (Nat.le_of_ble_eq_true rfl) rfl mzcR_219_3) (g_iconst mzi_0 (g_aload_n rfl (g_getR (mz_at hS (Nat.le_of_ble_eq_true rfl) mzcS_219) mzcf_8_0 (mz_rbs hR (Nat.le_of_ble_eq_true rfl) (Nat.le_of_ble_eq_true rfl) rfl mzcR_219_0) (g_iload_n rfl ?_))))))
  obtain ⟨h3, hp⟩ := hp
  refine g_aald4 (mz_at hS (Nat.le_of_ble_eq_true rfl) mzcS_220) h3 (mz_rbs hR (Nat.le_of_ble_eq_true rfl) (Nat.le_of_ble_eq_true rfl) rfl (mzcR2_220 h3)) (g_iload_n rfl (g_bipush mzb_48 (g_imul (g_bipush mzb_48 ?_))))
  obtain ⟨h4, hp⟩ := hp
  refine g_cpI (Nat.le_of_ble_eq_true rfl) (mz_at hS (Nat.le_of_ble_eq_true rfl) mzcS_225) (mz_at hS (mzcL2_220 h3 (Nat.le_of_ble_eq_true rfl)) (mzcS2_220 h3)) h4 ?_
  refine g_weak ?_ (g_cl (cg_15_99 hd hS hR (mz_yI (cf_14_0 225 48 44 4 ((cf_16_0 225 48 0 44 N).toInt64) N) 225 0 (221 + v1.toNatClampNeg) (v2 * 48) 48) hr hp hC))
  exact trivial
theorem cg_15_0 (hd : 1 ≤ d) (hS : mz_extR S 228) (hR : mz_rs R)  (v1 : Int32) (v2 : Int32) (N : mz_N) {C0 : (Bool × mz_N) → Prop} (hr : ∀ (w : Bool) (N2 : mz_N), C0 (w, N2) → Q (.inl (some (.int (mz_b01 w)))) (mz_k S R N2 b t)) (hp : cp_15_0 v1 v2 N) (hC : C0 (cf_15_0 v1 v2 N)) : mz_G (d, mz_X0 L xs, some .boolean, [], mk_15, 3, Q) 0 mk_15 [(0, .ref 219), (1, .int v1), (2, .int v2)] [] true (mz_k S R N b t) := by
  unfold cf_15_0 at hC
  unfold cp_15_0 at hp
  refine g_aload_n rfl (g_getI (mz_at hS (Nat.le_of_ble_eq_true rfl) mzcS_219) mzcf_8_8 ?_)
  refine g_ifne (tg := 41) rfl ms_15_41 hC (fun h1 hC => ?_) (fun h1 hC => ?_)
  · have hp := hp.1 h1
    refine g_aload_n rfl (g_getR (mz_at hS (Nat.le_of_ble_eq_true rfl) mzcS_219) mzcf_8_3 (mz_rbs hR (Nat.le_of_ble_eq_true rfl) (Nat.le_of_ble_eq_true rfl) rfl mzcR_219_3) (g_iconst mzi_3 (g_iconst mzi_1 (g_iast (mz_at hS (Nat.le_of_ble_eq_true rfl) mzcS_225) (mz_ibd (by decide)) (g_aload_n rfl (g_getR (mz_at hS (Nat.le_of_ble_eq_true rfl) mzcS_219) mzcf_8_3 (mz_rbs hR (Nat.le_of_ble_eq_true rfl) (Nat.le_of_ble_eq_true rfl) rfl mzcR_219_3) (g_iconst mzi_0 ?_)))))))
    refine g_aload_n rfl (g_getR (mz_at hS (Nat.le_of_ble_eq_true rfl) mzcS_219) mzcf_8_0 (mz_rbs hR (Nat.le_of_ble_eq_true rfl) (Nat.le_of_ble_eq_true rfl) rfl mzcR_219_0) (g_iload_n rfl ?_))
    obtain ⟨h2, hp⟩ := hp
    refine g_aald4 (mz_at hS (Nat.le_of_ble_eq_true rfl) mzcS_220) h2 (mz_rbs hR (Nat.le_of_ble_eq_true rfl) (Nat.le_of_ble_eq_true rfl) rfl (mzcR2_220 h2)) (g_iload_n rfl (g_bipush mzb_48 (g_imul (g_bipush mzb_24 ?_))))
    have h3 := hp
    refine g_cpI (Nat.le_of_ble_eq_true rfl) (mz_at hS (Nat.le_of_ble_eq_true rfl) mzcS_225) (mz_at hS (mzcL2_220 h2 (Nat.le_of_ble_eq_true rfl)) (mzcS2_220 h2)) h3 (g_aload_n rfl (g_iconst mzi_1 (g_putZ (z := true) (mz_at hS (Nat.le_of_ble_eq_true rfl) mzcS_219) mzcf_8_7 (g_iconst mzi_0 ?_))))
    exact g_zret (z := false) rfl (hr _ _ hC)
  · have hp := hp.2 h1
    refine g_aload_n rfl (g_getI (mz_at hS (Nat.le_of_ble_eq_true rfl) mzcS_219) mzcf_8_8 ?_)
    refine g_ifle (tg := 58) rfl ms_15_58 hC (fun h4 hC => ?_) (fun h4 hC => ?_)
    · have hp := hp.1 h4
      refine g_aload_n rfl (g_dup rfl (g_getI (mz_at hS (Nat.le_of_ble_eq_true rfl) mzcS_219) mzcf_8_8 (g_iconst mzi_1 (g_isub (g_putI (mz_at hS (Nat.le_of_ble_eq_true rfl) mzcS_219) mzcf_8_8 ?_)))))
      refine g_weak ?_ (g_cl (cg_15_58 hd hS hR v1 v2 (mz_pI N 219 8 ((N.1 219 8) - 1)) hr hp hC))
      exact ⟨rfl, rfl, rfl, trivial⟩
    · have hp := hp.2 h4
      refine g_weak ?_ (g_cl (cg_15_58 hd hS hR v1 v2 N hr hp hC))
      exact ⟨rfl, rfl, rfl, trivial⟩
theorem cs_15 (hd : 2 ≤ d) (hS : mz_extR S 228) (hR : mz_rs R)  (v1 : Int32) (v2 : Int32) (N : mz_N) (hp : cp_15_0 v1 v2 N) (hq : Q (.inl (some (.int (mz_b01 ((cf_15_0 v1 v2 N).1))))) (mz_k S R ((cf_15_0 v1 v2 N).2) b t)) : mz_Ed (mz_X0 L xs) d 15 [.ref 219, .int v1, .int v2] (mz_k S R N b t) Q :=
  by
  refine g_in mzq_15 (Nat.le_of_ble_eq_true rfl) (Nat.le_of_ble_eq_true rfl) (Nat.le_trans (Nat.le_of_ble_eq_true rfl) hd) ?_
  refine g_weak ?_ (cg_15_0 (d := d - 1) (by omega) hS hR v1 v2 N (C0 := fun z => Q (.inl (some (.int (mz_b01 z.1)))) (mz_k S R z.2 b t)) (fun _ _ h => h) hp hq)
  exact ⟨rfl, rfl, rfl, trivial⟩
/-! 21 KeptHouse$Plan.sideOf (I)I -/
theorem ms_21_0 : mz_sf mk_21 0 = mk_21 := mz_sf_zero _
theorem ms_21_17 : mz_sf mk_21 17 = mt_21_17 := mz_sf_add ms_21_0 (t := 17) rfl rfl
theorem ms_21_30 : mz_sf mk_21 30 = mt_21_30 := mz_sf_add ms_21_17 (t := 13) rfl rfl
theorem ms_21_31 : mz_sf mk_21 31 = mt_21_31 := mz_sf_add ms_21_30 (t := 1) rfl rfl
theorem ms_21_32 : mz_sf mk_21 32 = mt_21_32 := mz_sf_add ms_21_31 (t := 1) rfl rfl
theorem ms_21_48 : mz_sf mk_21 48 = mt_21_48 := mz_sf_add ms_21_32 (t := 16) rfl rfl
theorem ms_21_58 : mz_sf mk_21 58 = mt_21_58 := mz_sf_add ms_21_48 (t := 10) rfl rfl
theorem ms_21_59 : mz_sf mk_21 59 = mt_21_59 := mz_sf_add ms_21_58 (t := 1) rfl rfl
set_option maxRecDepth 100000 in
theorem mzq_21 : mz_PG0 21 = some (5, ⟨"KeptHouse$Plan", "sideOf", "(I)I"⟩, prog_7_method_3_code, 2, some .int, [], mk_21, []) := rfl
theorem cg_21_0 (hd : 0 ≤ d) (hS : mz_extR S 232) (hR : mz_rok R 232)  (v0 : Int32) {C0 : (Int32) → Prop} (hr : ∀ (w : Int32), C0 w → Q (.inl (some (.int w))) (mz_k S R N b t)) (hp : cp_21_0 v0) (hC : C0 (cf_21_0 v0)) : mz_G (d, mz_X0 L xs, some .int, [], mk_21, 2, Q) 0 mk_21 [(0, .int v0)] [] true (mz_k S R N b t) := by
  unfold cf_21_0 at hC
  unfold cp_21_0 at hp
  refine g_iload_n rfl (g_bipush mzb_54 ?_)
  refine g_icge (tg := 32) rfl ms_21_32 hC (fun h1 hC => ?_) (fun h1 hC => ?_)
  · refine g_iload_n rfl (g_bipush mzb_9 (g_irem (by decide) ?_))
    refine g_ifne (tg := 17) rfl ms_21_17 hC (fun h2 hC => ?_) (fun h2 hC => ?_)
    · refine g_iconst mzi_0 (g_goto (tg := 31) rfl ms_21_31 ?_)
      exact g_iret rfl (hr _ hC)
    · refine g_iload_n rfl (g_bipush mzb_9 (g_irem (by decide) (g_bipush mzb_8 ?_)))
      refine g_icne (tg := 30) rfl ms_21_30 hC (fun h3 hC => ?_) (fun h3 hC => ?_)
      · refine g_iconst mzi_1 (g_goto (tg := 31) rfl ms_21_31 ?_)
        exact g_iret rfl (hr _ hC)
      · refine g_iconst mzi_m1 ?_
        exact g_iret rfl (hr _ hC)
  · refine g_iload_n rfl (g_bipush mzb_54 (g_isub (g_bipush mzb_8 (g_idiv (by decide) (g_istore_n (Nat.le_of_ble_eq_true rfl) rfl (g_iload_n rfl ?_))))))
    refine g_ifne (tg := 48) rfl ms_21_48 hC (fun h4 hC => ?_) (fun h4 hC => ?_)
    · refine g_iconst mzi_2 (g_goto (tg := 59) rfl ms_21_59 ?_)
      exact g_iret rfl (hr _ hC)
    · refine g_iload_n rfl (g_bipush mzb_6 ?_)
      refine g_icne (tg := 58) rfl ms_21_58 hC (fun h5 hC => ?_) (fun h5 hC => ?_)
      · refine g_iconst mzi_3 (g_goto (tg := 59) rfl ms_21_59 ?_)
        exact g_iret rfl (hr _ hC)
      · refine g_iconst mzi_m1 ?_
        exact g_iret rfl (hr _ hC)
theorem cs_21 (hd : 1 ≤ d) (hS : mz_extR S 232) (hR : mz_rok R 232)  (v0 : Int32) (hp : cp_21_0 v0) (hq : Q (.inl (some (.int (cf_21_0 v0)))) (mz_k S R N b t)) : mz_Ed (mz_X0 L xs) d 21 [.int v0] (mz_k S R N b t) Q :=
  by
  refine g_in mzq_21 (Nat.le_of_ble_eq_true rfl) (Nat.le_of_ble_eq_true rfl) (Nat.le_trans (Nat.le_of_ble_eq_true rfl) hd) ?_
  refine g_weak ?_ (cg_21_0 (d := d - 1) (by omega) hS hR v0 (C0 := fun z => Q (.inl (some (.int z))) (mz_k S R N b t)) (fun _ h => h) hp hq)
  exact ⟨rfl, trivial⟩
/-! 20 KeptHouse$Plan.firstKind (I)I -/
theorem ms_20_0 : mz_sf mk_20 0 = mk_20 := mz_sf_zero _
theorem ms_20_12 : mz_sf mk_20 12 = mt_20_12 := mz_sf_add ms_20_0 (t := 12) rfl rfl
theorem ms_20_13 : mz_sf mk_20 13 = mt_20_13 := mz_sf_add ms_20_12 (t := 1) rfl rfl
set_option maxRecDepth 100000 in
theorem mzq_20 : mz_PG0 20 = some (5, ⟨"KeptHouse$Plan", "firstKind", "(I)I"⟩, prog_7_method_8_code, 1, some .int, [], mk_20, []) := rfl
theorem cg_20_0 (hd : 1 ≤ d) (hS : mz_extR S 232) (hR : mz_rok R 232)  (v0 : Int32) {C0 : (Int32) → Prop} (hr : ∀ (w : Int32), C0 w → Q (.inl (some (.int w))) (mz_k S R N b t)) (hp : cp_20_0 v0) (hC : C0 (cf_20_0 v0)) : mz_G (d, mz_X0 L xs, some .int, [], mk_20, 1, Q) 0 mk_20 [(0, .int v0)] [] true (mz_k S R N b t) := by
  unfold cf_20_0 at hC
  unfold cp_20_0 at hp
  refine g_iload_n rfl ?_
  refine g_s1v (Nat.le_of_ble_eq_true rfl) (fun _ hq => cs_21 (Nat.le_trans (Nat.le_of_ble_eq_true rfl) hd) (hS.le (Nat.le_of_ble_eq_true rfl)) (hR.le (Nat.le_of_ble_eq_true rfl))  v0 trivial hq) (g_iconst mzi_m1 ?_)
  refine g_icne (tg := 12) rfl ms_20_12 hC (fun h2 hC => ?_) (fun h2 hC => ?_)
  · refine g_iconst mzi_0 (g_goto (tg := 13) rfl ms_20_13 ?_)
    exact g_iret rfl (hr _ hC)
  · refine g_iconst mzi_2 ?_
    exact g_iret rfl (hr _ hC)
theorem cs_20 (hd : 2 ≤ d) (hS : mz_extR S 232) (hR : mz_rok R 232)  (v0 : Int32) (hp : cp_20_0 v0) (hq : Q (.inl (some (.int (cf_20_0 v0)))) (mz_k S R N b t)) : mz_Ed (mz_X0 L xs) d 20 [.int v0] (mz_k S R N b t) Q :=
  by
  refine g_in mzq_20 (Nat.le_of_ble_eq_true rfl) (Nat.le_of_ble_eq_true rfl) (Nat.le_trans (Nat.le_of_ble_eq_true rfl) hd) ?_
  refine g_weak ?_ (cg_20_0 (d := d - 1) (by omega) hS hR v0 (C0 := fun z => Q (.inl (some (.int z))) (mz_k S R N b t)) (fun _ h => h) hp hq)
  exact ⟨rfl, trivial⟩
/-! 19 KeptHouse$Plan.layFirst ([I)V -/
theorem ms_19_0 : mz_sf mk_19 0 = mk_19 := mz_sf_zero _
theorem ms_19_2 : mz_sf mk_19 2 = mt_19_2 := mz_sf_add ms_19_0 (t := 2) rfl rfl
theorem ms_19_25 : mz_sf mk_19 25 = mt_19_25 := mz_sf_add ms_19_2 (t := 23) rfl rfl
theorem ms_19_31 : mz_sf mk_19 31 = mt_19_31 := mz_sf_add ms_19_25 (t := 6) rfl rfl
set_option maxRecDepth 100000 in
theorem mzq_19 : mz_PG0 19 = some (5, ⟨"KeptHouse$Plan", "layFirst", "([I)V"⟩, prog_7_method_11_code, 2, none, [], mk_19, []) := rfl
theorem cb_19_2 (hd : 2 ≤ d) (hS : mz_extR S 232) (hR : mz_rok R 232) (a0 : Nat) (hs0 : S[a0]? = some (0, 550, []))  (s : Int32 × mz_N) {C0 : (mz_N) → Prop} (hr : ∀ (N2 : mz_N), C0 N2 → Q (.inl none) (mz_k S R N2 b t)) {C1 : ((Int32 × mz_N) ⊕ (mz_N)) → Prop} (hc1 : ∀ s2, C1 (.inl s2) → mz_G (d, mz_X0 L xs, none, [], mk_19, 2, Q) 2 mt_19_2 [(0, .ref a0), (1, .int s2.1)] [] false (mz_k S R s2.2 b t)) (hx1 : ∀ z, C1 (.inr z) → C0 z) (hp : cd_19_2 a0 s) (hC : C1 (cq_19_2 a0 s)) : mz_G (d, mz_X0 L xs, none, [], mk_19, 2, Q) 2 mt_19_2 [(0, .ref a0), (1, .int s.1)] [] false (mz_k S R s.2 b t) := by
  unfold cq_19_2 at hC
  unfold cd_19_2 at hp
  refine g_iload_n rfl (g_sipush mzs_550 ?_)
  refine g_icge (tg := 31) rfl ms_19_31 hC (fun h1 hC => ?_) (fun h1 hC => ?_)
  · have hp := hp.1 h1
    refine g_iload_n rfl (g_aload_n rfl (g_len0 hS.1 hs0 mzn_550 ?_))
    refine g_icge (tg := 31) rfl ms_19_31 hC (fun h2 hC => ?_) (fun h2 hC => ?_)
    · have hp := hp.1 h2
      refine g_aload_n rfl (g_iload_n rfl (g_iload_n rfl (g_bipush mzb_110 (g_irem (by decide) ?_))))
      refine g_s1v (Nat.le_of_ble_eq_true rfl) (fun _ hq => cs_20 (Nat.le_trans (Nat.le_of_ble_eq_true rfl) hd) (hS.le (Nat.le_of_ble_eq_true rfl)) (hR.le (Nat.le_of_ble_eq_true rfl))  (mz_irem s.1 110) trivial hq) ?_
      have h4 := hp
      refine g_iast hs0 h4 (g_iinc rfl mzi_1 (Nat.le_of_ble_eq_true rfl) rfl (g_goto (tg := 2) rfl ms_19_2 ?_))
      refine g_weak ?_ (g_cl (hc1 ((s.1 + 1), mz_wI s.2 a0 s.1 (cf_20_0 (mz_irem s.1 110))) hC))
      exact ⟨rfl, rfl, trivial⟩
    · have hp := hp.2 h2
      exact g_vret rfl (hr _ (hx1 _ hC))
  · have hp := hp.2 h1
    exact g_vret rfl (hr _ (hx1 _ hC))
theorem cg_19_2 (hd : 2 ≤ d) (hS : mz_extR S 232) (hR : mz_rok R 232) (a0 : Nat) (hs0 : S[a0]? = some (0, 550, [])) (v1 : Int32) (N : mz_N) {C0 : (mz_N) → Prop} (hr : ∀ (N2 : mz_N), C0 N2 → Q (.inl none) (mz_k S R N2 b t)) (hp : cp_19_2 a0 v1 N) (hC : C0 (cf_19_2 a0 v1 N)) : mz_G (d, mz_X0 L xs, none, [], mk_19, 2, Q) 2 mt_19_2 [(0, .ref a0), (1, .int v1)] [] false (mz_k S R N b t) := by
  obtain ⟨n, hn⟩ := hp
  exact g_loop (G := fun s => mz_G (d, mz_X0 L xs, none, [], mk_19, 2, Q) 2 mt_19_2 [(0, .ref a0), (1, .int s.1)] [] false (mz_k S R s.2 b t)) (C := C0) (fun C2 hc hx s hP hC => cb_19_2 hd hS hR a0 hs0 s hr hc hx hP hC) n (v1, N) hn hC
theorem cg_19_0 (hd : 2 ≤ d) (hS : mz_extR S 232) (hR : mz_rok R 232) (a0 : Nat) (hs0 : S[a0]? = some (0, 550, [])) (N : mz_N) {C0 : (mz_N) → Prop} (hr : ∀ (N2 : mz_N), C0 N2 → Q (.inl none) (mz_k S R N2 b t)) (hp : cp_19_0 a0 N) (hC : C0 (cf_19_0 a0 N)) : mz_G (d, mz_X0 L xs, none, [], mk_19, 2, Q) 0 mk_19 [(0, .ref a0)] [] true (mz_k S R N b t) := by
  unfold cf_19_0 at hC
  unfold cp_19_0 at hp
  refine g_iconst mzi_0 (g_istore_n (Nat.le_of_ble_eq_true rfl) rfl ?_)
  refine g_weak ?_ (g_cl (cg_19_2 hd hS hR a0 hs0 0 N hr hp hC))
  exact ⟨rfl, rfl, trivial⟩
theorem cs_19 (hd : 3 ≤ d) (hS : mz_extR S 232) (hR : mz_rok R 232) (a0 : Nat) (hs0 : S[a0]? = some (0, 550, [])) (N : mz_N) (hp : cp_19_0 a0 N) (hq : Q (.inl none) (mz_k S R (cf_19_0 a0 N) b t)) : mz_Ed (mz_X0 L xs) d 19 [.ref a0] (mz_k S R N b t) Q :=
  by
  refine g_in mzq_19 (Nat.le_of_ble_eq_true rfl) (Nat.le_of_ble_eq_true rfl) (Nat.le_trans (Nat.le_of_ble_eq_true rfl) hd) ?_
  refine g_weak ?_ (cg_19_0 (d := d - 1) (by omega) hS hR a0 hs0 N (C0 := fun z => Q (.inl none) (mz_k S R z b t)) (fun _ h => h) hp hq)
  exact ⟨rfl, trivial⟩
/-! 18 KeptHouse$Plan.setFirst ()V -/
theorem ms_18_0 : mz_sf mk_18 0 = mk_18 := mz_sf_zero _
theorem ms_18_29 : mz_sf mk_18 29 = mt_18_29 := mz_sf_add ms_18_0 (t := 29) rfl rfl
set_option maxRecDepth 100000 in
theorem mzq_18 : mz_PG0 18 = some (5, ⟨"KeptHouse$Plan", "setFirst", "()V"⟩, prog_7_method_10_code, 1, none, [], mk_18, []) := rfl
theorem cg_18_0 (hd : 3 ≤ d) (hS : mz_extR S 232) (hR : mz_rok R 232)  (N : mz_N) {C0 : (mz_N) → Prop} (hr : ∀ (N2 : mz_N), C0 N2 → Q (.inl none) (mz_k S R N2 b t)) (hp : cp_18_0 N) (hC : C0 (cf_18_0 N)) : mz_G (d, mz_X0 L xs, none, [], mk_18, 1, Q) 0 mk_18 [(0, .ref 2)] [] true (mz_k S R N b t) := by
  unfold cf_18_0 at hC
  unfold cp_18_0 at hp
  refine g_aload_n rfl (g_getR (mz_at hS (Nat.le_of_ble_eq_true rfl) mzcS_2) mzcf_5_0 (mz_rb hR (Nat.le_of_ble_eq_true rfl) rfl mzcR_2_0) ?_)
  obtain ⟨h1, hp⟩ := hp
  refine g_s1n (Nat.le_of_ble_eq_true rfl) (fun _ hq => cs_19 (Nat.le_trans (Nat.le_of_ble_eq_true rfl) hd) (hS.le (Nat.le_of_ble_eq_true rfl)) (hR.le (Nat.le_of_ble_eq_true rfl)) 3 (mz_at hS (Nat.le_of_ble_eq_true rfl) mzcS_3) N h1 hq) (g_aload_n rfl (g_getR (mz_at hS (Nat.le_of_ble_eq_true rfl) mzcS_2) mzcf_5_15 (mz_rb hR (Nat.le_of_ble_eq_true rfl) rfl mzcR_2_15) (g_bipush mzb_15 ?_)))
  obtain ⟨h2, hp⟩ := hp
  refine g_s2n (Nat.le_of_ble_eq_true rfl) (fun _ hq => cs_13 (Nat.le_trans (Nat.le_of_ble_eq_true rfl) hd) (hS.le (Nat.le_of_ble_eq_true rfl)) (hR.le (Nat.le_of_ble_eq_true rfl)) 37 240 (mz_at hS (Nat.le_of_ble_eq_true rfl) mzcS_37) 15 (cf_19_0 3 N) h2 hq) (g_aload_n rfl (g_getR (mz_at hS (Nat.le_of_ble_eq_true rfl) mzcS_2) mzcf_5_18 (mz_rb hR (Nat.le_of_ble_eq_true rfl) rfl mzcR_2_18) (g_iconst mzi_0 ?_)))
  have h3 := hp
  refine g_s2n (Nat.le_of_ble_eq_true rfl) (fun _ hq => cs_13 (Nat.le_trans (Nat.le_of_ble_eq_true rfl) hd) (hS.le (Nat.le_of_ble_eq_true rfl)) (hR.le (Nat.le_of_ble_eq_true rfl)) 40 240 (mz_at hS (Nat.le_of_ble_eq_true rfl) mzcS_40) 0 (cf_13_0 37 240 15 (cf_19_0 3 N)) h3 hq) (g_aload_n rfl (g_iconst mzi_0 (g_putI (mz_at hS (Nat.le_of_ble_eq_true rfl) mzcS_2) mzcf_5_3 ?_)))
  exact g_vret rfl (hr _ hC)
theorem cs_18 (hd : 4 ≤ d) (hS : mz_extR S 232) (hR : mz_rok R 232)  (N : mz_N) (hp : cp_18_0 N) (hq : Q (.inl none) (mz_k S R (cf_18_0 N) b t)) : mz_Ed (mz_X0 L xs) d 18 [.ref 2] (mz_k S R N b t) Q :=
  by
  refine g_in mzq_18 (Nat.le_of_ble_eq_true rfl) (Nat.le_of_ble_eq_true rfl) (Nat.le_trans (Nat.le_of_ble_eq_true rfl) hd) ?_
  refine g_weak ?_ (cg_18_0 (d := d - 1) (by omega) hS hR N (C0 := fun z => Q (.inl none) (mz_k S R z b t)) (fun _ h => h) hp hq)
  exact ⟨rfl, trivial⟩
/-! 25 KeptHouse$Reader.isDigit (I)Z -/
theorem ms_25_0 : mz_sf mk_25 0 = mk_25 := mz_sf_zero _
theorem ms_25_16 : mz_sf mk_25 16 = mt_25_16 := mz_sf_add ms_25_0 (t := 16) rfl rfl
theorem ms_25_17 : mz_sf mk_25 17 = mt_25_17 := mz_sf_add ms_25_16 (t := 1) rfl rfl
set_option maxRecDepth 100000 in
theorem mzq_25 : mz_PG0 25 = some (7, ⟨"KeptHouse$Reader", "isDigit", "(I)Z"⟩, prog_9_method_4_code, 1, some .boolean, [], mk_25, []) := rfl
theorem cg_25_0 (hd : 0 ≤ d) (hS : mz_extR S 232) (hR : mz_rok R 232)  (v0 : Int32) {C0 : (Bool) → Prop} (hr : ∀ (w : Bool), C0 w → Q (.inl (some (.int (mz_b01 w)))) (mz_k S R N b t)) (hp : cp_25_0 v0) (hC : C0 (cf_25_0 v0)) : mz_G (d, mz_X0 L xs, some .boolean, [], mk_25, 1, Q) 0 mk_25 [(0, .int v0)] [] true (mz_k S R N b t) := by
  unfold cf_25_0 at hC
  unfold cp_25_0 at hp
  refine g_iload_n rfl (g_bipush mzb_48 ?_)
  refine g_iclt (tg := 16) rfl ms_25_16 hC (fun h1 hC => ?_) (fun h1 hC => ?_)
  · refine g_iconst mzi_0 ?_
    exact g_zret (z := false) rfl (hr _ hC)
  · refine g_iload_n rfl (g_bipush mzb_57 ?_)
    refine g_icgt (tg := 16) rfl ms_25_16 hC (fun h2 hC => ?_) (fun h2 hC => ?_)
    · refine g_iconst mzi_0 ?_
      exact g_zret (z := false) rfl (hr _ hC)
    · refine g_iconst mzi_1 (g_goto (tg := 17) rfl ms_25_17 ?_)
      exact g_zret (z := true) rfl (hr _ hC)
theorem cs_25 (hd : 1 ≤ d) (hS : mz_extR S 232) (hR : mz_rok R 232)  (v0 : Int32) (hp : cp_25_0 v0) (hq : Q (.inl (some (.int (mz_b01 (cf_25_0 v0))))) (mz_k S R N b t)) : mz_Ed (mz_X0 L xs) d 25 [.int v0] (mz_k S R N b t) Q :=
  by
  refine g_in mzq_25 (Nat.le_of_ble_eq_true rfl) (Nat.le_of_ble_eq_true rfl) (Nat.le_trans (Nat.le_of_ble_eq_true rfl) hd) ?_
  refine g_weak ?_ (cg_25_0 (d := d - 1) (by omega) hS hR v0 (C0 := fun z => Q (.inl (some (.int (mz_b01 z)))) (mz_k S R N b t)) (fun _ h => h) hp hq)
  exact ⟨rfl, trivial⟩
/-! 27 KeptHouse$Reader.fail (I)Z -/
theorem ms_27_0 : mz_sf mk_27 0 = mk_27 := mz_sf_zero _
set_option maxRecDepth 100000 in
theorem mzq_27 : mz_PG0 27 = some (7, ⟨"KeptHouse$Reader", "fail", "(I)Z"⟩, prog_9_method_3_code, 2, some .boolean, [], mk_27, []) := rfl
theorem cg_27_0 (hd : 0 ≤ d) (hS : mz_extR S 232) (hR : mz_rok R 232) (o : Nat) (ho : o = 43 ∨ o = 48) (v1 : Int32) (N : mz_N) {C0 : (Bool × mz_N) → Prop} (hr : ∀ (w : Bool) (N2 : mz_N), C0 (w, N2) → Q (.inl (some (.int (mz_b01 w)))) (mz_k S R N2 b t)) (hp : cp_27_0 o v1 N) (hC : C0 (cf_27_0 o v1 N)) : mz_G (d, mz_X0 L xs, some .boolean, [], mk_27, 2, Q) 0 mk_27 [(0, .ref o), (1, .int v1)] [] true (mz_k S R N b t) := by
  unfold cf_27_0 at hC
  unfold cp_27_0 at hp
  refine g_aload_n rfl (g_iload_n rfl (g_putI (mz_at hS (mz_oL0 ho (Nat.le_of_ble_eq_true rfl)) (mz_oA0 ho)) mzcf_7_6 (g_aload_n rfl (g_aload_n rfl (g_getI (mz_at hS (mz_oL0 ho (Nat.le_of_ble_eq_true rfl)) (mz_oA0 ho)) mzcf_7_9 (g_putI (mz_at hS (mz_oL0 ho (Nat.le_of_ble_eq_true rfl)) (mz_oA0 ho)) mzcf_7_7 (g_iconst mzi_0 ?_)))))))
  exact g_zret (z := false) rfl (hr _ _ hC)
theorem cs_27 (hd : 1 ≤ d) (hS : mz_extR S 232) (hR : mz_rok R 232) (o : Nat) (ho : o = 43 ∨ o = 48) (v1 : Int32) (N : mz_N) (hp : cp_27_0 o v1 N) (hq : Q (.inl (some (.int (mz_b01 ((cf_27_0 o v1 N).1))))) (mz_k S R ((cf_27_0 o v1 N).2) b t)) : mz_Ed (mz_X0 L xs) d 27 [.ref o, .int v1] (mz_k S R N b t) Q :=
  by
  refine g_in mzq_27 (Nat.le_of_ble_eq_true rfl) (Nat.le_of_ble_eq_true rfl) (Nat.le_trans (Nat.le_of_ble_eq_true rfl) hd) ?_
  refine g_weak ?_ (cg_27_0 (d := d - 1) (by omega) hS hR o ho v1 N (C0 := fun z => Q (.inl (some (.int (mz_b01 z.1)))) (mz_k S R z.2 b t)) (fun _ _ h => h) hp hq)
  exact ⟨rfl, rfl, trivial⟩
/-! 26 KeptHouse$Reader.scanNumber ()Z -/
theorem ms_26_0 : mz_sf mk_26 0 = mk_26 := mz_sf_zero _
theorem ms_26_10 : mz_sf mk_26 10 = mt_26_10 := mz_sf_add ms_26_0 (t := 10) rfl rfl
theorem ms_26_36 : mz_sf mk_26 36 = mt_26_36 := mz_sf_add ms_26_10 (t := 26) rfl rfl
theorem ms_26_74 : mz_sf mk_26 74 = mt_26_74 := mz_sf_add ms_26_36 (t := 38) rfl rfl
theorem ms_26_87 : mz_sf mk_26 87 = mt_26_87 := mz_sf_add ms_26_74 (t := 13) rfl rfl
theorem ms_26_109 : mz_sf mk_26 109 = mt_26_109 := mz_sf_add ms_26_87 (t := 22) rfl rfl
theorem ms_26_113 : mz_sf mk_26 113 = mt_26_113 := mz_sf_add ms_26_109 (t := 4) rfl rfl
theorem ms_26_114 : mz_sf mk_26 114 = mt_26_114 := mz_sf_add ms_26_113 (t := 1) rfl rfl
set_option maxRecDepth 100000 in
theorem mzq_26 : mz_PG0 26 = some (7, ⟨"KeptHouse$Reader", "scanNumber", "()Z"⟩, prog_9_method_7_code, 1, some .boolean, [], mk_26, []) := rfl
theorem cg_26_74 (hd : 1 ≤ d) (hS : mz_extR S 232) (hR : mz_rok R 232) (o : Nat) (ho : o = 43 ∨ o = 48) (N : mz_N) {C0 : (Bool × mz_N) → Prop} (hr : ∀ (w : Bool) (N2 : mz_N), C0 (w, N2) → Q (.inl (some (.int (mz_b01 w)))) (mz_k S R N2 b t)) {C1 : ((mz_N) ⊕ (Bool × mz_N)) → Prop} (hc1 : ∀ s2, C1 (.inl s2) → mz_G (d, mz_X0 L xs, some .boolean, [], mk_26, 1, Q) 10 mt_26_10 [(0, .ref o)] [] false (mz_k S R s2 b t)) (hx1 : ∀ z, C1 (.inr z) → C0 z) (hp : cp_26_74 o N) (hC : C1 (cf_26_74 o N)) : mz_G (d, mz_X0 L xs, some .boolean, [], mk_26, 1, Q) 74 mt_26_74 [(0, .ref o)] [] false (mz_k S R N b t) := by
  unfold cf_26_74 at hC
  unfold cp_26_74 at hp
  refine g_aload_n rfl (g_dup rfl (g_getI (mz_at hS (mz_oL0 ho (Nat.le_of_ble_eq_true rfl)) (mz_oA0 ho)) mzcf_7_8 (g_iconst mzi_1 (g_iadd (g_putI (mz_at hS (mz_oL0 ho (Nat.le_of_ble_eq_true rfl)) (mz_oA0 ho)) mzcf_7_8 (g_goto (tg := 10) rfl ms_26_10 ?_))))))
  refine g_weak ?_ (g_cl (hc1 (mz_pI N o 8 ((N.1 o 8) + 1)) hC))
  exact ⟨rfl, trivial⟩
theorem cg_26_87 (hd : 1 ≤ d) (hS : mz_extR S 232) (hR : mz_rok R 232) (o : Nat) (ho : o = 43 ∨ o = 48) (N : mz_N) {C0 : (Bool × mz_N) → Prop} (hr : ∀ (w : Bool) (N2 : mz_N), C0 (w, N2) → Q (.inl (some (.int (mz_b01 w)))) (mz_k S R N2 b t)) (hp : cp_26_87 o N) (hC : C0 (cf_26_87 o N)) : mz_G (d, mz_X0 L xs, some .boolean, [], mk_26, 1, Q) 87 mt_26_87 [(0, .ref o)] [] false (mz_k S R N b t) := by
  unfold cf_26_87 at hC
  unfold cp_26_87 at hp
  refine g_aload_n rfl (g_getI (mz_at hS (mz_oL0 ho (Nat.le_of_ble_eq_true rfl)) (mz_oA0 ho)) mzcf_7_8 (g_aload_n rfl (g_getI (mz_at hS (mz_oL0 ho (Nat.le_of_ble_eq_true rfl)) (mz_oA0 ho)) mzcf_7_9 (g_isub (g_bipush mzb_6 ?_)))))
  refine g_icle (tg := 109) rfl ms_26_109 hC (fun h1 hC => ?_) (fun h1 hC => ?_)
  · refine g_aload_n rfl (g_iconst mzi_4 ?_)
    refine g_v2v (Nat.le_of_ble_eq_true rfl) (mz_at hS (mz_oL0 ho (Nat.le_of_ble_eq_true rfl)) (mz_oA0 ho)) (fun _ hq => cs_27 (Nat.le_trans (Nat.le_of_ble_eq_true rfl) hd) (hS.le (Nat.le_of_ble_eq_true rfl)) (hR.le (Nat.le_of_ble_eq_true rfl)) o ho 4 N trivial hq) ?_
    refine g_zeq (tg := 113) rfl ms_26_113 hC (fun h3 hC => ?_) (fun h3 hC => ?_)
    · refine g_iconst mzi_1 (g_goto (tg := 114) rfl ms_26_114 ?_)
      exact g_zret (z := true) rfl (hr _ _ hC)
    · refine g_iconst mzi_0 ?_
      exact g_zret (z := false) rfl (hr _ _ hC)
  · refine g_iconst mzi_1 (g_goto (tg := 114) rfl ms_26_114 ?_)
    exact g_zret (z := true) rfl (hr _ _ hC)
theorem cb_26_10 (hd : 1 ≤ d) (hS : mz_extR S 232) (hR : mz_rok R 232) (o : Nat) (ho : o = 43 ∨ o = 48)  (s : mz_N) {C0 : (Bool × mz_N) → Prop} (hr : ∀ (w : Bool) (N2 : mz_N), C0 (w, N2) → Q (.inl (some (.int (mz_b01 w)))) (mz_k S R N2 b t)) {C1 : ((mz_N) ⊕ (Bool × mz_N)) → Prop} (hc1 : ∀ s2, C1 (.inl s2) → mz_G (d, mz_X0 L xs, some .boolean, [], mk_26, 1, Q) 10 mt_26_10 [(0, .ref o)] [] false (mz_k S R s2 b t)) (hx1 : ∀ z, C1 (.inr z) → C0 z) (hp : cd_26_10 o s) (hC : C1 (cq_26_10 o s)) : mz_G (d, mz_X0 L xs, some .boolean, [], mk_26, 1, Q) 10 mt_26_10 [(0, .ref o)] [] false (mz_k S R s b t) := by
  unfold cq_26_10 at hC
  unfold cd_26_10 at hp
  refine g_aload_n rfl (g_getI (mz_at hS (mz_oL0 ho (Nat.le_of_ble_eq_true rfl)) (mz_oA0 ho)) mzcf_7_8 (g_aload_n rfl (g_getI (mz_at hS (mz_oL0 ho (Nat.le_of_ble_eq_true rfl)) (mz_oA0 ho)) mzcf_7_1 ?_)))
  refine g_icge (tg := 87) rfl ms_26_87 hC (fun h1 hC => ?_) (fun h1 hC => ?_)
  · have hp := hp.1 h1
    refine g_aload_n rfl (g_getR (mz_at hS (mz_oL0 ho (Nat.le_of_ble_eq_true rfl)) (mz_oA0 ho)) mzcf_7_0 (mz_rb hR (mz_oL0 ho (Nat.le_of_ble_eq_true rfl)) (mz_o41 ho) (mz_oR1 ho)) (g_aload_n rfl (g_getI (mz_at hS (mz_oL0 ho (Nat.le_of_ble_eq_true rfl)) (mz_oA0 ho)) mzcf_7_8 ?_)))
    obtain ⟨h2, hp⟩ := hp
    refine g_iald hS.1 (mz_at hS (mz_oL1 ho (Nat.le_of_ble_eq_true rfl)) (mz_oA1 ho)) h2 ?_
    refine g_s1v (Nat.le_of_ble_eq_true rfl) (fun _ hq => cs_25 (Nat.le_trans (Nat.le_of_ble_eq_true rfl) hd) (hS.le (Nat.le_of_ble_eq_true rfl)) (hR.le (Nat.le_of_ble_eq_true rfl))  (mz_gI s (o + 1) (s.1 o 8)) trivial hq) ?_
    refine g_zeq (tg := 87) rfl ms_26_87 hC (fun h4 hC => ?_) (fun h4 hC => ?_)
    · have hp := hp.1 h4
      refine g_aload_n rfl (g_getI (mz_at hS (mz_oL0 ho (Nat.le_of_ble_eq_true rfl)) (mz_oA0 ho)) mzcf_7_8 (g_aload_n rfl (g_getI (mz_at hS (mz_oL0 ho (Nat.le_of_ble_eq_true rfl)) (mz_oA0 ho)) mzcf_7_9 (g_isub (g_bipush mzb_6 ?_)))))
      refine g_icge (tg := 74) rfl ms_26_74 hC (fun h5 hC => ?_) (fun h5 hC => ?_)
      · have hp := hp.1 h5
        refine g_aload_n rfl (g_aload_n rfl (g_getI (mz_at hS (mz_oL0 ho (Nat.le_of_ble_eq_true rfl)) (mz_oA0 ho)) mzcf_7_11 (g_bipush mzb_10 (g_imul (g_aload_n rfl (g_getR (mz_at hS (mz_oL0 ho (Nat.le_of_ble_eq_true rfl)) (mz_oA0 ho)) mzcf_7_0 (mz_rb hR (mz_oL0 ho (Nat.le_of_ble_eq_true rfl)) (mz_o41 ho) (mz_oR1 ho)) (g_aload_n rfl ?_)))))))
        refine g_getI (mz_at hS (mz_oL0 ho (Nat.le_of_ble_eq_true rfl)) (mz_oA0 ho)) mzcf_7_8 ?_
        obtain ⟨h6, hp⟩ := hp
        refine g_iald hS.1 (mz_at hS (mz_oL1 ho (Nat.le_of_ble_eq_true rfl)) (mz_oA1 ho)) h6 (g_iadd (g_bipush mzb_48 (g_isub (g_putI (mz_at hS (mz_oL0 ho (Nat.le_of_ble_eq_true rfl)) (mz_oA0 ho)) mzcf_7_11 ?_))))
        refine g_weak ?_ (g_cl (cg_26_74 hd hS hR o ho (mz_pI s o 11 ((((s.1 o 11) * 10) + (mz_gI s (o + 1) (s.1 o 8))) - 48)) hr hc1 hx1 hp hC))
        exact ⟨rfl, trivial⟩
      · have hp := hp.2 h5
        refine g_weak ?_ (g_cl (cg_26_74 hd hS hR o ho s hr hc1 hx1 hp hC))
        exact ⟨rfl, trivial⟩
    · have hp := hp.2 h4
      refine g_weak ?_ (g_cl (cg_26_87 hd hS hR o ho s hr hp (hx1 _ hC)))
      exact ⟨rfl, trivial⟩
  · have hp := hp.2 h1
    refine g_weak ?_ (g_cl (cg_26_87 hd hS hR o ho s hr hp (hx1 _ hC)))
    exact ⟨rfl, trivial⟩
theorem cg_26_10 (hd : 1 ≤ d) (hS : mz_extR S 232) (hR : mz_rok R 232) (o : Nat) (ho : o = 43 ∨ o = 48) (N : mz_N) {C0 : (Bool × mz_N) → Prop} (hr : ∀ (w : Bool) (N2 : mz_N), C0 (w, N2) → Q (.inl (some (.int (mz_b01 w)))) (mz_k S R N2 b t)) (hp : cp_26_10 o N) (hC : C0 (cf_26_10 o N)) : mz_G (d, mz_X0 L xs, some .boolean, [], mk_26, 1, Q) 10 mt_26_10 [(0, .ref o)] [] false (mz_k S R N b t) := by
  obtain ⟨n, hn⟩ := hp
  exact g_loop (G := fun s => mz_G (d, mz_X0 L xs, some .boolean, [], mk_26, 1, Q) 10 mt_26_10 [(0, .ref o)] [] false (mz_k S R s b t)) (C := C0) (fun C2 hc hx s hP hC => cb_26_10 hd hS hR o ho s hr hc hx hP hC) n (N) hn hC
theorem cg_26_0 (hd : 1 ≤ d) (hS : mz_extR S 232) (hR : mz_rok R 232) (o : Nat) (ho : o = 43 ∨ o = 48) (N : mz_N) {C0 : (Bool × mz_N) → Prop} (hr : ∀ (w : Bool) (N2 : mz_N), C0 (w, N2) → Q (.inl (some (.int (mz_b01 w)))) (mz_k S R N2 b t)) (hp : cp_26_0 o N) (hC : C0 (cf_26_0 o N)) : mz_G (d, mz_X0 L xs, some .boolean, [], mk_26, 1, Q) 0 mk_26 [(0, .ref o)] [] true (mz_k S R N b t) := by
  unfold cf_26_0 at hC
  unfold cp_26_0 at hp
  refine g_aload_n rfl (g_iconst mzi_1 (g_putI (mz_at hS (mz_oL0 ho (Nat.le_of_ble_eq_true rfl)) (mz_oA0 ho)) mzcf_7_10 (g_aload_n rfl (g_iconst mzi_0 (g_putI (mz_at hS (mz_oL0 ho (Nat.le_of_ble_eq_true rfl)) (mz_oA0 ho)) mzcf_7_11 ?_)))))
  refine g_weak ?_ (g_cl (cg_26_10 hd hS hR o ho (mz_pI (mz_pI N o 10 1) o 11 0) hr hp hC))
  exact ⟨rfl, trivial⟩
theorem cs_26 (hd : 2 ≤ d) (hS : mz_extR S 232) (hR : mz_rok R 232) (o : Nat) (ho : o = 43 ∨ o = 48) (N : mz_N) (hp : cp_26_0 o N) (hq : Q (.inl (some (.int (mz_b01 ((cf_26_0 o N).1))))) (mz_k S R ((cf_26_0 o N).2) b t)) : mz_Ed (mz_X0 L xs) d 26 [.ref o] (mz_k S R N b t) Q :=
  by
  refine g_in mzq_26 (Nat.le_of_ble_eq_true rfl) (Nat.le_of_ble_eq_true rfl) (Nat.le_trans (Nat.le_of_ble_eq_true rfl) hd) ?_
  refine g_weak ?_ (cg_26_0 (d := d - 1) (by omega) hS hR o ho N (C0 := fun z => Q (.inl (some (.int (mz_b01 z.1)))) (mz_k S R z.2 b t)) (fun _ _ h => h) hp hq)
  exact ⟨rfl, trivial⟩
/-! 28 KeptHouse$Reader.isLetter (I)Z -/
theorem ms_28_0 : mz_sf mk_28 0 = mk_28 := mz_sf_zero _
theorem ms_28_12 : mz_sf mk_28 12 = mt_28_12 := mz_sf_add ms_28_0 (t := 12) rfl rfl
theorem ms_28_24 : mz_sf mk_28 24 = mt_28_24 := mz_sf_add ms_28_12 (t := 12) rfl rfl
theorem ms_28_28 : mz_sf mk_28 28 = mt_28_28 := mz_sf_add ms_28_24 (t := 4) rfl rfl
theorem ms_28_29 : mz_sf mk_28 29 = mt_28_29 := mz_sf_add ms_28_28 (t := 1) rfl rfl
set_option maxRecDepth 100000 in
theorem mzq_28 : mz_PG0 28 = some (7, ⟨"KeptHouse$Reader", "isLetter", "(I)Z"⟩, prog_9_method_5_code, 1, some .boolean, [], mk_28, []) := rfl
theorem cg_28_12 (hd : 0 ≤ d) (hS : mz_extR S 232) (hR : mz_rok R 232)  (v0 : Int32) {C0 : (Bool) → Prop} (hr : ∀ (w : Bool), C0 w → Q (.inl (some (.int (mz_b01 w)))) (mz_k S R N b t)) (hp : cp_28_12 v0) (hC : C0 (cf_28_12 v0)) : mz_G (d, mz_X0 L xs, some .boolean, [], mk_28, 1, Q) 12 mt_28_12 [(0, .int v0)] [] true (mz_k S R N b t) := by
  unfold cf_28_12 at hC
  unfold cp_28_12 at hp
  refine g_iload_n rfl (g_bipush mzb_65 ?_)
  refine g_iclt (tg := 28) rfl ms_28_28 hC (fun h1 hC => ?_) (fun h1 hC => ?_)
  · refine g_iconst mzi_0 ?_
    exact g_zret (z := false) rfl (hr _ hC)
  · refine g_iload_n rfl (g_bipush mzb_90 ?_)
    refine g_icgt (tg := 28) rfl ms_28_28 hC (fun h2 hC => ?_) (fun h2 hC => ?_)
    · refine g_iconst mzi_0 ?_
      exact g_zret (z := false) rfl (hr _ hC)
    · refine g_iconst mzi_1 (g_goto (tg := 29) rfl ms_28_29 ?_)
      exact g_zret (z := true) rfl (hr _ hC)
theorem cg_28_0 (hd : 0 ≤ d) (hS : mz_extR S 232) (hR : mz_rok R 232)  (v0 : Int32) {C0 : (Bool) → Prop} (hr : ∀ (w : Bool), C0 w → Q (.inl (some (.int (mz_b01 w)))) (mz_k S R N b t)) (hp : cp_28_0 v0) (hC : C0 (cf_28_0 v0)) : mz_G (d, mz_X0 L xs, some .boolean, [], mk_28, 1, Q) 0 mk_28 [(0, .int v0)] [] true (mz_k S R N b t) := by
  unfold cf_28_0 at hC
  unfold cp_28_0 at hp
  refine g_iload_n rfl (g_bipush mzb_97 ?_)
  refine g_iclt (tg := 12) rfl ms_28_12 hC (fun h1 hC => ?_) (fun h1 hC => ?_)
  · have hp := hp.1 h1
    refine g_weak ?_ (cg_28_12 hd hS hR v0 hr hp hC)
    exact ⟨rfl, trivial⟩
  · have hp := hp.2 h1
    refine g_iload_n rfl (g_bipush mzb_122 ?_)
    refine g_icle (tg := 24) rfl ms_28_24 hC (fun h2 hC => ?_) (fun h2 hC => ?_)
    · have hp := hp.1 h2
      refine g_weak ?_ (cg_28_12 hd hS hR v0 hr hp hC)
      exact ⟨rfl, trivial⟩
    · have hp := hp.2 h2
      refine g_iconst mzi_1 (g_goto (tg := 29) rfl ms_28_29 ?_)
      exact g_zret (z := true) rfl (hr _ hC)
theorem cs_28 (hd : 1 ≤ d) (hS : mz_extR S 232) (hR : mz_rok R 232)  (v0 : Int32) (hp : cp_28_0 v0) (hq : Q (.inl (some (.int (mz_b01 (cf_28_0 v0))))) (mz_k S R N b t)) : mz_Ed (mz_X0 L xs) d 28 [.int v0] (mz_k S R N b t) Q :=
  by
  refine g_in mzq_28 (Nat.le_of_ble_eq_true rfl) (Nat.le_of_ble_eq_true rfl) (Nat.le_trans (Nat.le_of_ble_eq_true rfl) hd) ?_
  refine g_weak ?_ (cg_28_0 (d := d - 1) (by omega) hS hR v0 (C0 := fun z => Q (.inl (some (.int (mz_b01 z)))) (mz_k S R N b t)) (fun _ h => h) hp hq)
  exact ⟨rfl, trivial⟩
/-! 30 KeptHouse$Reader.loneName (C)I -/
theorem ms_30_0 : mz_sf mk_30 0 = mk_30 := mz_sf_zero _
theorem ms_30_16 : mz_sf mk_30 16 = mt_30_16 := mz_sf_add ms_30_0 (t := 16) rfl rfl
theorem ms_30_34 : mz_sf mk_30 34 = mt_30_34 := mz_sf_add ms_30_16 (t := 18) rfl rfl
theorem ms_30_35 : mz_sf mk_30 35 = mt_30_35 := mz_sf_add ms_30_34 (t := 1) rfl rfl
set_option maxRecDepth 100000 in
theorem mzq_30 : mz_PG0 30 = some (7, ⟨"KeptHouse$Reader", "loneName", "(C)I"⟩, prog_9_method_9_code, 3, some .int, [], mk_30, []) := rfl
theorem cg_30_0 (hd : 0 ≤ d) (hS : mz_extR S 232) (hR : mz_rok R 232)  (v0 : Int32) {C0 : (Int32) → Prop} (hr : ∀ (w : Int32), C0 w → Q (.inl (some (.int w))) (mz_k S R N b t)) (hp : cp_30_0 v0) (hC : C0 (cf_30_0 v0)) : mz_G (d, mz_X0 L xs, some .int, [], mk_30, 3, Q) 0 mk_30 [(0, .int v0)] [] true (mz_k S R N b t) := by
  unfold cf_30_0 at hC
  unfold cp_30_0 at hp
  refine g_str (g_iload_n rfl (g_idx rfl (Nat.le_of_ble_eq_true rfl) (g_istore_n (Nat.le_of_ble_eq_true rfl) rfl (g_iload_n rfl ?_))))
  refine g_iflt (tg := 16) rfl ms_30_16 hC (fun h1 hC => ?_) (fun h1 hC => ?_)
  · refine g_str (g_iload_n rfl (g_idx rfl (Nat.le_of_ble_eq_true rfl) (g_istore_n (Nat.le_of_ble_eq_true rfl) rfl (g_iload_n rfl ?_))))
    refine g_iflt (tg := 34) rfl ms_30_34 hC (fun h2 hC => ?_) (fun h2 hC => ?_)
    · refine g_iconst mzi_m1 ?_
      exact g_iret rfl (hr _ hC)
    · refine g_bipush mzb_46 (g_iload_n rfl (g_iadd (g_goto (tg := 35) rfl ms_30_35 ?_)))
      exact g_iret rfl (hr _ hC)
  · refine g_bipush mzb_10 (g_iload_n rfl (g_iadd ?_))
    exact g_iret rfl (hr _ hC)
theorem cs_30 (hd : 1 ≤ d) (hS : mz_extR S 232) (hR : mz_rok R 232)  (v0 : Int32) (hp : cp_30_0 v0) (hq : Q (.inl (some (.int (cf_30_0 v0)))) (mz_k S R N b t)) : mz_Ed (mz_X0 L xs) d 30 [.int v0] (mz_k S R N b t) Q :=
  by
  refine g_in mzq_30 (Nat.le_of_ble_eq_true rfl) (Nat.le_of_ble_eq_true rfl) (Nat.le_trans (Nat.le_of_ble_eq_true rfl) hd) ?_
  refine g_weak ?_ (cg_30_0 (d := d - 1) (by omega) hS hR v0 (C0 := fun z => Q (.inl (some (.int z))) (mz_k S R N b t)) (fun _ h => h) hp hq)
  exact ⟨rfl, trivial⟩
/-! 31 KeptHouse$Reader.numberedName (II)I -/
theorem ms_31_0 : mz_sf mk_31 0 = mk_31 := mz_sf_zero _
theorem ms_31_46 : mz_sf mk_31 46 = mt_31_46 := mz_sf_add ms_31_0 (t := 46) rfl rfl
theorem ms_31_51 : mz_sf mk_31 51 = mt_31_51 := mz_sf_add ms_31_46 (t := 5) rfl rfl
theorem ms_31_56 : mz_sf mk_31 56 = mt_31_56 := mz_sf_add ms_31_51 (t := 5) rfl rfl
theorem ms_31_61 : mz_sf mk_31 61 = mt_31_61 := mz_sf_add ms_31_56 (t := 5) rfl rfl
set_option maxRecDepth 100000 in
theorem mzq_31 : mz_PG0 31 = some (7, ⟨"KeptHouse$Reader", "numberedName", "(II)I"⟩, prog_9_method_10_code, 2, some .int, [], mk_31, []) := rfl
theorem cg_31_0 (hd : 0 ≤ d) (hS : mz_extR S 232) (hR : mz_rok R 232)  (v0 : Int32) (v1 : Int32) {C0 : (Int32) → Prop} (hr : ∀ (w : Int32), C0 w → Q (.inl (some (.int w))) (mz_k S R N b t)) (hp : cp_31_0 v0 v1) (hC : C0 (cf_31_0 v0 v1)) : mz_G (d, mz_X0 L xs, some .int, [], mk_31, 2, Q) 0 mk_31 [(0, .int v0), (1, .int v1)] [] true (mz_k S R N b t) := by
  unfold cf_31_0 at hC
  unfold cp_31_0 at hp
  refine g_iload_n rfl ?_
  refine mz_cs hC (fun h1 hC => ?_) (fun h1 hC => ?_)
  · refine g_br (tg := 51) (by rw [h1]; rfl) ms_31_51 ?_
    refine g_bipush mzb_26 (g_iload_n rfl (g_iadd ?_))
    exact g_iret rfl (hr _ hC)
  · refine mz_cs hC (fun h2 hC => ?_) (fun h2 hC => ?_)
    · refine g_br (tg := 56) (by rw [h2]; rfl) ms_31_56 ?_
      refine g_bipush mzb_36 (g_iload_n rfl (g_iadd ?_))
      exact g_iret rfl (hr _ hC)
    · refine mz_cs hC (fun h3 hC => ?_) (fun h3 hC => ?_)
      · refine g_brn (tg := 44) (by rw [h3]; rfl) (by decide) rfl ?_
        refine g_iload_n rfl ?_
        exact g_iret rfl (hr _ hC)
      · refine mz_cs hC (fun h4 hC => ?_) (fun h4 hC => ?_)
        · refine g_br (tg := 46) (by rw [h4]; rfl) ms_31_46 ?_
          refine g_bipush mzb_16 (g_iload_n rfl (g_iadd ?_))
          exact g_iret rfl (hr _ hC)
        · refine g_br (tg := 61) ((mz_lsw_d (l := [99, 100, 115, 119]) rfl (by intro x hx; simp [Op.lookupswitch.offset] at hx ⊢; omega) ⟨h1, h2, h3, h4, trivial⟩).trans (mz_tg_t rfl)) ms_31_61 ?_
          refine g_iconst mzi_m1 ?_
          exact g_iret rfl (hr _ hC)
theorem cs_31 (hd : 1 ≤ d) (hS : mz_extR S 232) (hR : mz_rok R 232)  (v0 : Int32) (v1 : Int32) (hp : cp_31_0 v0 v1) (hq : Q (.inl (some (.int (cf_31_0 v0 v1)))) (mz_k S R N b t)) : mz_Ed (mz_X0 L xs) d 31 [.int v0, .int v1] (mz_k S R N b t) Q :=
  by
  refine g_in mzq_31 (Nat.le_of_ble_eq_true rfl) (Nat.le_of_ble_eq_true rfl) (Nat.le_trans (Nat.le_of_ble_eq_true rfl) hd) ?_
  refine g_weak ?_ (cg_31_0 (d := d - 1) (by omega) hS hR v0 v1 (C0 := fun z => Q (.inl (some (.int z))) (mz_k S R N b t)) (fun _ h => h) hp hq)
  exact ⟨rfl, rfl, trivial⟩
/-! 29 KeptHouse$Reader.scanWord ()V -/
theorem ms_29_0 : mz_sf mk_29 0 = mk_29 := mz_sf_zero _
theorem ms_29_5 : mz_sf mk_29 5 = mt_29_5 := mz_sf_add ms_29_0 (t := 5) rfl rfl
theorem ms_29_31 : mz_sf mk_29 31 = mt_29_31 := mz_sf_add ms_29_5 (t := 26) rfl rfl
theorem ms_29_46 : mz_sf mk_29 46 = mt_29_46 := mz_sf_add ms_29_31 (t := 15) rfl rfl
theorem ms_29_59 : mz_sf mk_29 59 = mt_29_59 := mz_sf_add ms_29_46 (t := 13) rfl rfl
theorem ms_29_94 : mz_sf mk_29 94 = mt_29_94 := mz_sf_add ms_29_59 (t := 35) rfl rfl
theorem ms_29_97 : mz_sf mk_29 97 = mt_29_97 := mz_sf_add ms_29_94 (t := 3) rfl rfl
theorem ms_29_127 : mz_sf mk_29 127 = mt_29_127 := mz_sf_add ms_29_97 (t := 30) rfl rfl
theorem ms_29_157 : mz_sf mk_29 157 = mt_29_157 := mz_sf_add ms_29_127 (t := 30) rfl rfl
set_option maxRecDepth 100000 in
theorem mzq_29 : mz_PG0 29 = some (7, ⟨"KeptHouse$Reader", "scanWord", "()V"⟩, prog_9_method_8_code, 1, none, [], mk_29, []) := rfl
theorem cg_29_157 (hd : 1 ≤ d) (hS : mz_extR S 232) (hR : mz_rok R 232) (o : Nat) (ho : o = 43 ∨ o = 48) (N : mz_N) {C0 : (mz_N) → Prop} (hr : ∀ (N2 : mz_N), C0 N2 → Q (.inl none) (mz_k S R N2 b t)) (hp : cp_29_157 o N) (hC : C0 (cf_29_157 o N)) : mz_G (d, mz_X0 L xs, none, [], mk_29, 1, Q) 157 mt_29_157 [] [] false (mz_k S R N b t) := by
  unfold cf_29_157 at hC
  unfold cp_29_157 at hp
  exact g_vret rfl (hr _ hC)
theorem cg_29_94 (hd : 1 ≤ d) (hS : mz_extR S 232) (hR : mz_rok R 232) (o : Nat) (ho : o = 43 ∨ o = 48) (N : mz_N) {C0 : (mz_N) → Prop} (hr : ∀ (N2 : mz_N), C0 N2 → Q (.inl none) (mz_k S R N2 b t)) (hp : cp_29_94 o N) (hC : C0 (cf_29_94 o N)) : mz_G (d, mz_X0 L xs, none, [], mk_29, 1, Q) 94 mt_29_94 [] [] false (mz_k S R N b t) := by
  unfold cf_29_94 at hC
  unfold cp_29_94 at hp
  refine g_goto (tg := 157) rfl ms_29_157 ?_
  refine g_weak ?_ (g_cl (cg_29_157 hd hS hR o ho N hr hp hC))
  exact trivial
theorem cg_29_59 (hd : 1 ≤ d) (hS : mz_extR S 232) (hR : mz_rok R 232) (o : Nat) (ho : o = 43 ∨ o = 48) (N : mz_N) {C0 : (mz_N) → Prop} (hr : ∀ (N2 : mz_N), C0 N2 → Q (.inl none) (mz_k S R N2 b t)) (hp : cp_29_59 o N) (hC : C0 (cf_29_59 o N)) : mz_G (d, mz_X0 L xs, none, [], mk_29, 1, Q) 59 mt_29_59 [(0, .ref o)] [] false (mz_k S R N b t) := by
  unfold cf_29_59 at hC
  unfold cp_29_59 at hp
  refine g_aload_n rfl (g_iconst mzi_m1 (g_putI (mz_at hS (mz_oL0 ho (Nat.le_of_ble_eq_true rfl)) (mz_oA0 ho)) mzcf_7_11 (g_aload_n rfl (g_getI (mz_at hS (mz_oL0 ho (Nat.le_of_ble_eq_true rfl)) (mz_oA0 ho)) mzcf_7_8 (g_aload_n rfl (g_getI (mz_at hS (mz_oL0 ho (Nat.le_of_ble_eq_true rfl)) (mz_oA0 ho)) mzcf_7_9 (g_isub ?_)))))))
  refine g_iconst mzi_1 ?_
  refine g_icne (tg := 97) rfl ms_29_97 hC (fun h1 hC => ?_) (fun h1 hC => ?_)
  · have hp := hp.1 h1
    refine g_aload_n rfl (g_aload_n rfl (g_getR (mz_at hS (mz_oL0 ho (Nat.le_of_ble_eq_true rfl)) (mz_oA0 ho)) mzcf_7_0 (mz_rb hR (mz_oL0 ho (Nat.le_of_ble_eq_true rfl)) (mz_o41 ho) (mz_oR1 ho)) (g_aload_n rfl (g_getI (mz_at hS (mz_oL0 ho (Nat.le_of_ble_eq_true rfl)) (mz_oA0 ho)) mzcf_7_9 ?_))))
    obtain ⟨h2, hp⟩ := hp
    refine g_iald hS.1 (mz_at hS (mz_oL1 ho (Nat.le_of_ble_eq_true rfl)) (mz_oA1 ho)) h2 (g_i2c ?_)
    refine g_s1v (Nat.le_of_ble_eq_true rfl) (fun _ hq => cs_30 (Nat.le_trans (Nat.le_of_ble_eq_true rfl) hd) (hS.le (Nat.le_of_ble_eq_true rfl)) (hR.le (Nat.le_of_ble_eq_true rfl))  (mz_i2c (mz_gI (mz_pI N o 11 (-1)) (o + 1) ((mz_pI N o 11 (-1)).1 o 9))) trivial hq) (g_putI (mz_at hS (mz_oL0 ho (Nat.le_of_ble_eq_true rfl)) (mz_oA0 ho)) mzcf_7_11 ?_)
    refine g_weak ?_ (g_cl (cg_29_94 hd hS hR o ho (mz_pI (mz_pI N o 11 (-1)) o 11 (cf_30_0 (mz_i2c (mz_gI (mz_pI N o 11 (-1)) (o + 1) ((mz_pI N o 11 (-1)).1 o 9))))) hr hp hC))
    exact trivial
  · have hp := hp.2 h1
    refine g_aload_n rfl (g_getI (mz_at hS (mz_oL0 ho (Nat.le_of_ble_eq_true rfl)) (mz_oA0 ho)) mzcf_7_8 (g_aload_n rfl (g_getI (mz_at hS (mz_oL0 ho (Nat.le_of_ble_eq_true rfl)) (mz_oA0 ho)) mzcf_7_9 (g_isub (g_iconst mzi_2 ?_)))))
    refine g_icne (tg := 157) rfl ms_29_157 hC (fun h4 hC => ?_) (fun h4 hC => ?_)
    · have hp := hp.1 h4
      refine g_aload_n rfl (g_getR (mz_at hS (mz_oL0 ho (Nat.le_of_ble_eq_true rfl)) (mz_oA0 ho)) mzcf_7_0 (mz_rb hR (mz_oL0 ho (Nat.le_of_ble_eq_true rfl)) (mz_o41 ho) (mz_oR1 ho)) (g_aload_n rfl (g_getI (mz_at hS (mz_oL0 ho (Nat.le_of_ble_eq_true rfl)) (mz_oA0 ho)) mzcf_7_9 (g_iconst mzi_1 (g_iadd ?_)))))
      obtain ⟨h5, hp⟩ := hp
      refine g_iald hS.1 (mz_at hS (mz_oL1 ho (Nat.le_of_ble_eq_true rfl)) (mz_oA1 ho)) h5 ?_
      refine g_s1v (Nat.le_of_ble_eq_true rfl) (fun _ hq => cs_25 (Nat.le_trans (Nat.le_of_ble_eq_true rfl) hd) (hS.le (Nat.le_of_ble_eq_true rfl)) (hR.le (Nat.le_of_ble_eq_true rfl))  (mz_gI (mz_pI N o 11 (-1)) (o + 1) (((mz_pI N o 11 (-1)).1 o 9) + 1)) trivial hq) ?_
      refine g_zeq (tg := 157) rfl ms_29_157 hC (fun h7 hC => ?_) (fun h7 hC => ?_)
      · have hp := hp.1 h7
        refine g_aload_n rfl (g_aload_n rfl (g_getR (mz_at hS (mz_oL0 ho (Nat.le_of_ble_eq_true rfl)) (mz_oA0 ho)) mzcf_7_0 (mz_rb hR (mz_oL0 ho (Nat.le_of_ble_eq_true rfl)) (mz_o41 ho) (mz_oR1 ho)) (g_aload_n rfl (g_getI (mz_at hS (mz_oL0 ho (Nat.le_of_ble_eq_true rfl)) (mz_oA0 ho)) mzcf_7_9 ?_))))
        obtain ⟨h8, hp⟩ := hp
        refine g_iald hS.1 (mz_at hS (mz_oL1 ho (Nat.le_of_ble_eq_true rfl)) (mz_oA1 ho)) h8 (g_aload_n rfl (g_getR (mz_at hS (mz_oL0 ho (Nat.le_of_ble_eq_true rfl)) (mz_oA0 ho)) mzcf_7_0 (mz_rb hR (mz_oL0 ho (Nat.le_of_ble_eq_true rfl)) (mz_o41 ho) (mz_oR1 ho)) (g_aload_n rfl (g_getI (mz_at hS (mz_oL0 ho (Nat.le_of_ble_eq_true rfl)) (mz_oA0 ho)) mzcf_7_9 (g_iconst mzi_1 (g_iadd ?_))))))
        obtain ⟨h9, hp⟩ := hp
        refine g_iald hS.1 (mz_at hS (mz_oL1 ho (Nat.le_of_ble_eq_true rfl)) (mz_oA1 ho)) h9 (g_bipush mzb_48 (g_isub ?_))
        refine g_s2v (Nat.le_of_ble_eq_true rfl) (fun _ hq => cs_31 (Nat.le_trans (Nat.le_of_ble_eq_true rfl) hd) (hS.le (Nat.le_of_ble_eq_true rfl)) (hR.le (Nat.le_of_ble_eq_true rfl))  (mz_gI (mz_pI N o 11 (-1)) (o + 1) ((mz_pI N o 11 (-1)).1 o 9)) ((mz_gI (mz_pI N o 11 (-1)) (o + 1) (((mz_pI N o 11 (-1)).1 o 9) + 1)) - 48) trivial hq) (g_putI (mz_at hS (mz_oL0 ho (Nat.le_of_ble_eq_true rfl)) (mz_oA0 ho)) mzcf_7_11 ?_)
        refine g_weak ?_ (g_cl (cg_29_157 hd hS hR o ho (mz_pI (mz_pI N o 11 (-1)) o 11 (cf_31_0 (mz_gI (mz_pI N o 11 (-1)) (o + 1) ((mz_pI N o 11 (-1)).1 o 9)) ((mz_gI (mz_pI N o 11 (-1)) (o + 1) (((mz_pI N o 11 (-1)).1 o 9) + 1)) - 48))) hr hp hC))
        exact trivial
      · have hp := hp.2 h7
        refine g_weak ?_ (g_cl (cg_29_157 hd hS hR o ho (mz_pI N o 11 (-1)) hr hp hC))
        exact trivial
    · have hp := hp.2 h4
      refine g_weak ?_ (g_cl (cg_29_157 hd hS hR o ho (mz_pI N o 11 (-1)) hr hp hC))
      exact trivial
theorem cg_29_46 (hd : 1 ≤ d) (hS : mz_extR S 232) (hR : mz_rok R 232) (o : Nat) (ho : o = 43 ∨ o = 48) (N : mz_N) {C0 : (mz_N) → Prop} (hr : ∀ (N2 : mz_N), C0 N2 → Q (.inl none) (mz_k S R N2 b t)) {C1 : ((mz_N) ⊕ (mz_N)) → Prop} (hc1 : ∀ s2, C1 (.inl s2) → mz_G (d, mz_X0 L xs, none, [], mk_29, 1, Q) 5 mt_29_5 [(0, .ref o)] [] false (mz_k S R s2 b t)) (hx1 : ∀ z, C1 (.inr z) → C0 z) (hp : cp_29_46 o N) (hC : C1 (cf_29_46 o N)) : mz_G (d, mz_X0 L xs, none, [], mk_29, 1, Q) 46 mt_29_46 [(0, .ref o)] [] false (mz_k S R N b t) := by
  unfold cf_29_46 at hC
  unfold cp_29_46 at hp
  refine g_aload_n rfl (g_dup rfl (g_getI (mz_at hS (mz_oL0 ho (Nat.le_of_ble_eq_true rfl)) (mz_oA0 ho)) mzcf_7_8 (g_iconst mzi_1 (g_iadd (g_putI (mz_at hS (mz_oL0 ho (Nat.le_of_ble_eq_true rfl)) (mz_oA0 ho)) mzcf_7_8 (g_goto (tg := 5) rfl ms_29_5 ?_))))))
  refine g_weak ?_ (g_cl (hc1 (mz_pI N o 8 ((N.1 o 8) + 1)) hC))
  exact ⟨rfl, trivial⟩
theorem cb_29_5 (hd : 1 ≤ d) (hS : mz_extR S 232) (hR : mz_rok R 232) (o : Nat) (ho : o = 43 ∨ o = 48)  (s : mz_N) {C0 : (mz_N) → Prop} (hr : ∀ (N2 : mz_N), C0 N2 → Q (.inl none) (mz_k S R N2 b t)) {C1 : ((mz_N) ⊕ (mz_N)) → Prop} (hc1 : ∀ s2, C1 (.inl s2) → mz_G (d, mz_X0 L xs, none, [], mk_29, 1, Q) 5 mt_29_5 [(0, .ref o)] [] false (mz_k S R s2 b t)) (hx1 : ∀ z, C1 (.inr z) → C0 z) (hp : cd_29_5 o s) (hC : C1 (cq_29_5 o s)) : mz_G (d, mz_X0 L xs, none, [], mk_29, 1, Q) 5 mt_29_5 [(0, .ref o)] [] false (mz_k S R s b t) := by
  unfold cq_29_5 at hC
  unfold cd_29_5 at hp
  refine g_aload_n rfl (g_getI (mz_at hS (mz_oL0 ho (Nat.le_of_ble_eq_true rfl)) (mz_oA0 ho)) mzcf_7_8 (g_aload_n rfl (g_getI (mz_at hS (mz_oL0 ho (Nat.le_of_ble_eq_true rfl)) (mz_oA0 ho)) mzcf_7_1 ?_)))
  refine g_icge (tg := 59) rfl ms_29_59 hC (fun h1 hC => ?_) (fun h1 hC => ?_)
  · have hp := hp.1 h1
    refine g_aload_n rfl (g_getR (mz_at hS (mz_oL0 ho (Nat.le_of_ble_eq_true rfl)) (mz_oA0 ho)) mzcf_7_0 (mz_rb hR (mz_oL0 ho (Nat.le_of_ble_eq_true rfl)) (mz_o41 ho) (mz_oR1 ho)) (g_aload_n rfl (g_getI (mz_at hS (mz_oL0 ho (Nat.le_of_ble_eq_true rfl)) (mz_oA0 ho)) mzcf_7_8 ?_)))
    obtain ⟨h2, hp⟩ := hp
    refine g_iald hS.1 (mz_at hS (mz_oL1 ho (Nat.le_of_ble_eq_true rfl)) (mz_oA1 ho)) h2 ?_
    obtain ⟨h3, hp⟩ := hp
    refine g_s1v (Nat.le_of_ble_eq_true rfl) (fun _ hq => cs_28 (Nat.le_trans (Nat.le_of_ble_eq_true rfl) hd) (hS.le (Nat.le_of_ble_eq_true rfl)) (hR.le (Nat.le_of_ble_eq_true rfl))  (mz_gI s (o + 1) (s.1 o 8)) h3 hq) ?_
    refine g_zne (tg := 46) rfl ms_29_46 hC (fun h4 hC => ?_) (fun h4 hC => ?_)
    · have hp := hp.1 h4
      refine g_weak ?_ (g_cl (cg_29_46 hd hS hR o ho s hr hc1 hx1 hp hC))
      exact ⟨rfl, trivial⟩
    · have hp := hp.2 h4
      refine g_aload_n rfl (g_getR (mz_at hS (mz_oL0 ho (Nat.le_of_ble_eq_true rfl)) (mz_oA0 ho)) mzcf_7_0 (mz_rb hR (mz_oL0 ho (Nat.le_of_ble_eq_true rfl)) (mz_o41 ho) (mz_oR1 ho)) (g_aload_n rfl (g_getI (mz_at hS (mz_oL0 ho (Nat.le_of_ble_eq_true rfl)) (mz_oA0 ho)) mzcf_7_8 ?_)))
      obtain ⟨h5, hp⟩ := hp
      refine g_iald hS.1 (mz_at hS (mz_oL1 ho (Nat.le_of_ble_eq_true rfl)) (mz_oA1 ho)) h5 ?_
      refine g_s1v (Nat.le_of_ble_eq_true rfl) (fun _ hq => cs_25 (Nat.le_trans (Nat.le_of_ble_eq_true rfl) hd) (hS.le (Nat.le_of_ble_eq_true rfl)) (hR.le (Nat.le_of_ble_eq_true rfl))  (mz_gI s (o + 1) (s.1 o 8)) trivial hq) ?_
      refine g_zeq (tg := 59) rfl ms_29_59 hC (fun h7 hC => ?_) (fun h7 hC => ?_)
      · have hp := hp.1 h7
        refine g_weak ?_ (g_cl (cg_29_46 hd hS hR o ho s hr hc1 hx1 hp hC))
        exact ⟨rfl, trivial⟩
      · have hp := hp.2 h7
        refine g_weak ?_ (g_cl (cg_29_59 hd hS hR o ho s hr hp (hx1 _ hC)))
        exact ⟨rfl, trivial⟩
  · have hp := hp.2 h1
    refine g_weak ?_ (g_cl (cg_29_59 hd hS hR o ho s hr hp (hx1 _ hC)))
    exact ⟨rfl, trivial⟩
theorem cg_29_5 (hd : 1 ≤ d) (hS : mz_extR S 232) (hR : mz_rok R 232) (o : Nat) (ho : o = 43 ∨ o = 48) (N : mz_N) {C0 : (mz_N) → Prop} (hr : ∀ (N2 : mz_N), C0 N2 → Q (.inl none) (mz_k S R N2 b t)) (hp : cp_29_5 o N) (hC : C0 (cf_29_5 o N)) : mz_G (d, mz_X0 L xs, none, [], mk_29, 1, Q) 5 mt_29_5 [(0, .ref o)] [] false (mz_k S R N b t) := by
  obtain ⟨n, hn⟩ := hp
  exact g_loop (G := fun s => mz_G (d, mz_X0 L xs, none, [], mk_29, 1, Q) 5 mt_29_5 [(0, .ref o)] [] false (mz_k S R s b t)) (C := C0) (fun C2 hc hx s hP hC => cb_29_5 hd hS hR o ho s hr hc hx hP hC) n (N) hn hC
theorem cg_29_0 (hd : 1 ≤ d) (hS : mz_extR S 232) (hR : mz_rok R 232) (o : Nat) (ho : o = 43 ∨ o = 48) (N : mz_N) {C0 : (mz_N) → Prop} (hr : ∀ (N2 : mz_N), C0 N2 → Q (.inl none) (mz_k S R N2 b t)) (hp : cp_29_0 o N) (hC : C0 (cf_29_0 o N)) : mz_G (d, mz_X0 L xs, none, [], mk_29, 1, Q) 0 mk_29 [(0, .ref o)] [] true (mz_k S R N b t) := by
  unfold cf_29_0 at hC
  unfold cp_29_0 at hp
  refine g_aload_n rfl (g_iconst mzi_2 (g_putI (mz_at hS (mz_oL0 ho (Nat.le_of_ble_eq_true rfl)) (mz_oA0 ho)) mzcf_7_10 ?_))
  refine g_weak ?_ (g_cl (cg_29_5 hd hS hR o ho (mz_pI N o 10 2) hr hp hC))
  exact ⟨rfl, trivial⟩
theorem cs_29 (hd : 2 ≤ d) (hS : mz_extR S 232) (hR : mz_rok R 232) (o : Nat) (ho : o = 43 ∨ o = 48) (N : mz_N) (hp : cp_29_0 o N) (hq : Q (.inl none) (mz_k S R (cf_29_0 o N) b t)) : mz_Ed (mz_X0 L xs) d 29 [.ref o] (mz_k S R N b t) Q :=
  by
  refine g_in mzq_29 (Nat.le_of_ble_eq_true rfl) (Nat.le_of_ble_eq_true rfl) (Nat.le_trans (Nat.le_of_ble_eq_true rfl) hd) ?_
  refine g_weak ?_ (cg_29_0 (d := d - 1) (by omega) hS hR o ho N (C0 := fun z => Q (.inl none) (mz_k S R z b t)) (fun _ h => h) hp hq)
  exact ⟨rfl, trivial⟩
/-! 24 KeptHouse$Reader.advance ()Z -/
theorem ms_24_0 : mz_sf mk_24 0 = mk_24 := mz_sf_zero _
theorem ms_24_25 : mz_sf mk_24 25 = mt_24_25 := mz_sf_add ms_24_0 (t := 25) rfl rfl
theorem ms_24_38 : mz_sf mk_24 38 = mt_24_38 := mz_sf_add ms_24_25 (t := 13) rfl rfl
theorem ms_24_62 : mz_sf mk_24 62 = mt_24_62 := mz_sf_add ms_24_38 (t := 24) rfl rfl
theorem ms_24_64 : mz_sf mk_24 64 = mt_24_64 := mz_sf_add ms_24_62 (t := 2) rfl rfl
theorem ms_24_86 : mz_sf mk_24 86 = mt_24_86 := mz_sf_add ms_24_64 (t := 22) rfl rfl
theorem ms_24_99 : mz_sf mk_24 99 = mt_24_99 := mz_sf_add ms_24_86 (t := 13) rfl rfl
theorem ms_24_115 : mz_sf mk_24 115 = mt_24_115 := mz_sf_add ms_24_99 (t := 16) rfl rfl
set_option maxRecDepth 100000 in
theorem mzq_24 : mz_PG0 24 = some (7, ⟨"KeptHouse$Reader", "advance", "()Z"⟩, prog_9_method_6_code, 2, some .boolean, [], mk_24, []) := rfl
theorem cg_24_38 (hd : 2 ≤ d) (hS : mz_extR S 232) (hR : mz_rok R 232) (o : Nat) (ho : o = 43 ∨ o = 48) (N : mz_N) {C0 : (Bool × mz_N) → Prop} (hr : ∀ (w : Bool) (N2 : mz_N), C0 (w, N2) → Q (.inl (some (.int (mz_b01 w)))) (mz_k S R N2 b t)) (hp : cp_24_38 o N) (hC : C0 (cf_24_38 o N)) : mz_G (d, mz_X0 L xs, some .boolean, [], mk_24, 2, Q) 38 mt_24_38 [(0, .ref o)] [] false (mz_k S R N b t) := by
  unfold cf_24_38 at hC
  unfold cp_24_38 at hp
  refine g_aload_n rfl (g_aload_n rfl (g_getI (mz_at hS (mz_oL0 ho (Nat.le_of_ble_eq_true rfl)) (mz_oA0 ho)) mzcf_7_8 (g_putI (mz_at hS (mz_oL0 ho (Nat.le_of_ble_eq_true rfl)) (mz_oA0 ho)) mzcf_7_9 (g_aload_n rfl (g_getI (mz_at hS (mz_oL0 ho (Nat.le_of_ble_eq_true rfl)) (mz_oA0 ho)) mzcf_7_8 (g_aload_n rfl (g_getI (mz_at hS (mz_oL0 ho (Nat.le_of_ble_eq_true rfl)) (mz_oA0 ho)) mzcf_7_1 ?_)))))))
  refine g_iclt (tg := 64) rfl ms_24_64 hC (fun h1 hC => ?_) (fun h1 hC => ?_)
  · have hp := hp.1 h1
    refine g_aload_n rfl (g_getR (mz_at hS (mz_oL0 ho (Nat.le_of_ble_eq_true rfl)) (mz_oA0 ho)) mzcf_7_0 (mz_rb hR (mz_oL0 ho (Nat.le_of_ble_eq_true rfl)) (mz_o41 ho) (mz_oR1 ho)) (g_aload_n rfl (g_getI (mz_at hS (mz_oL0 ho (Nat.le_of_ble_eq_true rfl)) (mz_oA0 ho)) mzcf_7_8 ?_)))
    obtain ⟨h2, hp⟩ := hp
    refine g_iald hS.1 (mz_at hS (mz_oL1 ho (Nat.le_of_ble_eq_true rfl)) (mz_oA1 ho)) h2 (g_istore_n (Nat.le_of_ble_eq_true rfl) rfl (g_iload_n rfl ?_))
    refine g_s1v (Nat.le_of_ble_eq_true rfl) (fun _ hq => cs_25 (Nat.le_trans (Nat.le_of_ble_eq_true rfl) hd) (hS.le (Nat.le_of_ble_eq_true rfl)) (hR.le (Nat.le_of_ble_eq_true rfl))  (mz_gI (mz_pI N o 9 (N.1 o 8)) (o + 1) ((mz_pI N o 9 (N.1 o 8)).1 o 8)) trivial hq) ?_
    refine g_zeq (tg := 86) rfl ms_24_86 hC (fun h4 hC => ?_) (fun h4 hC => ?_)
    · have hp := hp.1 h4
      refine g_aload_n rfl ?_
      have h5 := hp
      refine g_v1v (Nat.le_of_ble_eq_true rfl) (mz_at hS (mz_oL0 ho (Nat.le_of_ble_eq_true rfl)) (mz_oA0 ho)) (fun _ hq => cs_26 (Nat.le_trans (Nat.le_of_ble_eq_true rfl) hd) (hS.le (Nat.le_of_ble_eq_true rfl)) (hR.le (Nat.le_of_ble_eq_true rfl)) o ho (mz_pI N o 9 (N.1 o 8)) h5 hq) ?_
      exact g_zret (z := ((cf_26_0 o (mz_pI N o 9 (N.1 o 8))).1)) rfl (hr _ _ hC)
    · have hp := hp.2 h4
      refine g_iload_n rfl ?_
      obtain ⟨h6, hp⟩ := hp
      refine g_s1v (Nat.le_of_ble_eq_true rfl) (fun _ hq => cs_28 (Nat.le_trans (Nat.le_of_ble_eq_true rfl) hd) (hS.le (Nat.le_of_ble_eq_true rfl)) (hR.le (Nat.le_of_ble_eq_true rfl))  (mz_gI (mz_pI N o 9 (N.1 o 8)) (o + 1) ((mz_pI N o 9 (N.1 o 8)).1 o 8)) h6 hq) ?_
      refine g_zeq (tg := 99) rfl ms_24_99 hC (fun h7 hC => ?_) (fun h7 hC => ?_)
      · have hp := hp.1 h7
        refine g_aload_n rfl ?_
        have h8 := hp
        refine g_v1n (Nat.le_of_ble_eq_true rfl) (mz_at hS (mz_oL0 ho (Nat.le_of_ble_eq_true rfl)) (mz_oA0 ho)) (fun _ hq => cs_29 (Nat.le_trans (Nat.le_of_ble_eq_true rfl) hd) (hS.le (Nat.le_of_ble_eq_true rfl)) (hR.le (Nat.le_of_ble_eq_true rfl)) o ho (mz_pI N o 9 (N.1 o 8)) h8 hq) (g_iconst mzi_1 ?_)
        exact g_zret (z := true) rfl (hr _ _ hC)
      · have hp := hp.2 h7
        refine g_str (g_iload_n rfl (g_i2c (g_idx rfl (Nat.le_of_ble_eq_true rfl) ?_)))
        refine g_ifge (tg := 115) rfl ms_24_115 hC (fun h9 hC => ?_) (fun h9 hC => ?_)
        · refine g_aload_n rfl (g_iconst mzi_1 ?_)
          refine g_v2v (Nat.le_of_ble_eq_true rfl) (mz_at hS (mz_oL0 ho (Nat.le_of_ble_eq_true rfl)) (mz_oA0 ho)) (fun _ hq => cs_27 (Nat.le_trans (Nat.le_of_ble_eq_true rfl) hd) (hS.le (Nat.le_of_ble_eq_true rfl)) (hR.le (Nat.le_of_ble_eq_true rfl)) o ho 1 (mz_pI N o 9 (N.1 o 8)) trivial hq) ?_
          exact g_zret (z := ((cf_27_0 o 1 (mz_pI N o 9 (N.1 o 8))).1)) rfl (hr _ _ hC)
        · refine g_aload_n rfl (g_iload_n rfl (g_putI (mz_at hS (mz_oL0 ho (Nat.le_of_ble_eq_true rfl)) (mz_oA0 ho)) mzcf_7_10 (g_aload_n rfl (g_dup rfl (g_getI (mz_at hS (mz_oL0 ho (Nat.le_of_ble_eq_true rfl)) (mz_oA0 ho)) mzcf_7_8 (g_iconst mzi_1 (g_iadd ?_)))))))
          refine g_putI (mz_at hS (mz_oL0 ho (Nat.le_of_ble_eq_true rfl)) (mz_oA0 ho)) mzcf_7_8 (g_iconst mzi_1 ?_)
          exact g_zret (z := true) rfl (hr _ _ hC)
  · have hp := hp.2 h1
    refine g_aload_n rfl (g_iconst mzi_0 (g_putI (mz_at hS (mz_oL0 ho (Nat.le_of_ble_eq_true rfl)) (mz_oA0 ho)) mzcf_7_10 (g_iconst mzi_1 ?_)))
    exact g_zret (z := true) rfl (hr _ _ hC)
theorem cb_24_0 (hd : 2 ≤ d) (hS : mz_extR S 232) (hR : mz_rok R 232) (o : Nat) (ho : o = 43 ∨ o = 48)  (s : mz_N) {C0 : (Bool × mz_N) → Prop} (hr : ∀ (w : Bool) (N2 : mz_N), C0 (w, N2) → Q (.inl (some (.int (mz_b01 w)))) (mz_k S R N2 b t)) {C1 : ((mz_N) ⊕ (Bool × mz_N)) → Prop} (hc1 : ∀ s2, C1 (.inl s2) → mz_G (d, mz_X0 L xs, some .boolean, [], mk_24, 2, Q) 0 mk_24 [(0, .ref o)] [] false (mz_k S R s2 b t)) (hx1 : ∀ z, C1 (.inr z) → C0 z) (hp : cd_24_0 o s) (hC : C1 (cq_24_0 o s)) : mz_G (d, mz_X0 L xs, some .boolean, [], mk_24, 2, Q) 0 mk_24 [(0, .ref o)] [] false (mz_k S R s b t) := by
  unfold cq_24_0 at hC
  unfold cd_24_0 at hp
  refine g_aload_n rfl (g_getI (mz_at hS (mz_oL0 ho (Nat.le_of_ble_eq_true rfl)) (mz_oA0 ho)) mzcf_7_8 (g_aload_n rfl (g_getI (mz_at hS (mz_oL0 ho (Nat.le_of_ble_eq_true rfl)) (mz_oA0 ho)) mzcf_7_1 ?_)))
  refine g_icge (tg := 38) rfl ms_24_38 hC (fun h1 hC => ?_) (fun h1 hC => ?_)
  · have hp := hp.1 h1
    refine g_aload_n rfl (g_getR (mz_at hS (mz_oL0 ho (Nat.le_of_ble_eq_true rfl)) (mz_oA0 ho)) mzcf_7_0 (mz_rb hR (mz_oL0 ho (Nat.le_of_ble_eq_true rfl)) (mz_o41 ho) (mz_oR1 ho)) (g_aload_n rfl (g_getI (mz_at hS (mz_oL0 ho (Nat.le_of_ble_eq_true rfl)) (mz_oA0 ho)) mzcf_7_8 ?_)))
    obtain ⟨h2, hp⟩ := hp
    refine g_iald hS.1 (mz_at hS (mz_oL1 ho (Nat.le_of_ble_eq_true rfl)) (mz_oA1 ho)) h2 (g_bipush mzb_32 ?_)
    refine g_icne (tg := 38) rfl ms_24_38 hC (fun h3 hC => ?_) (fun h3 hC => ?_)
    · have hp := hp.1 h3
      refine g_aload_n rfl (g_dup rfl (g_getI (mz_at hS (mz_oL0 ho (Nat.le_of_ble_eq_true rfl)) (mz_oA0 ho)) mzcf_7_8 (g_iconst mzi_1 (g_iadd (g_putI (mz_at hS (mz_oL0 ho (Nat.le_of_ble_eq_true rfl)) (mz_oA0 ho)) mzcf_7_8 (g_goto (tg := 0) rfl ms_24_0 ?_))))))
      refine g_weak ?_ (g_cl (hc1 (mz_pI s o 8 ((s.1 o 8) + 1)) hC))
      exact ⟨rfl, trivial⟩
    · have hp := hp.2 h3
      refine g_weak ?_ (g_cl (cg_24_38 hd hS hR o ho s hr hp (hx1 _ hC)))
      exact ⟨rfl, trivial⟩
  · have hp := hp.2 h1
    refine g_weak ?_ (g_cl (cg_24_38 hd hS hR o ho s hr hp (hx1 _ hC)))
    exact ⟨rfl, trivial⟩
theorem cg_24_0 (hd : 2 ≤ d) (hS : mz_extR S 232) (hR : mz_rok R 232) (o : Nat) (ho : o = 43 ∨ o = 48) (N : mz_N) {C0 : (Bool × mz_N) → Prop} (hr : ∀ (w : Bool) (N2 : mz_N), C0 (w, N2) → Q (.inl (some (.int (mz_b01 w)))) (mz_k S R N2 b t)) (hp : cp_24_0 o N) (hC : C0 (cf_24_0 o N)) : mz_G (d, mz_X0 L xs, some .boolean, [], mk_24, 2, Q) 0 mk_24 [(0, .ref o)] [] false (mz_k S R N b t) := by
  obtain ⟨n, hn⟩ := hp
  exact g_loop (G := fun s => mz_G (d, mz_X0 L xs, some .boolean, [], mk_24, 2, Q) 0 mk_24 [(0, .ref o)] [] false (mz_k S R s b t)) (C := C0) (fun C2 hc hx s hP hC => cb_24_0 hd hS hR o ho s hr hc hx hP hC) n (N) hn hC
theorem cs_24 (hd : 3 ≤ d) (hS : mz_extR S 232) (hR : mz_rok R 232) (o : Nat) (ho : o = 43 ∨ o = 48) (N : mz_N) (hp : cp_24_0 o N) (hq : Q (.inl (some (.int (mz_b01 ((cf_24_0 o N).1))))) (mz_k S R ((cf_24_0 o N).2) b t)) : mz_Ed (mz_X0 L xs) d 24 [.ref o] (mz_k S R N b t) Q :=
  by
  refine g_in mzq_24 (Nat.le_of_ble_eq_true rfl) (Nat.le_of_ble_eq_true rfl) (Nat.le_trans (Nat.le_of_ble_eq_true rfl) hd) ?_
  refine g_weak ?_ (g_cl (cg_24_0 (d := d - 1) (by omega) hS hR o ho N (C0 := fun z => Q (.inl (some (.int (mz_b01 z.1)))) (mz_k S R z.2 b t)) (fun _ _ h => h) hp hq))
  exact ⟨rfl, trivial⟩
/-! 32 KeptHouse$Reader.readTarget ()Z -/
theorem ms_32_0 : mz_sf mk_32 0 = mk_32 := mz_sf_zero _
theorem ms_32_16 : mz_sf mk_32 16 = mt_32_16 := mz_sf_add ms_32_0 (t := 16) rfl rfl
theorem ms_32_30 : mz_sf mk_32 30 = mt_32_30 := mz_sf_add ms_32_16 (t := 14) rfl rfl
theorem ms_32_47 : mz_sf mk_32 47 = mt_32_47 := mz_sf_add ms_32_30 (t := 17) rfl rfl
theorem ms_32_53 : mz_sf mk_32 53 = mt_32_53 := mz_sf_add ms_32_47 (t := 6) rfl rfl
theorem ms_32_76 : mz_sf mk_32 76 = mt_32_76 := mz_sf_add ms_32_53 (t := 23) rfl rfl
set_option maxRecDepth 100000 in
theorem mzq_32 : mz_PG0 32 = some (7, ⟨"KeptHouse$Reader", "readTarget", "()Z"⟩, prog_9_method_12_code, 1, some .boolean, [], mk_32, []) := rfl
theorem cg_32_76 (hd : 1 ≤ d) (hS : mz_extR S 232) (hR : mz_rok R 232) (o : Nat) (ho : o = 43 ∨ o = 48) (N : mz_N) {C0 : (Bool × mz_N) → Prop} (hr : ∀ (w : Bool) (N2 : mz_N), C0 (w, N2) → Q (.inl (some (.int (mz_b01 w)))) (mz_k S R N2 b t)) (hp : cp_32_76 o N) (hC : C0 (cf_32_76 o N)) : mz_G (d, mz_X0 L xs, some .boolean, [], mk_32, 1, Q) 76 mt_32_76 [] [] false (mz_k S R N b t) := by
  unfold cf_32_76 at hC
  unfold cp_32_76 at hp
  refine g_iconst mzi_1 ?_
  exact g_zret (z := true) rfl (hr _ _ hC)
theorem cg_32_47 (hd : 1 ≤ d) (hS : mz_extR S 232) (hR : mz_rok R 232) (o : Nat) (ho : o = 43 ∨ o = 48) (N : mz_N) {C0 : (Bool × mz_N) → Prop} (hr : ∀ (w : Bool) (N2 : mz_N), C0 (w, N2) → Q (.inl (some (.int (mz_b01 w)))) (mz_k S R N2 b t)) (hp : cp_32_47 o N) (hC : C0 (cf_32_47 o N)) : mz_G (d, mz_X0 L xs, some .boolean, [], mk_32, 1, Q) 47 mt_32_47 [(0, .ref o)] [] true (mz_k S R N b t) := by
  unfold cf_32_47 at hC
  unfold cp_32_47 at hp
  refine g_aload_n rfl (g_iconst mzi_3 ?_)
  refine g_v2v (Nat.le_of_ble_eq_true rfl) (mz_at hS (mz_oL0 ho (Nat.le_of_ble_eq_true rfl)) (mz_oA0 ho)) (fun _ hq => cs_27 (Nat.le_trans (Nat.le_of_ble_eq_true rfl) hd) (hS.le (Nat.le_of_ble_eq_true rfl)) (hR.le (Nat.le_of_ble_eq_true rfl)) o ho 3 N trivial hq) ?_
  exact g_zret (z := ((cf_27_0 o 3 N).1)) rfl (hr _ _ hC)
theorem cg_32_0 (hd : 1 ≤ d) (hS : mz_extR S 232) (hR : mz_rok R 232) (o : Nat) (ho : o = 43 ∨ o = 48) (N : mz_N) {C0 : (Bool × mz_N) → Prop} (hr : ∀ (w : Bool) (N2 : mz_N), C0 (w, N2) → Q (.inl (some (.int (mz_b01 w)))) (mz_k S R N2 b t)) (hp : cp_32_0 o N) (hC : C0 (cf_32_0 o N)) : mz_G (d, mz_X0 L xs, some .boolean, [], mk_32, 1, Q) 0 mk_32 [(0, .ref o)] [] true (mz_k S R N b t) := by
  unfold cf_32_0 at hC
  unfold cp_32_0 at hp
  refine g_aload_n rfl (g_getI (mz_at hS (mz_oL0 ho (Nat.le_of_ble_eq_true rfl)) (mz_oA0 ho)) mzcf_7_5 (g_bipush mzb_12 ?_))
  refine g_iclt (tg := 16) rfl ms_32_16 hC (fun h1 hC => ?_) (fun h1 hC => ?_)
  · have hp := hp.1 h1
    refine g_aload_n rfl (g_getI (mz_at hS (mz_oL0 ho (Nat.le_of_ble_eq_true rfl)) (mz_oA0 ho)) mzcf_7_10 (g_iconst mzi_2 ?_))
    refine g_iceq (tg := 30) rfl ms_32_30 hC (fun h2 hC => ?_) (fun h2 hC => ?_)
    · have hp := hp.1 h2
      refine g_aload_n rfl (g_getI (mz_at hS (mz_oL0 ho (Nat.le_of_ble_eq_true rfl)) (mz_oA0 ho)) mzcf_7_11 (g_iconst mzi_m1 ?_))
      refine g_iceq (tg := 47) rfl ms_32_47 hC (fun h3 hC => ?_) (fun h3 hC => ?_)
      · have hp := hp.1 h3
        refine g_weak ?_ (cg_32_47 hd hS hR o ho N hr hp hC)
        exact ⟨rfl, trivial⟩
      · have hp := hp.2 h3
        refine g_aload_n rfl (g_getI (mz_at hS (mz_oL0 ho (Nat.le_of_ble_eq_true rfl)) (mz_oA0 ho)) mzcf_7_11 (g_bipush mzb_16 ?_))
        refine g_iclt (tg := 53) rfl ms_32_53 hC (fun h4 hC => ?_) (fun h4 hC => ?_)
        · have hp := hp.1 h4
          refine g_aload_n rfl (g_aload_n rfl (g_getI (mz_at hS (mz_oL0 ho (Nat.le_of_ble_eq_true rfl)) (mz_oA0 ho)) mzcf_7_11 (g_putI (mz_at hS (mz_oL0 ho (Nat.le_of_ble_eq_true rfl)) (mz_oA0 ho)) mzcf_7_13 (g_aload_n rfl (g_dup rfl (g_getI (mz_at hS (mz_oL0 ho (Nat.le_of_ble_eq_true rfl)) (mz_oA0 ho)) mzcf_7_5 (g_iconst mzi_1 ?_)))))))
          refine g_iadd (g_putI (mz_at hS (mz_oL0 ho (Nat.le_of_ble_eq_true rfl)) (mz_oA0 ho)) mzcf_7_5 (g_aload_n rfl (g_iconst mzi_1 (g_putI (mz_at hS (mz_oL0 ho (Nat.le_of_ble_eq_true rfl)) (mz_oA0 ho)) mzcf_7_12 ?_))))
          refine g_weak ?_ (g_cl (cg_32_76 hd hS hR o ho (mz_pI (mz_pI (mz_pI N o 13 (N.1 o 11)) o 5 (((mz_pI N o 13 (N.1 o 11)).1 o 5) + 1)) o 12 1) hr hp hC))
          exact trivial
        · have hp := hp.2 h4
          refine g_weak ?_ (cg_32_47 hd hS hR o ho N hr hp hC)
          exact ⟨rfl, trivial⟩
    · have hp := hp.2 h2
      refine g_aload_n rfl (g_iconst mzi_2 ?_)
      refine g_v2v (Nat.le_of_ble_eq_true rfl) (mz_at hS (mz_oL0 ho (Nat.le_of_ble_eq_true rfl)) (mz_oA0 ho)) (fun _ hq => cs_27 (Nat.le_trans (Nat.le_of_ble_eq_true rfl) hd) (hS.le (Nat.le_of_ble_eq_true rfl)) (hR.le (Nat.le_of_ble_eq_true rfl)) o ho 2 N trivial hq) ?_
      exact g_zret (z := ((cf_27_0 o 2 N).1)) rfl (hr _ _ hC)
  · have hp := hp.2 h1
    refine g_aload_n rfl (g_bipush mzb_6 ?_)
    refine g_v2v (Nat.le_of_ble_eq_true rfl) (mz_at hS (mz_oL0 ho (Nat.le_of_ble_eq_true rfl)) (mz_oA0 ho)) (fun _ hq => cs_27 (Nat.le_trans (Nat.le_of_ble_eq_true rfl) hd) (hS.le (Nat.le_of_ble_eq_true rfl)) (hR.le (Nat.le_of_ble_eq_true rfl)) o ho 6 N trivial hq) ?_
    exact g_zret (z := ((cf_27_0 o 6 N).1)) rfl (hr _ _ hC)
theorem cs_32 (hd : 2 ≤ d) (hS : mz_extR S 232) (hR : mz_rok R 232) (o : Nat) (ho : o = 43 ∨ o = 48) (N : mz_N) (hp : cp_32_0 o N) (hq : Q (.inl (some (.int (mz_b01 ((cf_32_0 o N).1))))) (mz_k S R ((cf_32_0 o N).2) b t)) : mz_Ed (mz_X0 L xs) d 32 [.ref o] (mz_k S R N b t) Q :=
  by
  refine g_in mzq_32 (Nat.le_of_ble_eq_true rfl) (Nat.le_of_ble_eq_true rfl) (Nat.le_trans (Nat.le_of_ble_eq_true rfl) hd) ?_
  refine g_weak ?_ (cg_32_0 (d := d - 1) (by omega) hS hR o ho N (C0 := fun z => Q (.inl (some (.int (mz_b01 z.1)))) (mz_k S R z.2 b t)) (fun _ _ h => h) hp hq)
  exact ⟨rfl, trivial⟩
/-! 33 KeptHouse$Reader.readEquals ()Z -/
theorem ms_33_0 : mz_sf mk_33 0 = mk_33 := mz_sf_zero _
theorem ms_33_22 : mz_sf mk_33 22 = mt_33_22 := mz_sf_add ms_33_0 (t := 22) rfl rfl
theorem ms_33_26 : mz_sf mk_33 26 = mt_33_26 := mz_sf_add ms_33_22 (t := 4) rfl rfl
theorem ms_33_27 : mz_sf mk_33 27 = mt_33_27 := mz_sf_add ms_33_26 (t := 1) rfl rfl
set_option maxRecDepth 100000 in
theorem mzq_33 : mz_PG0 33 = some (7, ⟨"KeptHouse$Reader", "readEquals", "()Z"⟩, prog_9_method_13_code, 1, some .boolean, [], mk_33, []) := rfl
theorem cg_33_0 (hd : 1 ≤ d) (hS : mz_extR S 232) (hR : mz_rok R 232) (o : Nat) (ho : o = 43 ∨ o = 48) (N : mz_N) {C0 : (Bool × mz_N) → Prop} (hr : ∀ (w : Bool) (N2 : mz_N), C0 (w, N2) → Q (.inl (some (.int (mz_b01 w)))) (mz_k S R N2 b t)) (hp : cp_33_0 o N) (hC : C0 (cf_33_0 o N)) : mz_G (d, mz_X0 L xs, some .boolean, [], mk_33, 1, Q) 0 mk_33 [(0, .ref o)] [] true (mz_k S R N b t) := by
  unfold cf_33_0 at hC
  unfold cp_33_0 at hp
  refine g_aload_n rfl (g_iconst mzi_2 (g_putI (mz_at hS (mz_oL0 ho (Nat.le_of_ble_eq_true rfl)) (mz_oA0 ho)) mzcf_7_12 (g_aload_n rfl (g_getI (mz_at hS (mz_oL0 ho (Nat.le_of_ble_eq_true rfl)) (mz_oA0 ho)) mzcf_7_10 (g_bipush mzb_61 ?_)))))
  refine g_iceq (tg := 22) rfl ms_33_22 hC (fun h1 hC => ?_) (fun h1 hC => ?_)
  · refine g_iconst mzi_1 (g_goto (tg := 27) rfl ms_33_27 ?_)
    exact g_zret (z := true) rfl (hr _ _ hC)
  · refine g_aload_n rfl (g_iconst mzi_2 ?_)
    refine g_v2v (Nat.le_of_ble_eq_true rfl) (mz_at hS (mz_oL0 ho (Nat.le_of_ble_eq_true rfl)) (mz_oA0 ho)) (fun _ hq => cs_27 (Nat.le_trans (Nat.le_of_ble_eq_true rfl) hd) (hS.le (Nat.le_of_ble_eq_true rfl)) (hR.le (Nat.le_of_ble_eq_true rfl)) o ho 2 (mz_pI N o 12 2) trivial hq) ?_
    refine g_zeq (tg := 26) rfl ms_33_26 hC (fun h3 hC => ?_) (fun h3 hC => ?_)
    · refine g_iconst mzi_1 (g_goto (tg := 27) rfl ms_33_27 ?_)
      exact g_zret (z := true) rfl (hr _ _ hC)
    · refine g_iconst mzi_0 ?_
      exact g_zret (z := false) rfl (hr _ _ hC)
theorem cs_33 (hd : 2 ≤ d) (hS : mz_extR S 232) (hR : mz_rok R 232) (o : Nat) (ho : o = 43 ∨ o = 48) (N : mz_N) (hp : cp_33_0 o N) (hq : Q (.inl (some (.int (mz_b01 ((cf_33_0 o N).1))))) (mz_k S R ((cf_33_0 o N).2) b t)) : mz_Ed (mz_X0 L xs) d 33 [.ref o] (mz_k S R N b t) Q :=
  by
  refine g_in mzq_33 (Nat.le_of_ble_eq_true rfl) (Nat.le_of_ble_eq_true rfl) (Nat.le_trans (Nat.le_of_ble_eq_true rfl) hd) ?_
  refine g_weak ?_ (cg_33_0 (d := d - 1) (by omega) hS hR o ho N (C0 := fun z => Q (.inl (some (.int (mz_b01 z.1)))) (mz_k S R z.2 b t)) (fun _ _ h => h) hp hq)
  exact ⟨rfl, trivial⟩
/-! 35 KeptHouse$Reader.addStep (II)V -/
theorem ms_35_0 : mz_sf mk_35 0 = mk_35 := mz_sf_zero _
theorem ms_35_30 : mz_sf mk_35 30 = mt_35_30 := mz_sf_add ms_35_0 (t := 30) rfl rfl
theorem ms_35_40 : mz_sf mk_35 40 = mt_35_40 := mz_sf_add ms_35_30 (t := 10) rfl rfl
set_option maxRecDepth 100000 in
theorem mzq_35 : mz_PG0 35 = some (7, ⟨"KeptHouse$Reader", "addStep", "(II)V"⟩, prog_9_method_11_code, 3, none, [], mk_35, []) := rfl
theorem cg_35_30 (hd : 0 ≤ d) (hS : mz_extR S 232) (hR : mz_rok R 232) (o : Nat) (ho : o = 43 ∨ o = 48) (N : mz_N) {C0 : (mz_N) → Prop} (hr : ∀ (N2 : mz_N), C0 N2 → Q (.inl none) (mz_k S R N2 b t)) (hp : cp_35_30 o N) (hC : C0 (cf_35_30 o N)) : mz_G (d, mz_X0 L xs, none, [], mk_35, 3, Q) 30 mt_35_30 [(0, .ref o)] [] false (mz_k S R N b t) := by
  unfold cf_35_30 at hC
  unfold cp_35_30 at hp
  refine g_aload_n rfl (g_dup rfl (g_getI (mz_at hS (mz_oL0 ho (Nat.le_of_ble_eq_true rfl)) (mz_oA0 ho)) mzcf_7_4 (g_iconst mzi_1 (g_iadd (g_putI (mz_at hS (mz_oL0 ho (Nat.le_of_ble_eq_true rfl)) (mz_oA0 ho)) mzcf_7_4 ?_)))))
  exact g_vret rfl (hr _ hC)
theorem cg_35_0 (hd : 0 ≤ d) (hS : mz_extR S 232) (hR : mz_rok R 232) (o : Nat) (ho : o = 43 ∨ o = 48) (v1 : Int32) (v2 : Int32) (N : mz_N) {C0 : (mz_N) → Prop} (hr : ∀ (N2 : mz_N), C0 N2 → Q (.inl none) (mz_k S R N2 b t)) (hp : cp_35_0 o v1 v2 N) (hC : C0 (cf_35_0 o v1 v2 N)) : mz_G (d, mz_X0 L xs, none, [], mk_35, 3, Q) 0 mk_35 [(0, .ref o), (1, .int v1), (2, .int v2)] [] true (mz_k S R N b t) := by
  unfold cf_35_0 at hC
  unfold cp_35_0 at hp
  refine g_aload_n rfl (g_getI (mz_at hS (mz_oL0 ho (Nat.le_of_ble_eq_true rfl)) (mz_oA0 ho)) mzcf_7_4 (g_sipush mzs_196 ?_))
  refine g_icge (tg := 40) rfl ms_35_40 hC (fun h1 hC => ?_) (fun h1 hC => ?_)
  · have hp := hp.1 h1
    refine g_aload_n rfl (g_getR (mz_at hS (mz_oL0 ho (Nat.le_of_ble_eq_true rfl)) (mz_oA0 ho)) mzcf_7_2 (mz_rb hR (mz_oL0 ho (Nat.le_of_ble_eq_true rfl)) (mz_o41 ho) (mz_oR2 ho)) (g_aload_n rfl (g_getI (mz_at hS (mz_oL0 ho (Nat.le_of_ble_eq_true rfl)) (mz_oA0 ho)) mzcf_7_4 (g_iload_n rfl ?_))))
    obtain ⟨h2, hp⟩ := hp
    refine g_iast (mz_at hS (mz_oL2 ho (Nat.le_of_ble_eq_true rfl)) (mz_oA2 ho)) h2 (g_aload_n rfl (g_getR (mz_at hS (mz_oL0 ho (Nat.le_of_ble_eq_true rfl)) (mz_oA0 ho)) mzcf_7_3 (mz_rb hR (mz_oL0 ho (Nat.le_of_ble_eq_true rfl)) (mz_o41 ho) (mz_oR3 ho)) (g_aload_n rfl (g_getI (mz_at hS (mz_oL0 ho (Nat.le_of_ble_eq_true rfl)) (mz_oA0 ho)) mzcf_7_4 (g_iload_n rfl ?_)))))
    obtain ⟨h3, hp⟩ := hp
    refine g_iast (mz_at hS (mz_oL3 ho (Nat.le_of_ble_eq_true rfl)) (mz_oA3 ho)) h3 ?_
    refine g_weak ?_ (g_cl (cg_35_30 hd hS hR o ho (mz_wI (mz_wI N (o + 2) (N.1 o 4) v1) (o + 3) ((mz_wI N (o + 2) (N.1 o 4) v1).1 o 4) v2) hr hp hC))
    exact ⟨rfl, trivial⟩
  · have hp := hp.2 h1
    exact g_vret rfl (hr _ hC)
theorem cs_35 (hd : 1 ≤ d) (hS : mz_extR S 232) (hR : mz_rok R 232) (o : Nat) (ho : o = 43 ∨ o = 48) (v1 : Int32) (v2 : Int32) (N : mz_N) (hp : cp_35_0 o v1 v2 N) (hq : Q (.inl none) (mz_k S R (cf_35_0 o v1 v2 N) b t)) : mz_Ed (mz_X0 L xs) d 35 [.ref o, .int v1, .int v2] (mz_k S R N b t) Q :=
  by
  refine g_in mzq_35 (Nat.le_of_ble_eq_true rfl) (Nat.le_of_ble_eq_true rfl) (Nat.le_trans (Nat.le_of_ble_eq_true rfl) hd) ?_
  refine g_weak ?_ (cg_35_0 (d := d - 1) (by omega) hS hR o ho v1 v2 N (C0 := fun z => Q (.inl none) (mz_k S R z b t)) (fun _ h => h) hp hq)
  exact ⟨rfl, rfl, rfl, trivial⟩
/-! 37 KeptHouse$Reader.latest ()I -/
theorem ms_37_0 : mz_sf mk_37 0 = mk_37 := mz_sf_zero _
theorem ms_37_21 : mz_sf mk_37 21 = mt_37_21 := mz_sf_add ms_37_0 (t := 21) rfl rfl
theorem ms_37_22 : mz_sf mk_37 22 = mt_37_22 := mz_sf_add ms_37_21 (t := 1) rfl rfl
set_option maxRecDepth 100000 in
theorem mzq_37 : mz_PG0 37 = some (7, ⟨"KeptHouse$Reader", "latest", "()I"⟩, prog_9_method_17_code, 1, some .int, [], mk_37, []) := rfl
theorem cg_37_0 (hd : 0 ≤ d) (hS : mz_extR S 232) (hR : mz_rok R 232) (o : Nat) (ho : o = 43 ∨ o = 48) (N : mz_N) {C0 : (Int32) → Prop} (hr : ∀ (w : Int32), C0 w → Q (.inl (some (.int w))) (mz_k S R N b t)) (hp : cp_37_0 o N) (hC : C0 (cf_37_0 o N)) : mz_G (d, mz_X0 L xs, some .int, [], mk_37, 1, Q) 0 mk_37 [(0, .ref o)] [] true (mz_k S R N b t) := by
  unfold cf_37_0 at hC
  unfold cp_37_0 at hp
  refine g_aload_n rfl (g_getI (mz_at hS (mz_oL0 ho (Nat.le_of_ble_eq_true rfl)) (mz_oA0 ho)) mzcf_7_15 ?_)
  refine g_ifle (tg := 21) rfl ms_37_21 hC (fun h1 hC => ?_) (fun h1 hC => ?_)
  · have hp := hp.1 h1
    refine g_aload_n rfl (g_getR (mz_at hS (mz_oL0 ho (Nat.le_of_ble_eq_true rfl)) (mz_oA0 ho)) mzcf_7_14 (mz_rb hR (mz_oL0 ho (Nat.le_of_ble_eq_true rfl)) (mz_o41 ho) (mz_oR4 ho)) (g_aload_n rfl (g_getI (mz_at hS (mz_oL0 ho (Nat.le_of_ble_eq_true rfl)) (mz_oA0 ho)) mzcf_7_15 (g_iconst mzi_1 (g_isub ?_)))))
    have h2 := hp
    refine g_iald hS.1 (mz_at hS (mz_oL4 ho (Nat.le_of_ble_eq_true rfl)) (mz_oA4 ho)) h2 (g_goto (tg := 22) rfl ms_37_22 ?_)
    exact g_iret rfl (hr _ hC)
  · have hp := hp.2 h1
    refine g_iconst mzi_m1 ?_
    exact g_iret rfl (hr _ hC)
theorem cs_37 (hd : 1 ≤ d) (hS : mz_extR S 232) (hR : mz_rok R 232) (o : Nat) (ho : o = 43 ∨ o = 48) (N : mz_N) (hp : cp_37_0 o N) (hq : Q (.inl (some (.int (cf_37_0 o N)))) (mz_k S R N b t)) : mz_Ed (mz_X0 L xs) d 37 [.ref o] (mz_k S R N b t) Q :=
  by
  refine g_in mzq_37 (Nat.le_of_ble_eq_true rfl) (Nat.le_of_ble_eq_true rfl) (Nat.le_trans (Nat.le_of_ble_eq_true rfl) hd) ?_
  refine g_weak ?_ (cg_37_0 (d := d - 1) (by omega) hS hR o ho N (C0 := fun z => Q (.inl (some (.int z))) (mz_k S R N b t)) (fun _ h => h) hp hq)
  exact ⟨rfl, trivial⟩
/-! 36 KeptHouse$Reader.endFactor ()V -/
theorem ms_36_0 : mz_sf mk_36 0 = mk_36 := mz_sf_zero _
theorem ms_36_31 : mz_sf mk_36 31 = mt_36_31 := mz_sf_add ms_36_0 (t := 31) rfl rfl
theorem ms_36_44 : mz_sf mk_36 44 = mt_36_44 := mz_sf_add ms_36_31 (t := 13) rfl rfl
set_option maxRecDepth 100000 in
theorem mzq_36 : mz_PG0 36 = some (7, ⟨"KeptHouse$Reader", "endFactor", "()V"⟩, prog_9_method_18_code, 1, none, [], mk_36, []) := rfl
theorem cg_36_44 (hd : 1 ≤ d) (hS : mz_extR S 232) (hR : mz_rok R 232) (o : Nat) (ho : o = 43 ∨ o = 48) (N : mz_N) {C0 : (mz_N) → Prop} (hr : ∀ (N2 : mz_N), C0 N2 → Q (.inl none) (mz_k S R N2 b t)) (hp : cp_36_44 o N) (hC : C0 (cf_36_44 o N)) : mz_G (d, mz_X0 L xs, none, [], mk_36, 1, Q) 44 mt_36_44 [(0, .ref o)] [] false (mz_k S R N b t) := by
  unfold cf_36_44 at hC
  unfold cp_36_44 at hp
  refine g_aload_n rfl (g_iconst mzi_3 (g_putI (mz_at hS (mz_oL0 ho (Nat.le_of_ble_eq_true rfl)) (mz_oA0 ho)) mzcf_7_12 ?_))
  exact g_vret rfl (hr _ hC)
theorem cb_36_0 (hd : 1 ≤ d) (hS : mz_extR S 232) (hR : mz_rok R 232) (o : Nat) (ho : o = 43 ∨ o = 48)  (s : mz_N) {C0 : (mz_N) → Prop} (hr : ∀ (N2 : mz_N), C0 N2 → Q (.inl none) (mz_k S R N2 b t)) {C1 : ((mz_N) ⊕ (mz_N)) → Prop} (hc1 : ∀ s2, C1 (.inl s2) → mz_G (d, mz_X0 L xs, none, [], mk_36, 1, Q) 0 mk_36 [(0, .ref o)] [] false (mz_k S R s2 b t)) (hx1 : ∀ z, C1 (.inr z) → C0 z) (hp : cd_36_0 o s) (hC : C1 (cq_36_0 o s)) : mz_G (d, mz_X0 L xs, none, [], mk_36, 1, Q) 0 mk_36 [(0, .ref o)] [] false (mz_k S R s b t) := by
  unfold cq_36_0 at hC
  unfold cd_36_0 at hp
  refine g_aload_n rfl (g_getI (mz_at hS (mz_oL0 ho (Nat.le_of_ble_eq_true rfl)) (mz_oA0 ho)) mzcf_7_15 ?_)
  refine g_ifle (tg := 44) rfl ms_36_44 hC (fun h1 hC => ?_) (fun h1 hC => ?_)
  · have hp := hp.1 h1
    refine g_aload_n rfl ?_
    obtain ⟨h2, hp⟩ := hp
    refine g_v1v (Nat.le_of_ble_eq_true rfl) (mz_at hS (mz_oL0 ho (Nat.le_of_ble_eq_true rfl)) (mz_oA0 ho)) (fun _ hq => cs_37 (Nat.le_trans (Nat.le_of_ble_eq_true rfl) hd) (hS.le (Nat.le_of_ble_eq_true rfl)) (hR.le (Nat.le_of_ble_eq_true rfl)) o ho s h2 hq) (g_iconst mzi_3 ?_)
    refine g_icne (tg := 44) rfl ms_36_44 hC (fun h3 hC => ?_) (fun h3 hC => ?_)
    · have hp := hp.1 h3
      refine g_aload_n rfl (g_iconst mzi_3 (g_iconst mzi_0 ?_))
      have h4 := hp
      refine g_v3n (Nat.le_of_ble_eq_true rfl) (mz_at hS (mz_oL0 ho (Nat.le_of_ble_eq_true rfl)) (mz_oA0 ho)) (fun _ hq => cs_35 (Nat.le_trans (Nat.le_of_ble_eq_true rfl) hd) (hS.le (Nat.le_of_ble_eq_true rfl)) (hR.le (Nat.le_of_ble_eq_true rfl)) o ho 3 0 s h4 hq) (g_aload_n rfl (g_dup rfl (g_getI (mz_at hS (mz_oL0 ho (Nat.le_of_ble_eq_true rfl)) (mz_oA0 ho)) mzcf_7_16 (g_iconst mzi_1 (g_isub (g_putI (mz_at hS (mz_oL0 ho (Nat.le_of_ble_eq_true rfl)) (mz_oA0 ho)) mzcf_7_16 (g_aload_n rfl ?_)))))))
      refine g_dup rfl (g_getI (mz_at hS (mz_oL0 ho (Nat.le_of_ble_eq_true rfl)) (mz_oA0 ho)) mzcf_7_15 (g_iconst mzi_1 (g_isub (g_putI (mz_at hS (mz_oL0 ho (Nat.le_of_ble_eq_true rfl)) (mz_oA0 ho)) mzcf_7_15 (g_goto (tg := 0) rfl ms_36_0 ?_)))))
      refine g_weak ?_ (g_cl (hc1 (mz_pI (mz_pI (cf_35_0 o 3 0 s) o 16 (((cf_35_0 o 3 0 s).1 o 16) - 1)) o 15 (((mz_pI (cf_35_0 o 3 0 s) o 16 (((cf_35_0 o 3 0 s).1 o 16) - 1)).1 o 15) - 1)) hC))
      exact ⟨rfl, trivial⟩
    · have hp := hp.2 h3
      refine g_weak ?_ (g_cl (cg_36_44 hd hS hR o ho s hr hp (hx1 _ hC)))
      exact ⟨rfl, trivial⟩
  · have hp := hp.2 h1
    refine g_weak ?_ (g_cl (cg_36_44 hd hS hR o ho s hr hp (hx1 _ hC)))
    exact ⟨rfl, trivial⟩
theorem cg_36_0 (hd : 1 ≤ d) (hS : mz_extR S 232) (hR : mz_rok R 232) (o : Nat) (ho : o = 43 ∨ o = 48) (N : mz_N) {C0 : (mz_N) → Prop} (hr : ∀ (N2 : mz_N), C0 N2 → Q (.inl none) (mz_k S R N2 b t)) (hp : cp_36_0 o N) (hC : C0 (cf_36_0 o N)) : mz_G (d, mz_X0 L xs, none, [], mk_36, 1, Q) 0 mk_36 [(0, .ref o)] [] false (mz_k S R N b t) := by
  obtain ⟨n, hn⟩ := hp
  exact g_loop (G := fun s => mz_G (d, mz_X0 L xs, none, [], mk_36, 1, Q) 0 mk_36 [(0, .ref o)] [] false (mz_k S R s b t)) (C := C0) (fun C2 hc hx s hP hC => cb_36_0 hd hS hR o ho s hr hc hx hP hC) n (N) hn hC
theorem cs_36 (hd : 2 ≤ d) (hS : mz_extR S 232) (hR : mz_rok R 232) (o : Nat) (ho : o = 43 ∨ o = 48) (N : mz_N) (hp : cp_36_0 o N) (hq : Q (.inl none) (mz_k S R (cf_36_0 o N) b t)) : mz_Ed (mz_X0 L xs) d 36 [.ref o] (mz_k S R N b t) Q :=
  by
  refine g_in mzq_36 (Nat.le_of_ble_eq_true rfl) (Nat.le_of_ble_eq_true rfl) (Nat.le_trans (Nat.le_of_ble_eq_true rfl) hd) ?_
  refine g_weak ?_ (g_cl (cg_36_0 (d := d - 1) (by omega) hS hR o ho N (C0 := fun z => Q (.inl none) (mz_k S R z b t)) (fun _ h => h) hp hq))
  exact ⟨rfl, trivial⟩
/-! 39 KeptHouse$Reader.await (I)V -/
theorem ms_39_0 : mz_sf mk_39 0 = mk_39 := mz_sf_zero _
theorem ms_39_30 : mz_sf mk_39 30 = mt_39_30 := mz_sf_add ms_39_0 (t := 30) rfl rfl
set_option maxRecDepth 100000 in
theorem mzq_39 : mz_PG0 39 = some (7, ⟨"KeptHouse$Reader", "await", "(I)V"⟩, prog_9_method_16_code, 2, none, [], mk_39, []) := rfl
theorem cg_39_30 (hd : 0 ≤ d) (hS : mz_extR S 232) (hR : mz_rok R 232) (o : Nat) (ho : o = 43 ∨ o = 48) (N : mz_N) {C0 : (mz_N) → Prop} (hr : ∀ (N2 : mz_N), C0 N2 → Q (.inl none) (mz_k S R N2 b t)) (hp : cp_39_30 o N) (hC : C0 (cf_39_30 o N)) : mz_G (d, mz_X0 L xs, none, [], mk_39, 2, Q) 30 mt_39_30 [(0, .ref o)] [] false (mz_k S R N b t) := by
  unfold cf_39_30 at hC
  unfold cp_39_30 at hp
  refine g_aload_n rfl (g_iconst mzi_2 (g_putI (mz_at hS (mz_oL0 ho (Nat.le_of_ble_eq_true rfl)) (mz_oA0 ho)) mzcf_7_12 ?_))
  exact g_vret rfl (hr _ hC)
theorem cg_39_0 (hd : 0 ≤ d) (hS : mz_extR S 232) (hR : mz_rok R 232) (o : Nat) (ho : o = 43 ∨ o = 48) (v1 : Int32) (N : mz_N) {C0 : (mz_N) → Prop} (hr : ∀ (N2 : mz_N), C0 N2 → Q (.inl none) (mz_k S R N2 b t)) (hp : cp_39_0 o v1 N) (hC : C0 (cf_39_0 o v1 N)) : mz_G (d, mz_X0 L xs, none, [], mk_39, 2, Q) 0 mk_39 [(0, .ref o), (1, .int v1)] [] true (mz_k S R N b t) := by
  unfold cf_39_0 at hC
  unfold cp_39_0 at hp
  refine g_aload_n rfl (g_getI (mz_at hS (mz_oL0 ho (Nat.le_of_ble_eq_true rfl)) (mz_oA0 ho)) mzcf_7_15 (g_sipush mzs_196 ?_))
  refine g_icge (tg := 30) rfl ms_39_30 hC (fun h1 hC => ?_) (fun h1 hC => ?_)
  · have hp := hp.1 h1
    refine g_aload_n rfl (g_getR (mz_at hS (mz_oL0 ho (Nat.le_of_ble_eq_true rfl)) (mz_oA0 ho)) mzcf_7_14 (mz_rb hR (mz_oL0 ho (Nat.le_of_ble_eq_true rfl)) (mz_o41 ho) (mz_oR4 ho)) (g_aload_n rfl (g_getI (mz_at hS (mz_oL0 ho (Nat.le_of_ble_eq_true rfl)) (mz_oA0 ho)) mzcf_7_15 (g_iload_n rfl ?_))))
    obtain ⟨h2, hp⟩ := hp
    refine g_iast (mz_at hS (mz_oL4 ho (Nat.le_of_ble_eq_true rfl)) (mz_oA4 ho)) h2 (g_aload_n rfl (g_dup rfl (g_getI (mz_at hS (mz_oL0 ho (Nat.le_of_ble_eq_true rfl)) (mz_oA0 ho)) mzcf_7_15 (g_iconst mzi_1 (g_iadd (g_putI (mz_at hS (mz_oL0 ho (Nat.le_of_ble_eq_true rfl)) (mz_oA0 ho)) mzcf_7_15 ?_))))))
    refine g_weak ?_ (g_cl (cg_39_30 hd hS hR o ho (mz_pI (mz_wI N (o + 4) (N.1 o 15) v1) o 15 (((mz_wI N (o + 4) (N.1 o 15) v1).1 o 15) + 1)) hr hp hC))
    exact ⟨rfl, trivial⟩
  · have hp := hp.2 h1
    refine g_weak ?_ (g_cl (cg_39_30 hd hS hR o ho N hr hp hC))
    exact ⟨rfl, trivial⟩
theorem cs_39 (hd : 1 ≤ d) (hS : mz_extR S 232) (hR : mz_rok R 232) (o : Nat) (ho : o = 43 ∨ o = 48) (v1 : Int32) (N : mz_N) (hp : cp_39_0 o v1 N) (hq : Q (.inl none) (mz_k S R (cf_39_0 o v1 N) b t)) : mz_Ed (mz_X0 L xs) d 39 [.ref o, .int v1] (mz_k S R N b t) Q :=
  by
  refine g_in mzq_39 (Nat.le_of_ble_eq_true rfl) (Nat.le_of_ble_eq_true rfl) (Nat.le_trans (Nat.le_of_ble_eq_true rfl) hd) ?_
  refine g_weak ?_ (cg_39_0 (d := d - 1) (by omega) hS hR o ho v1 N (C0 := fun z => Q (.inl none) (mz_k S R z b t)) (fun _ h => h) hp hq)
  exact ⟨rfl, rfl, trivial⟩
/-! 38 KeptHouse$Reader.open (I)Z -/
theorem ms_38_0 : mz_sf mk_38 0 = mk_38 := mz_sf_zero _
theorem ms_38_15 : mz_sf mk_38 15 = mt_38_15 := mz_sf_add ms_38_0 (t := 15) rfl rfl
set_option maxRecDepth 100000 in
theorem mzq_38 : mz_PG0 38 = some (7, ⟨"KeptHouse$Reader", "open", "(I)Z"⟩, prog_9_method_15_code, 2, some .boolean, [], mk_38, []) := rfl
theorem cg_38_0 (hd : 1 ≤ d) (hS : mz_extR S 232) (hR : mz_rok R 232) (o : Nat) (ho : o = 43 ∨ o = 48) (v1 : Int32) (N : mz_N) {C0 : (Bool × mz_N) → Prop} (hr : ∀ (w : Bool) (N2 : mz_N), C0 (w, N2) → Q (.inl (some (.int (mz_b01 w)))) (mz_k S R N2 b t)) (hp : cp_38_0 o v1 N) (hC : C0 (cf_38_0 o v1 N)) : mz_G (d, mz_X0 L xs, some .boolean, [], mk_38, 2, Q) 0 mk_38 [(0, .ref o), (1, .int v1)] [] true (mz_k S R N b t) := by
  unfold cf_38_0 at hC
  unfold cp_38_0 at hp
  refine g_aload_n rfl (g_getI (mz_at hS (mz_oL0 ho (Nat.le_of_ble_eq_true rfl)) (mz_oA0 ho)) mzcf_7_16 (g_bipush mzb_10 ?_))
  refine g_iclt (tg := 15) rfl ms_38_15 hC (fun h1 hC => ?_) (fun h1 hC => ?_)
  · have hp := hp.1 h1
    refine g_aload_n rfl (g_dup rfl (g_getI (mz_at hS (mz_oL0 ho (Nat.le_of_ble_eq_true rfl)) (mz_oA0 ho)) mzcf_7_16 (g_iconst mzi_1 (g_iadd (g_putI (mz_at hS (mz_oL0 ho (Nat.le_of_ble_eq_true rfl)) (mz_oA0 ho)) mzcf_7_16 (g_aload_n rfl (g_iload_n rfl ?_)))))))
    have h2 := hp
    refine g_v2n (Nat.le_of_ble_eq_true rfl) (mz_at hS (mz_oL0 ho (Nat.le_of_ble_eq_true rfl)) (mz_oA0 ho)) (fun _ hq => cs_39 (Nat.le_trans (Nat.le_of_ble_eq_true rfl) hd) (hS.le (Nat.le_of_ble_eq_true rfl)) (hR.le (Nat.le_of_ble_eq_true rfl)) o ho v1 (mz_pI N o 16 ((N.1 o 16) + 1)) h2 hq) (g_iconst mzi_1 ?_)
    exact g_zret (z := true) rfl (hr _ _ hC)
  · have hp := hp.2 h1
    refine g_aload_n rfl (g_iconst mzi_5 ?_)
    refine g_v2v (Nat.le_of_ble_eq_true rfl) (mz_at hS (mz_oL0 ho (Nat.le_of_ble_eq_true rfl)) (mz_oA0 ho)) (fun _ hq => cs_27 (Nat.le_trans (Nat.le_of_ble_eq_true rfl) hd) (hS.le (Nat.le_of_ble_eq_true rfl)) (hR.le (Nat.le_of_ble_eq_true rfl)) o ho 5 N trivial hq) ?_
    exact g_zret (z := ((cf_27_0 o 5 N).1)) rfl (hr _ _ hC)
theorem cs_38 (hd : 2 ≤ d) (hS : mz_extR S 232) (hR : mz_rok R 232) (o : Nat) (ho : o = 43 ∨ o = 48) (v1 : Int32) (N : mz_N) (hp : cp_38_0 o v1 N) (hq : Q (.inl (some (.int (mz_b01 ((cf_38_0 o v1 N).1))))) (mz_k S R ((cf_38_0 o v1 N).2) b t)) : mz_Ed (mz_X0 L xs) d 38 [.ref o, .int v1] (mz_k S R N b t) Q :=
  by
  refine g_in mzq_38 (Nat.le_of_ble_eq_true rfl) (Nat.le_of_ble_eq_true rfl) (Nat.le_trans (Nat.le_of_ble_eq_true rfl) hd) ?_
  refine g_weak ?_ (cg_38_0 (d := d - 1) (by omega) hS hR o ho v1 N (C0 := fun z => Q (.inl (some (.int (mz_b01 z.1)))) (mz_k S R z.2 b t)) (fun _ _ h => h) hp hq)
  exact ⟨rfl, rfl, trivial⟩
end Fn0
