/-! THE FUNCTIONS: written by program: each method comes to its function. -/
section Fn14
variable {L : Nat} {xs : Nat → Int32} {d : Nat} {S : mz_S} {R : Nat → Nat → Option Nat} {Q : mz_Q} {N : mz_N} {b : Bool} {t : Nat}
/-! 199 KeptHouse.passMinute ()Z -/
theorem ms_199_0 : mz_sf mk_199 0 = mk_199 := mz_sf_zero _
theorem ms_199_17 : mz_sf mk_199 17 = mt_199_17 := mz_sf_add ms_199_0 (t := 17) rfl rfl
theorem ms_199_37 : mz_sf mk_199 37 = mt_199_37 := mz_sf_add ms_199_17 (t := 20) rfl rfl
theorem ms_199_67 : mz_sf mk_199 67 = mt_199_67 := mz_sf_add ms_199_37 (t := 30) rfl rfl
theorem ms_199_86 : mz_sf mk_199 86 = mt_199_86 := mz_sf_add ms_199_67 (t := 19) rfl rfl
theorem ms_199_95 : mz_sf mk_199 95 = mt_199_95 := mz_sf_add ms_199_86 (t := 9) rfl rfl
set_option maxRecDepth 100000 in
theorem mzq_199 : mz_PG0 199 = some (11, ⟨"KeptHouse", "passMinute", "()Z"⟩, prog_1_method_73_code, 2, some .boolean, [], mk_199, []) := rfl
theorem cg_199_86 (hd : 6 ≤ d) (hS : mz_extR S 232) (hR : mz_rok R 232)  (N : mz_N) (b : Bool) {C0 : (Bool × mz_N) → Prop} (hr : ∀ (w : Bool) (N2 : mz_N), C0 (w, N2) → Q (.inl (some (.int (mz_b01 w)))) (mz_k S R N2 b t)) (hp : cp_199_86 N b) (hC : C0 (cf_199_86 N b)) : mz_G (d, mz_X0 L xs, some .boolean, [], mk_199, 2, Q) 86 mt_199_86 [(0, .ref 0)] [] false (mz_k S R N b t) := by
  unfold cf_199_86 at hC
  unfold cp_199_86 at hp
  refine g_aload_n rfl ?_
  obtain ⟨h1, hp⟩ := hp
  refine g_v1v (Nat.le_of_ble_eq_true rfl) (mz_at hS (Nat.le_of_ble_eq_true rfl) mzcS_0) (fun _ hq => cs_255 (Nat.le_trans (Nat.le_of_ble_eq_true rfl) hd) (hS.le (Nat.le_of_ble_eq_true rfl)) (hR.le (Nat.le_of_ble_eq_true rfl))  N b h1 hq) ?_
  refine g_zne (tg := 95) rfl ms_199_95 hC (fun h2 hC => ?_) (fun h2 hC => ?_)
  · have hp := hp.1 h2
    refine g_aload_n rfl ?_
    obtain ⟨h3, hp⟩ := hp
    refine g_v1n (Nat.le_of_ble_eq_true rfl) (mz_at hS (Nat.le_of_ble_eq_true rfl) mzcS_0) (fun _ hq => cs_261 (Nat.le_trans (Nat.le_of_ble_eq_true rfl) hd) (hS.le (Nat.le_of_ble_eq_true rfl)) (hR.le (Nat.le_of_ble_eq_true rfl))  ((cf_255_0 N b).2) h3 hq) (g_aload_n rfl ?_)
    have h4 := hp
    refine g_v1v (Nat.le_of_ble_eq_true rfl) (mz_at hS (Nat.le_of_ble_eq_true rfl) mzcS_0) (fun _ hq => cs_268 (Nat.le_trans (Nat.le_of_ble_eq_true rfl) hd) (hS.le (Nat.le_of_ble_eq_true rfl)) (hR.le (Nat.le_of_ble_eq_true rfl))  (cf_261_0 ((cf_255_0 N b).2)) b h4 hq) ?_
    exact g_zret (z := ((cf_268_0 (cf_261_0 ((cf_255_0 N b).2)) b).1)) rfl (hr _ _ hC)
  · have hp := hp.2 h2
    refine g_iconst mzi_0 ?_
    exact g_zret (z := false) rfl (hr _ _ hC)
theorem cg_199_37 (hd : 6 ≤ d) (hS : mz_extR S 232) (hR : mz_rok R 232)  (v1 : Int32) (N : mz_N) (b : Bool) {C0 : (Bool × mz_N) → Prop} (hr : ∀ (w : Bool) (N2 : mz_N), C0 (w, N2) → Q (.inl (some (.int (mz_b01 w)))) (mz_k S R N2 b t)) (hp : cp_199_37 v1 N b) (hC : C0 (cf_199_37 v1 N b)) : mz_G (d, mz_X0 L xs, some .boolean, [], mk_199, 2, Q) 37 mt_199_37 [(0, .ref 0), (1, .int v1)] [] false (mz_k S R N b t) := by
  unfold cf_199_37 at hC
  unfold cp_199_37 at hp
  refine g_aload_n rfl (g_getR (mz_at hS (Nat.le_of_ble_eq_true rfl) mzcS_0) mzcf_11_4 (mz_rb hR (Nat.le_of_ble_eq_true rfl) rfl mzcR_0_4) (g_aload_n rfl (g_getR (mz_at hS (Nat.le_of_ble_eq_true rfl) mzcS_0) mzcf_11_1 (mz_rb hR (Nat.le_of_ble_eq_true rfl) rfl mzcR_0_1) (g_aload_n rfl (g_getR (mz_at hS (Nat.le_of_ble_eq_true rfl) mzcS_0) mzcf_11_3 (mz_rb hR (Nat.le_of_ble_eq_true rfl) rfl mzcR_0_3) (g_aload_n rfl (g_getR (mz_at hS (Nat.le_of_ble_eq_true rfl) mzcS_0) mzcf_11_10 (mz_rb hR (Nat.le_of_ble_eq_true rfl) rfl mzcR_0_10) ?_)))))))
  refine g_iload_n rfl ?_
  obtain ⟨h1, hp⟩ := hp
  refine g_v5n (Nat.le_of_ble_eq_true rfl) (mz_at hS (Nat.le_of_ble_eq_true rfl) mzcS_65) (fun _ hq => cs_244 (Nat.le_trans (Nat.le_of_ble_eq_true rfl) hd) (hS.le (Nat.le_of_ble_eq_true rfl)) (hR.le (Nat.le_of_ble_eq_true rfl))  v1 N h1 hq) (g_aload_n rfl (g_getR (mz_at hS (Nat.le_of_ble_eq_true rfl) mzcS_0) mzcf_11_4 (mz_rb hR (Nat.le_of_ble_eq_true rfl) rfl mzcR_0_4) ?_))
  obtain ⟨h2, hp⟩ := hp
  refine g_getZ (mz_at hS (Nat.le_of_ble_eq_true rfl) mzcS_65) mzcf_3_8 h2 ?_
  refine g_zeq (tg := 86) rfl ms_199_86 hC (fun h3 hC => ?_) (fun h3 hC => ?_)
  · have hp := hp.1 h3
    refine g_aload_n rfl (g_getR (mz_at hS (Nat.le_of_ble_eq_true rfl) mzcS_0) mzcf_11_4 (mz_rb hR (Nat.le_of_ble_eq_true rfl) rfl mzcR_0_4) (g_aload_n rfl (g_getR (mz_at hS (Nat.le_of_ble_eq_true rfl) mzcS_0) mzcf_11_1 (mz_rb hR (Nat.le_of_ble_eq_true rfl) rfl mzcR_0_1) (g_aload_n rfl (g_getR (mz_at hS (Nat.le_of_ble_eq_true rfl) mzcS_0) mzcf_11_3 (mz_rb hR (Nat.le_of_ble_eq_true rfl) rfl mzcR_0_3) (g_aload_n rfl (g_getR (mz_at hS (Nat.le_of_ble_eq_true rfl) mzcS_0) mzcf_11_10 (mz_rb hR (Nat.le_of_ble_eq_true rfl) rfl mzcR_0_10) ?_)))))))
    obtain ⟨h4, hp⟩ := hp
    refine g_v4n (Nat.le_of_ble_eq_true rfl) (mz_at hS (Nat.le_of_ble_eq_true rfl) mzcS_65) (fun _ hq => cs_247 (Nat.le_trans (Nat.le_of_ble_eq_true rfl) hd) (hS.le (Nat.le_of_ble_eq_true rfl)) (hR.le (Nat.le_of_ble_eq_true rfl))  (cf_244_0 v1 N) h4 hq) ?_
    refine g_weak ?_ (g_cl (cg_199_86 hd hS hR (cf_247_0 (cf_244_0 v1 N)) b hr hp hC))
    exact ⟨rfl, trivial⟩
  · have hp := hp.2 h3
    refine g_weak ?_ (g_cl (cg_199_86 hd hS hR (cf_244_0 v1 N) b hr hp hC))
    exact ⟨rfl, trivial⟩
theorem cg_199_0 (hd : 6 ≤ d) (hS : mz_extR S 232) (hR : mz_rok R 232)  (N : mz_N) (b : Bool) {C0 : (Bool × mz_N) → Prop} (hr : ∀ (w : Bool) (N2 : mz_N), C0 (w, N2) → Q (.inl (some (.int (mz_b01 w)))) (mz_k S R N2 b t)) (hp : cp_199_0 N b) (hC : C0 (cf_199_0 N b)) : mz_G (d, mz_X0 L xs, some .boolean, [], mk_199, 2, Q) 0 mk_199 [(0, .ref 0)] [] true (mz_k S R N b t) := by
  unfold cf_199_0 at hC
  unfold cp_199_0 at hp
  refine g_aload_n rfl (g_getR (mz_at hS (Nat.le_of_ble_eq_true rfl) mzcS_0) mzcf_11_8 (mz_rb hR (Nat.le_of_ble_eq_true rfl) rfl mzcR_0_8) ?_)
  refine g_v1v (Nat.le_of_ble_eq_true rfl) (mz_at hS (Nat.le_of_ble_eq_true rfl) mzcS_208) (fun _ hq => cs_200 (Nat.le_trans (Nat.le_of_ble_eq_true rfl) hd) (hS.le (Nat.le_of_ble_eq_true rfl)) (hR.le (Nat.le_of_ble_eq_true rfl))  N trivial hq) (g_istore_n (Nat.le_of_ble_eq_true rfl) rfl (g_aload_n rfl ?_))
  obtain ⟨h2, hp⟩ := hp
  refine g_v1v (Nat.le_of_ble_eq_true rfl) (mz_at hS (Nat.le_of_ble_eq_true rfl) mzcS_0) (fun _ hq => cs_201 (Nat.le_trans (Nat.le_of_ble_eq_true rfl) hd) (hS.le (Nat.le_of_ble_eq_true rfl)) (hR.le (Nat.le_of_ble_eq_true rfl))  N b h2 hq) ?_
  refine g_zne (tg := 17) rfl ms_199_17 hC (fun h3 hC => ?_) (fun h3 hC => ?_)
  · have hp := hp.1 h3
    refine g_aload_n rfl (g_iload_n rfl ?_)
    obtain ⟨h4, hp⟩ := hp
    refine g_v2n (Nat.le_of_ble_eq_true rfl) (mz_at hS (Nat.le_of_ble_eq_true rfl) mzcS_0) (fun _ hq => cs_208 (Nat.le_trans (Nat.le_of_ble_eq_true rfl) hd) (hS.le (Nat.le_of_ble_eq_true rfl)) (hR.le (Nat.le_of_ble_eq_true rfl))  (cf_200_0 N) ((cf_201_0 N b).2) b h4 hq) (g_aload_n rfl (g_iload_n rfl ?_))
    obtain ⟨h5, hp⟩ := hp
    refine g_v2n (Nat.le_of_ble_eq_true rfl) (mz_at hS (Nat.le_of_ble_eq_true rfl) mzcS_0) (fun _ hq => cs_219 (Nat.le_trans (Nat.le_of_ble_eq_true rfl) hd) (hS.le (Nat.le_of_ble_eq_true rfl)) (hR.le (Nat.le_of_ble_eq_true rfl))  (cf_200_0 N) (cf_208_0 (cf_200_0 N) ((cf_201_0 N b).2) b) h5 hq) (g_aload_n rfl (g_iload_n rfl ?_))
    obtain ⟨h6, hp⟩ := hp
    refine g_v2n (Nat.le_of_ble_eq_true rfl) (mz_at hS (Nat.le_of_ble_eq_true rfl) mzcS_0) (fun _ hq => cs_229 (Nat.le_trans (Nat.le_of_ble_eq_true rfl) hd) (hS.le (Nat.le_of_ble_eq_true rfl)) (hR.le (Nat.le_of_ble_eq_true rfl))  (cf_200_0 N) (cf_219_0 (cf_200_0 N) (cf_208_0 (cf_200_0 N) ((cf_201_0 N b).2) b)) h6 hq) (g_aload_n rfl (g_iload_n rfl ?_))
    obtain ⟨h7, hp⟩ := hp
    refine g_v2n (Nat.le_of_ble_eq_true rfl) (mz_at hS (Nat.le_of_ble_eq_true rfl) mzcS_0) (fun _ hq => cs_233 (Nat.le_trans (Nat.le_of_ble_eq_true rfl) hd) (hS.le (Nat.le_of_ble_eq_true rfl)) (hR.le (Nat.le_of_ble_eq_true rfl))  (cf_200_0 N) (cf_229_0 (cf_200_0 N) (cf_219_0 (cf_200_0 N) (cf_208_0 (cf_200_0 N) ((cf_201_0 N b).2) b))) h7 hq) ?_
    refine g_weak ?_ (g_cl (cg_199_37 hd hS hR (cf_200_0 N) (cf_233_0 (cf_200_0 N) (cf_229_0 (cf_200_0 N) (cf_219_0 (cf_200_0 N) (cf_208_0 (cf_200_0 N) ((cf_201_0 N b).2) b)))) b hr hp hC))
    exact ⟨rfl, rfl, trivial⟩
  · have hp := hp.2 h3
    refine g_iconst mzi_0 ?_
    exact g_zret (z := false) rfl (hr _ _ hC)
theorem cs_199 (hd : 7 ≤ d) (hS : mz_extR S 232) (hR : mz_rok R 232)  (N : mz_N) (b : Bool) (hp : cp_199_0 N b) (hq : Q (.inl (some (.int (mz_b01 ((cf_199_0 N b).1))))) (mz_k S R ((cf_199_0 N b).2) b t)) : mz_Ed (mz_X0 L xs) d 199 [.ref 0] (mz_k S R N b t) Q :=
  by
  refine g_in mzq_199 (Nat.le_of_ble_eq_true rfl) (Nat.le_of_ble_eq_true rfl) (Nat.le_trans (Nat.le_of_ble_eq_true rfl) hd) ?_
  refine g_weak ?_ (cg_199_0 (d := d - 1) (by omega) hS hR N b (C0 := fun z => Q (.inl (some (.int (mz_b01 z.1)))) (mz_k S R z.2 b t)) (fun _ _ h => h) hp hq)
  exact ⟨rfl, trivial⟩
/-! 198 KeptHouse.run (I)I -/
theorem ms_198_0 : mz_sf mk_198 0 = mk_198 := mz_sf_zero _
theorem ms_198_25 : mz_sf mk_198 25 = mt_198_25 := mz_sf_add ms_198_0 (t := 25) rfl rfl
theorem ms_198_29 : mz_sf mk_198 29 = mt_198_29 := mz_sf_add ms_198_25 (t := 4) rfl rfl
theorem ms_198_30 : mz_sf mk_198 30 = mt_198_30 := mz_sf_add ms_198_29 (t := 1) rfl rfl
theorem ms_198_35 : mz_sf mk_198 35 = mt_198_35 := mz_sf_add ms_198_30 (t := 5) rfl rfl
theorem ms_198_51 : mz_sf mk_198 51 = mt_198_51 := mz_sf_add ms_198_35 (t := 16) rfl rfl
theorem ms_198_57 : mz_sf mk_198 57 = mt_198_57 := mz_sf_add ms_198_51 (t := 6) rfl rfl
set_option maxRecDepth 100000 in
theorem mzq_198 : mz_PG0 198 = some (11, ⟨"KeptHouse", "run", "(I)I"⟩, prog_1_method_31_code, 3, some .int, [], mk_198, []) := rfl
theorem cb_198_35 (hd : 7 ≤ d) (hS : mz_extR S 232) (hR : mz_rok R 232)  (v1 : Int32) (b : Bool) (s : Int32 × mz_N) {C0 : (Nat × Int32 × mz_N) → Prop} (hr : ∀ (w : Int32) (N2 : mz_N), C0 (0, w, N2) → Q (.inl (some (.int w))) (mz_k S R N2 b t)) (ht : ∀ (c : Nat) (w : Int32) (N2 : mz_N), ¬ c = 0 → C0 (c, w, N2) → Q (.inr (c - 1)) (mz_k S R N2 b (t + 1))) (h1000 : t < 1000) {C1 : ((Int32 × mz_N) ⊕ (Nat × Int32 × mz_N)) → Prop} (hc1 : ∀ s2, C1 (.inl s2) → mz_G (d, mz_X0 L xs, some .int, [], mk_198, 3, Q) 35 mt_198_35 [(0, .ref 0), (1, .int v1), (2, .int s2.1)] [] false (mz_k S R s2.2 b t)) (hx1 : ∀ z, C1 (.inr z) → C0 z) (hp : cd_198_35 v1 b s) (hC : C1 (cq_198_35 v1 b s)) : mz_G (d, mz_X0 L xs, some .int, [], mk_198, 3, Q) 35 mt_198_35 [(0, .ref 0), (1, .int v1), (2, .int s.1)] [] false (mz_k S R s.2 b t) := by
  unfold cq_198_35 at hC
  unfold cd_198_35 at hp
  refine g_iload_n rfl (g_iload_n rfl ?_)
  refine g_icge (tg := 57) rfl ms_198_57 hC (fun h1 hC => ?_) (fun h1 hC => ?_)
  · have hp := hp.1 h1
    refine g_aload_n rfl ?_
    have h2 := hp
    refine g_v1v (Nat.le_of_ble_eq_true rfl) (mz_at hS (Nat.le_of_ble_eq_true rfl) mzcS_0) (fun _ hq => cs_199 (Nat.le_trans (Nat.le_of_ble_eq_true rfl) hd) (hS.le (Nat.le_of_ble_eq_true rfl)) (hR.le (Nat.le_of_ble_eq_true rfl))  s.2 b h2 hq) ?_
    refine g_zne (tg := 51) rfl ms_198_51 hC (fun h3 hC => ?_) (fun h3 hC => ?_)
    · refine g_iinc rfl mzi_1 (Nat.le_of_ble_eq_true rfl) rfl (g_goto (tg := 35) rfl ms_198_35 ?_)
      refine g_weak ?_ (g_cl (hc1 ((s.1 + 1), (cf_199_0 s.2 b).2) hC))
      exact ⟨rfl, rfl, rfl, trivial⟩
    · refine g_sipush mzs_m1001 ?_
      exact g_iret rfl (hr _ _ (hx1 _ hC))
  · have hp := hp.2 h1
    refine g_aload_n rfl (g_getR (mz_at hS (Nat.le_of_ble_eq_true rfl) mzcS_0) mzcf_11_8 (mz_rb hR (Nat.le_of_ble_eq_true rfl) rfl mzcR_0_8) (g_getI (mz_at hS (Nat.le_of_ble_eq_true rfl) mzcS_208) mzcf_1_0 ?_))
    exact g_iret rfl (hr _ _ (hx1 _ hC))
theorem cg_198_35 (hd : 7 ≤ d) (hS : mz_extR S 232) (hR : mz_rok R 232)  (v1 : Int32) (v2 : Int32) (N : mz_N) (b : Bool) {C0 : (Nat × Int32 × mz_N) → Prop} (hr : ∀ (w : Int32) (N2 : mz_N), C0 (0, w, N2) → Q (.inl (some (.int w))) (mz_k S R N2 b t)) (ht : ∀ (c : Nat) (w : Int32) (N2 : mz_N), ¬ c = 0 → C0 (c, w, N2) → Q (.inr (c - 1)) (mz_k S R N2 b (t + 1))) (h1000 : t < 1000) (hp : cp_198_35 v1 v2 N b) (hC : C0 (cf_198_35 v1 v2 N b)) : mz_G (d, mz_X0 L xs, some .int, [], mk_198, 3, Q) 35 mt_198_35 [(0, .ref 0), (1, .int v1), (2, .int v2)] [] false (mz_k S R N b t) := by
  obtain ⟨n, hn⟩ := hp
  exact g_loop (G := fun s => mz_G (d, mz_X0 L xs, some .int, [], mk_198, 3, Q) 35 mt_198_35 [(0, .ref 0), (1, .int v1), (2, .int s.1)] [] false (mz_k S R s.2 b t)) (C := C0) (fun C2 hc hx s hP hC => cb_198_35 hd hS hR v1 b s hr ht h1000 hc hx hP hC) n (v2, N) hn hC
theorem cg_198_30 (hd : 7 ≤ d) (hS : mz_extR S 232) (hR : mz_rok R 232)  (s0 : Bool) (v1 : Int32) (N : mz_N) (b : Bool) {C0 : (Nat × Int32 × mz_N) → Prop} (hr : ∀ (w : Int32) (N2 : mz_N), C0 (0, w, N2) → Q (.inl (some (.int w))) (mz_k S R N2 b t)) (ht : ∀ (c : Nat) (w : Int32) (N2 : mz_N), ¬ c = 0 → C0 (c, w, N2) → Q (.inr (c - 1)) (mz_k S R N2 b (t + 1))) (h1000 : t < 1000) (hp : cp_198_30 s0 v1 N b) (hC : C0 (cf_198_30 s0 v1 N b)) : mz_G (d, mz_X0 L xs, some .int, [], mk_198, 3, Q) 30 mt_198_30 [(0, .ref 0), (1, .int v1)] [.int (mz_b01 s0)] false (mz_k S R N b t) := by
  unfold cf_198_30 at hC
  unfold cp_198_30 at hp
  refine g_s1nt (Nat.le_of_ble_eq_true rfl) rfl (fun _ hz0 hz1 => cs_187 (Nat.le_trans (Nat.le_of_ble_eq_true rfl) hd) (hS.le (Nat.le_of_ble_eq_true rfl)) (hR.le (Nat.le_of_ble_eq_true rfl))  s0 trivial h1000 hz0 hz1) hC (fun h2 hC => ?_) (fun h2 hC => ?_)
  · have hp := hp.1 h2
    refine g_iconst mzi_0 (g_istore_n (Nat.le_of_ble_eq_true rfl) rfl ?_)
    refine g_weak ?_ (g_cl (cg_198_35 hd hS hR v1 0 N b hr ht h1000 hp hC))
    exact ⟨rfl, rfl, rfl, trivial⟩
  · have hp := hp.2 h2
    exact ht _ _ _ h2 hC
theorem cg_198_0 (hd : 7 ≤ d) (hS : mz_extR S 232) (hR : mz_rok R 232)  (v1 : Int32) (N : mz_N) (b : Bool) {C0 : (Nat × Int32 × mz_N) → Prop} (hr : ∀ (w : Int32) (N2 : mz_N), C0 (0, w, N2) → Q (.inl (some (.int w))) (mz_k S R N2 b t)) (ht : ∀ (c : Nat) (w : Int32) (N2 : mz_N), ¬ c = 0 → C0 (c, w, N2) → Q (.inr (c - 1)) (mz_k S R N2 b (t + 1))) (h1000 : t < 1000) (hp : cp_198_0 v1 N b) (hC : C0 (cf_198_0 v1 N b)) : mz_G (d, mz_X0 L xs, some .int, [], mk_198, 3, Q) 0 mk_198 [(0, .ref 0), (1, .int v1)] [] true (mz_k S R N b t) := by
  unfold cf_198_0 at hC
  unfold cp_198_0 at hp
  refine g_aload_n rfl ?_
  obtain ⟨h1, hp⟩ := hp
  refine g_v1nt (Nat.le_of_ble_eq_true rfl) (mz_at hS (Nat.le_of_ble_eq_true rfl) mzcS_0) rfl (fun _ hz0 hz1 => cs_104 (Nat.le_trans (Nat.le_of_ble_eq_true rfl) hd) (hS.le (Nat.le_of_ble_eq_true rfl)) (hR.le (Nat.le_of_ble_eq_true rfl))  N h1 h1000 hz0 hz1) hC (fun h5 hC => ?_) (fun h5 hC => ?_)
  · have hp := hp.1 h5
    refine g_iload_n rfl (g_iconst mzi_1 (g_bipush mzb_120 ?_))
    obtain ⟨h2, hp⟩ := hp
    refine g_s3nt (Nat.le_of_ble_eq_true rfl) rfl (fun _ hz0 hz1 => cs_105 (Nat.le_trans (Nat.le_of_ble_eq_true rfl) hd) (hS.le (Nat.le_of_ble_eq_true rfl)) (hR.le (Nat.le_of_ble_eq_true rfl))  v1 1 120 h2 h1000 hz0 hz1) hC (fun h4 hC => ?_) (fun h4 hC => ?_)
    · have hp := hp.1 h4
      refine g_aload_n rfl (g_getR (mz_at hS (Nat.le_of_ble_eq_true rfl) mzcS_0) mzcf_11_8 (mz_rb hR (Nat.le_of_ble_eq_true rfl) rfl mzcR_0_8) (g_getI (mz_at hS (Nat.le_of_ble_eq_true rfl) mzcS_208) mzcf_1_0 (g_iload_n rfl (g_iadd (g_con (by decide) ?_)))))
      refine g_icgt (tg := 29) rfl ms_198_29 hC (fun h3 hC => ?_) (fun h3 hC => ?_)
      · have hp := hp.1 h3
        refine g_iconst mzi_0 ?_
        refine g_weak ?_ (g_cl (cg_198_30 hd hS hR false v1 N b hr ht h1000 hp hC))
        exact ⟨rfl, rfl, trivial⟩
      · have hp := hp.2 h3
        refine g_iconst mzi_1 (g_goto (tg := 30) rfl ms_198_30 ?_)
        refine g_weak ?_ (g_cl (cg_198_30 hd hS hR true v1 N b hr ht h1000 hp hC))
        exact ⟨rfl, rfl, trivial⟩
    · have hp := hp.2 h4
      exact ht _ _ _ h4 hC
  · have hp := hp.2 h5
    exact ht _ _ _ h5 hC
theorem cs_198 (hd : 8 ≤ d) (hS : mz_extR S 232) (hR : mz_rok R 232)  (v1 : Int32) (N : mz_N) (b : Bool) (hp : cp_198_0 v1 N b) (h1000 : t < 1000) (h0 : (cf_198_0 v1 N b).1 = 0 → Q (.inl (some (.int ((cf_198_0 v1 N b).2.1)))) (mz_k S R ((cf_198_0 v1 N b).2.2) b t)) (h1 : ¬ (cf_198_0 v1 N b).1 = 0 → Q (.inr (((cf_198_0 v1 N b).1) - 1)) (mz_k S R ((cf_198_0 v1 N b).2.2) b (t + 1))) : mz_Ed (mz_X0 L xs) d 198 [.ref 0, .int v1] (mz_k S R N b t) Q :=
  by
  refine g_in mzq_198 (Nat.le_of_ble_eq_true rfl) (Nat.le_of_ble_eq_true rfl) (Nat.le_trans (Nat.le_of_ble_eq_true rfl) hd) ?_
  refine g_weak ?_ (cg_198_0 (d := d - 1) (by omega) hS hR v1 N b (C0 := fun z => (z.1 = 0 → Q (.inl (some (.int z.2.1))) (mz_k S R z.2.2 b t)) ∧ (¬ z.1 = 0 → Q (.inr (z.1 - 1)) (mz_k S R z.2.2 b (t + 1)))) (fun _ _ h => h.1 rfl) (fun c _ _ hc h => h.2 hc) h1000 hp ⟨h0, h1⟩)
  exact ⟨rfl, rfl, trivial⟩
/-! 197 KeptHouseLaw.run (LKeptHouse;I[J)I -/
theorem ms_197_0 : mz_sf mk_197 0 = mk_197 := mz_sf_zero _
theorem ms_197_13 : mz_sf mk_197 13 = mt_197_13 := mz_sf_add ms_197_0 (t := 13) rfl rfl
theorem ms_197_16 : mz_sf mk_197 16 = mt_197_16 := mz_sf_add ms_197_13 (t := 3) rfl rfl
theorem ms_197_18 : mz_sf mk_197 18 = mt_197_18 := mz_sf_add ms_197_16 (t := 2) rfl rfl
set_option maxRecDepth 100000 in
theorem mzq_197 : mz_PG0 197 = some (13, ⟨"KeptHouseLaw", "run", "(LKeptHouse;I[J)I"⟩, method_27_code, 4, some .int, [(0, 9, 12, 13), (0, 9, 15, 15)], mk_197, [(0, 12, 13), (1, 15, 16)]) := rfl
theorem cg_197_0 (hd : 8 ≤ d) (hS : mz_extR S 343) (hR : mz_rok R 343)  (v1 : Int32) (N : mz_N) (b : Bool) (t : Nat) {C0 : (Int32 × mz_N × Nat) → Prop} (hr : ∀ (w : Int32) (N2 : mz_N) (t2 : Nat), C0 (w, N2, t2) → Q (.inl (some (.int w))) (mz_k S R N2 b t2)) (hp : cp_197_0 v1 N b t) (hC : C0 (cf_197_0 v1 N b t)) : mz_G (d, mz_X0 L xs, some .int, [(0, 12, 13), (1, 15, 16)], mk_197, 4, Q) 0 mk_197 [(0, .ref 0), (1, .int v1), (2, .ref 342)] [] true (mz_k S R N b t) := by
  unfold cf_197_0 at hC
  unfold cp_197_0 at hp
  refine g_aload_n rfl (g_iconst mzi_0 (g_aload_n rfl (g_iload_n rfl ?_)))
  obtain ⟨h1, hp⟩ := hp
  obtain ⟨h1000, hp⟩ := hp
  refine g_v2vh (Nat.le_of_ble_eq_true rfl) (mz_at hS (Nat.le_of_ble_eq_true rfl) mzcS_0) (fun _ hz0 hz1 => cs_198 (Nat.le_trans (Nat.le_of_ble_eq_true rfl) hd) (hS.le (Nat.le_of_ble_eq_true rfl)) (hR.le (Nat.le_of_ble_eq_true rfl))  v1 N b h1 h1000 hz0 hz1) hC (fun h2 hC => ?_) (fun h2 hC => ?_)
  · have hp := hp.1 h2
    refine g_i2l (g_last (mz_at hS (Nat.le_of_ble_eq_true rfl) mzcS_342) (mz_ibd (by decide)) (g_goto (tg := 18) rfl ms_197_18 (g_iconst mzi_0 ?_)))
    exact g_iret rfl (hr _ _ _ hC)
  · have hp := hp.2 h2
    refine mz_cs hC (fun h6 hC => ?_) (fun h6 hC => ?_)
    · have hp := hp.1 h6
      refine ⟨(0, 12, 13), (by rw [h6]; rfl), ?_⟩
      show mz_G (d, mz_X0 L xs, some .int, [(0, 12, 13), (1, 15, 16)], mk_197, 4, Q) 13 (mz_sf mk_197 13) [] [] false (mz_k S R ((cf_198_0 v1 N b).2.2) b (t + 1))
      rw [ms_197_13]
      refine g_iconst mzi_1 ?_
      exact g_iret rfl (hr _ _ _ hC)
    · have hp := hp.2 h6
      have h4 := hp
      refine ⟨(1, 15, 16), (by rw [h4]; rfl), ?_⟩
      show mz_G (d, mz_X0 L xs, some .int, [(0, 12, 13), (1, 15, 16)], mk_197, 4, Q) 16 (mz_sf mk_197 16) [] [] false (mz_k S R ((cf_198_0 v1 N b).2.2) b (t + 1))
      rw [ms_197_16]
      refine g_iconst mzi_2 ?_
      exact g_iret rfl (hr _ _ _ hC)
theorem cs_197 (hd : 9 ≤ d) (hS : mz_extR S 343) (hR : mz_rok R 343)  (v1 : Int32) (N : mz_N) (b : Bool) (t : Nat) (hp : cp_197_0 v1 N b t) (hq : Q (.inl (some (.int ((cf_197_0 v1 N b t).1)))) (mz_k S R ((cf_197_0 v1 N b t).2.1) b ((cf_197_0 v1 N b t).2.2))) : mz_Ed (mz_X0 L xs) d 197 [.ref 0, .int v1, .ref 342] (mz_k S R N b t) Q :=
  by
  refine g_in mzq_197 (Nat.le_of_ble_eq_true rfl) (Nat.le_of_ble_eq_true rfl) (Nat.le_trans (Nat.le_of_ble_eq_true rfl) hd) ?_
  refine g_weak ?_ (cg_197_0 (d := d - 1) (by omega) hS hR v1 N b t (C0 := fun z => Q (.inl (some (.int z.1))) (mz_k S R z.2.1 b z.2.2)) (fun _ _ _ h => h) hp hq)
  exact ⟨rfl, rfl, rfl, trivial⟩
/-! 279 KeptHouse.mains (Z)Z -/
theorem ms_279_0 : mz_sf mk_279 0 = mk_279 := mz_sf_zero _
set_option maxRecDepth 100000 in
theorem mzq_279 : mz_PG0 279 = some (11, ⟨"KeptHouse", "mains", "(Z)Z"⟩, prog_1_method_32_code, 3, some .boolean, [], mk_279, []) := rfl
theorem cg_279_0 (hd : 1 ≤ d) (hS : mz_extR S 232) (hR : mz_rok R 232)  (v1 : Bool) (N : mz_N) {C0 : (Nat × Bool × mz_N) → Prop} (hr : ∀ (w : Bool) (N2 : mz_N), C0 (0, w, N2) → Q (.inl (some (.int (mz_b01 w)))) (mz_k S R N2 b t)) (ht : ∀ (c : Nat) (w : Bool) (N2 : mz_N), ¬ c = 0 → C0 (c, w, N2) → Q (.inr (c - 1)) (mz_k S R N2 b (t + 1))) (h1000 : t < 1000) (hp : cp_279_0 v1 N) (hC : C0 (cf_279_0 v1 N)) : mz_G (d, mz_X0 L xs, some .boolean, [], mk_279, 3, Q) 0 mk_279 [(0, .ref 0), (1, .int (mz_b01 v1))] [] true (mz_k S R N b t) := by
  unfold cf_279_0 at hC
  unfold cp_279_0 at hp
  refine g_aload_n rfl ?_
  obtain ⟨h1, hp⟩ := hp
  refine g_v1nt (Nat.le_of_ble_eq_true rfl) (mz_at hS (Nat.le_of_ble_eq_true rfl) mzcS_0) rfl (fun _ hz0 hz1 => cs_104 (Nat.le_trans (Nat.le_of_ble_eq_true rfl) hd) (hS.le (Nat.le_of_ble_eq_true rfl)) (hR.le (Nat.le_of_ble_eq_true rfl))  N h1 h1000 hz0 hz1) hC (fun h3 hC => ?_) (fun h3 hC => ?_)
  · have hp := hp.1 h3
    refine g_aload_n rfl (g_getR (mz_at hS (Nat.le_of_ble_eq_true rfl) mzcS_0) mzcf_11_3 (mz_rb hR (Nat.le_of_ble_eq_true rfl) rfl mzcR_0_3) ?_)
    have h2 := hp
    refine g_getZ (mz_at hS (Nat.le_of_ble_eq_true rfl) mzcS_56) mzcf_9_4 h2 (g_istore_n (Nat.le_of_ble_eq_true rfl) rfl (g_aload_n rfl (g_getR (mz_at hS (Nat.le_of_ble_eq_true rfl) mzcS_0) mzcf_11_3 (mz_rb hR (Nat.le_of_ble_eq_true rfl) rfl mzcR_0_3) (g_iload_n rfl (g_putZ (z := v1) (mz_at hS (Nat.le_of_ble_eq_true rfl) mzcS_56) mzcf_9_4 (g_iload_n rfl ?_))))))
    exact g_zret (z := (mz_fZ N 56 4)) rfl (hr _ _ hC)
  · have hp := hp.2 h3
    exact ht _ _ _ h3 hC
theorem cs_279 (hd : 2 ≤ d) (hS : mz_extR S 232) (hR : mz_rok R 232)  (v1 : Bool) (N : mz_N) (hp : cp_279_0 v1 N) (h1000 : t < 1000) (h0 : (cf_279_0 v1 N).1 = 0 → Q (.inl (some (.int (mz_b01 ((cf_279_0 v1 N).2.1))))) (mz_k S R ((cf_279_0 v1 N).2.2) b t)) (h1 : ¬ (cf_279_0 v1 N).1 = 0 → Q (.inr (((cf_279_0 v1 N).1) - 1)) (mz_k S R ((cf_279_0 v1 N).2.2) b (t + 1))) : mz_Ed (mz_X0 L xs) d 279 [.ref 0, .int (mz_b01 v1)] (mz_k S R N b t) Q :=
  by
  refine g_in mzq_279 (Nat.le_of_ble_eq_true rfl) (Nat.le_of_ble_eq_true rfl) (Nat.le_trans (Nat.le_of_ble_eq_true rfl) hd) ?_
  refine g_weak ?_ (cg_279_0 (d := d - 1) (by omega) hS hR v1 N (C0 := fun z => (z.1 = 0 → Q (.inl (some (.int (mz_b01 z.2.1)))) (mz_k S R z.2.2 b t)) ∧ (¬ z.1 = 0 → Q (.inr (z.1 - 1)) (mz_k S R z.2.2 b (t + 1)))) (fun _ _ h => h.1 rfl) (fun c _ _ hc h => h.2 hc) h1000 hp ⟨h0, h1⟩)
  exact ⟨rfl, rfl, trivial⟩
/-! 278 KeptHouseLaw.mains (LKeptHouse;Z[J)I -/
theorem ms_278_0 : mz_sf mk_278 0 = mk_278 := mz_sf_zero _
theorem ms_278_14 : mz_sf mk_278 14 = mt_278_14 := mz_sf_add ms_278_0 (t := 14) rfl rfl
theorem ms_278_15 : mz_sf mk_278 15 = mt_278_15 := mz_sf_add ms_278_14 (t := 1) rfl rfl
theorem ms_278_20 : mz_sf mk_278 20 = mt_278_20 := mz_sf_add ms_278_15 (t := 5) rfl rfl
theorem ms_278_22 : mz_sf mk_278 22 = mt_278_22 := mz_sf_add ms_278_20 (t := 2) rfl rfl
set_option maxRecDepth 100000 in
theorem mzq_278 : mz_PG0 278 = some (13, ⟨"KeptHouseLaw", "mains", "(LKeptHouse;Z[J)I"⟩, method_28_code, 4, some .int, [(0, 16, 19, 15)], mk_278, [(1, 19, 20)]) := rfl
theorem cg_278_15 (hd : 2 ≤ d) (hS : mz_extR S 343) (hR : mz_rok R 343)  (s1 : Int32) (s2 : Int64) (N : mz_N) (t : Nat) {C0 : (Int32 × mz_N × Nat) → Prop} (hr : ∀ (w : Int32) (N2 : mz_N) (t2 : Nat), C0 (w, N2, t2) → Q (.inl (some (.int w))) (mz_k S R N2 b t2)) (hp : cp_278_15 s1 s2 N t) (hC : C0 (cf_278_15 s1 s2 N t)) : mz_G (d, mz_X0 L xs, some .int, [(1, 19, 20)], mk_278, 4, Q) 15 mt_278_15 [] [.long s2, .int s1, .ref 342] false (mz_k S R N b t) := by
  unfold cf_278_15 at hC
  unfold cp_278_15 at hp
  have h1 := hp
  refine g_last (mz_at hS (Nat.le_of_ble_eq_true rfl) mzcS_342) h1 (g_goto (tg := 22) rfl ms_278_22 (g_iconst mzi_0 ?_))
  exact g_iret rfl (hr _ _ _ hC)
theorem cg_278_0 (hd : 2 ≤ d) (hS : mz_extR S 343) (hR : mz_rok R 343)  (v1 : Bool) (N : mz_N) (t : Nat) {C0 : (Int32 × mz_N × Nat) → Prop} (hr : ∀ (w : Int32) (N2 : mz_N) (t2 : Nat), C0 (w, N2, t2) → Q (.inl (some (.int w))) (mz_k S R N2 b t2)) (hp : cp_278_0 v1 N t) (hC : C0 (cf_278_0 v1 N t)) : mz_G (d, mz_X0 L xs, some .int, [(1, 19, 20)], mk_278, 4, Q) 0 mk_278 [(0, .ref 0), (1, .int (mz_b01 v1)), (2, .ref 342)] [] true (mz_k S R N b t) := by
  unfold cf_278_0 at hC
  unfold cp_278_0 at hp
  refine g_aload_n rfl (g_iconst mzi_0 (g_aload_n rfl (g_iload_n rfl ?_)))
  obtain ⟨h1, hp⟩ := hp
  obtain ⟨h1000, hp⟩ := hp
  refine g_v2vh (Nat.le_of_ble_eq_true rfl) (mz_at hS (Nat.le_of_ble_eq_true rfl) mzcS_0) (fun _ hz0 hz1 => cs_279 (Nat.le_trans (Nat.le_of_ble_eq_true rfl) hd) (hS.le (Nat.le_of_ble_eq_true rfl)) (hR.le (Nat.le_of_ble_eq_true rfl))  v1 N h1 h1000 hz0 hz1) hC (fun h2 hC => ?_) (fun h2 hC => ?_)
  · have hp := hp.1 h2
    refine g_zeq (tg := 14) rfl ms_278_14 hC (fun h3 hC => ?_) (fun h3 hC => ?_)
    · have hp := hp.1 h3
      refine g_lconst mzl_1 (g_goto (tg := 15) rfl ms_278_15 ?_)
      refine g_weak ?_ (g_cl (cg_278_15 hd hS hR 0 1 ((cf_279_0 v1 N).2.2) t hr hp hC))
      exact trivial
    · have hp := hp.2 h3
      refine g_lconst mzl_0 ?_
      refine g_weak ?_ (g_cl (cg_278_15 hd hS hR 0 0 ((cf_279_0 v1 N).2.2) t hr hp hC))
      exact trivial
  · have hp := hp.2 h2
    have h5 := hp
    refine ⟨(1, 19, 20), (by rw [h5]; rfl), ?_⟩
    show mz_G (d, mz_X0 L xs, some .int, [(1, 19, 20)], mk_278, 4, Q) 20 (mz_sf mk_278 20) [] [] false (mz_k S R ((cf_279_0 v1 N).2.2) b (t + 1))
    rw [ms_278_20]
    refine g_iconst mzi_1 ?_
    exact g_iret rfl (hr _ _ _ hC)
theorem cs_278 (hd : 3 ≤ d) (hS : mz_extR S 343) (hR : mz_rok R 343)  (v1 : Bool) (N : mz_N) (t : Nat) (hp : cp_278_0 v1 N t) (hq : Q (.inl (some (.int ((cf_278_0 v1 N t).1)))) (mz_k S R ((cf_278_0 v1 N t).2.1) b ((cf_278_0 v1 N t).2.2))) : mz_Ed (mz_X0 L xs) d 278 [.ref 0, .int (mz_b01 v1), .ref 342] (mz_k S R N b t) Q :=
  by
  refine g_in mzq_278 (Nat.le_of_ble_eq_true rfl) (Nat.le_of_ble_eq_true rfl) (Nat.le_trans (Nat.le_of_ble_eq_true rfl) hd) ?_
  refine g_weak ?_ (cg_278_0 (d := d - 1) (by omega) hS hR v1 N t (C0 := fun z => Q (.inl (some (.int z.1))) (mz_k S R z.2.1 b z.2.2)) (fun _ _ _ h => h) hp hq)
  exact ⟨rfl, rfl, rfl, trivial⟩
/-! 281 KeptHouse.fuel (I)I -/
theorem ms_281_0 : mz_sf mk_281 0 = mk_281 := mz_sf_zero _
theorem ms_281_34 : mz_sf mk_281 34 = mt_281_34 := mz_sf_add ms_281_0 (t := 34) rfl rfl
set_option maxRecDepth 100000 in
theorem mzq_281 : mz_PG0 281 = some (11, ⟨"KeptHouse", "fuel", "(I)I"⟩, prog_1_method_33_code, 2, some .int, [], mk_281, []) := rfl
theorem cg_281_0 (hd : 1 ≤ d) (hS : mz_extR S 232) (hR : mz_rok R 232)  (v1 : Int32) (N : mz_N) {C0 : (Nat × Int32 × mz_N) → Prop} (hr : ∀ (w : Int32) (N2 : mz_N), C0 (0, w, N2) → Q (.inl (some (.int w))) (mz_k S R N2 b t)) (ht : ∀ (c : Nat) (w : Int32) (N2 : mz_N), ¬ c = 0 → C0 (c, w, N2) → Q (.inr (c - 1)) (mz_k S R N2 b (t + 1))) (h1000 : t < 1000) (hp : cp_281_0 v1 N) (hC : C0 (cf_281_0 v1 N)) : mz_G (d, mz_X0 L xs, some .int, [], mk_281, 2, Q) 0 mk_281 [(0, .ref 0), (1, .int v1)] [] true (mz_k S R N b t) := by
  unfold cf_281_0 at hC
  unfold cp_281_0 at hp
  refine g_aload_n rfl ?_
  obtain ⟨h1, hp⟩ := hp
  refine g_v1nt (Nat.le_of_ble_eq_true rfl) (mz_at hS (Nat.le_of_ble_eq_true rfl) mzcS_0) rfl (fun _ hz0 hz1 => cs_104 (Nat.le_trans (Nat.le_of_ble_eq_true rfl) hd) (hS.le (Nat.le_of_ble_eq_true rfl)) (hR.le (Nat.le_of_ble_eq_true rfl))  N h1 h1000 hz0 hz1) hC (fun h4 hC => ?_) (fun h4 hC => ?_)
  · have hp := hp.1 h4
    refine g_iload_n rfl (g_iconst mzi_0 (g_sipush mzs_1000 ?_))
    have h2 := hp
    refine g_s3nt (Nat.le_of_ble_eq_true rfl) rfl (fun _ hz0 hz1 => cs_105 (Nat.le_trans (Nat.le_of_ble_eq_true rfl) hd) (hS.le (Nat.le_of_ble_eq_true rfl)) (hR.le (Nat.le_of_ble_eq_true rfl))  v1 0 1000 h2 h1000 hz0 hz1) hC (fun h3 hC => ?_) (fun h3 hC => ?_)
    · refine g_aload_n rfl (g_getR (mz_at hS (Nat.le_of_ble_eq_true rfl) mzcS_0) mzcf_11_3 (mz_rb hR (Nat.le_of_ble_eq_true rfl) rfl mzcR_0_3) (g_sipush mzs_1000 (g_aload_n rfl (g_getR (mz_at hS (Nat.le_of_ble_eq_true rfl) mzcS_0) mzcf_11_3 (mz_rb hR (Nat.le_of_ble_eq_true rfl) rfl mzcR_0_3) (g_getI (mz_at hS (Nat.le_of_ble_eq_true rfl) mzcS_56) mzcf_9_2 (g_iload_n rfl (g_iadd ?_)))))))
      refine g_imin (Nat.le_of_ble_eq_true rfl) (g_putI (mz_at hS (Nat.le_of_ble_eq_true rfl) mzcS_56) mzcf_9_2 (g_aload_n rfl (g_getR (mz_at hS (Nat.le_of_ble_eq_true rfl) mzcS_0) mzcf_11_3 (mz_rb hR (Nat.le_of_ble_eq_true rfl) rfl mzcR_0_3) (g_getI (mz_at hS (Nat.le_of_ble_eq_true rfl) mzcS_56) mzcf_9_2 ?_))))
      exact g_iret rfl (hr _ _ hC)
    · exact ht _ _ _ h3 hC
  · have hp := hp.2 h4
    exact ht _ _ _ h4 hC
theorem cs_281 (hd : 2 ≤ d) (hS : mz_extR S 232) (hR : mz_rok R 232)  (v1 : Int32) (N : mz_N) (hp : cp_281_0 v1 N) (h1000 : t < 1000) (h0 : (cf_281_0 v1 N).1 = 0 → Q (.inl (some (.int ((cf_281_0 v1 N).2.1)))) (mz_k S R ((cf_281_0 v1 N).2.2) b t)) (h1 : ¬ (cf_281_0 v1 N).1 = 0 → Q (.inr (((cf_281_0 v1 N).1) - 1)) (mz_k S R ((cf_281_0 v1 N).2.2) b (t + 1))) : mz_Ed (mz_X0 L xs) d 281 [.ref 0, .int v1] (mz_k S R N b t) Q :=
  by
  refine g_in mzq_281 (Nat.le_of_ble_eq_true rfl) (Nat.le_of_ble_eq_true rfl) (Nat.le_trans (Nat.le_of_ble_eq_true rfl) hd) ?_
  refine g_weak ?_ (cg_281_0 (d := d - 1) (by omega) hS hR v1 N (C0 := fun z => (z.1 = 0 → Q (.inl (some (.int z.2.1))) (mz_k S R z.2.2 b t)) ∧ (¬ z.1 = 0 → Q (.inr (z.1 - 1)) (mz_k S R z.2.2 b (t + 1)))) (fun _ _ h => h.1 rfl) (fun c _ _ hc h => h.2 hc) h1000 hp ⟨h0, h1⟩)
  exact ⟨rfl, rfl, trivial⟩
/-! 280 KeptHouseLaw.fuel (LKeptHouse;I[J)I -/
theorem ms_280_0 : mz_sf mk_280 0 = mk_280 := mz_sf_zero _
theorem ms_280_13 : mz_sf mk_280 13 = mt_280_13 := mz_sf_add ms_280_0 (t := 13) rfl rfl
theorem ms_280_16 : mz_sf mk_280 16 = mt_280_16 := mz_sf_add ms_280_13 (t := 3) rfl rfl
theorem ms_280_18 : mz_sf mk_280 18 = mt_280_18 := mz_sf_add ms_280_16 (t := 2) rfl rfl
set_option maxRecDepth 100000 in
theorem mzq_280 : mz_PG0 280 = some (13, ⟨"KeptHouseLaw", "fuel", "(LKeptHouse;I[J)I"⟩, method_29_code, 4, some .int, [(0, 9, 12, 13), (0, 9, 15, 15)], mk_280, [(0, 12, 13), (1, 15, 16)]) := rfl
theorem cg_280_0 (hd : 2 ≤ d) (hS : mz_extR S 343) (hR : mz_rok R 343)  (v1 : Int32) (N : mz_N) (t : Nat) {C0 : (Int32 × mz_N × Nat) → Prop} (hr : ∀ (w : Int32) (N2 : mz_N) (t2 : Nat), C0 (w, N2, t2) → Q (.inl (some (.int w))) (mz_k S R N2 b t2)) (hp : cp_280_0 v1 N t) (hC : C0 (cf_280_0 v1 N t)) : mz_G (d, mz_X0 L xs, some .int, [(0, 12, 13), (1, 15, 16)], mk_280, 4, Q) 0 mk_280 [(0, .ref 0), (1, .int v1), (2, .ref 342)] [] true (mz_k S R N b t) := by
  unfold cf_280_0 at hC
  unfold cp_280_0 at hp
  refine g_aload_n rfl (g_iconst mzi_0 (g_aload_n rfl (g_iload_n rfl ?_)))
  obtain ⟨h1, hp⟩ := hp
  obtain ⟨h1000, hp⟩ := hp
  refine g_v2vh (Nat.le_of_ble_eq_true rfl) (mz_at hS (Nat.le_of_ble_eq_true rfl) mzcS_0) (fun _ hz0 hz1 => cs_281 (Nat.le_trans (Nat.le_of_ble_eq_true rfl) hd) (hS.le (Nat.le_of_ble_eq_true rfl)) (hR.le (Nat.le_of_ble_eq_true rfl))  v1 N h1 h1000 hz0 hz1) hC (fun h2 hC => ?_) (fun h2 hC => ?_)
  · have hp := hp.1 h2
    refine g_i2l (g_last (mz_at hS (Nat.le_of_ble_eq_true rfl) mzcS_342) (mz_ibd (by decide)) (g_goto (tg := 18) rfl ms_280_18 (g_iconst mzi_0 ?_)))
    exact g_iret rfl (hr _ _ _ hC)
  · have hp := hp.2 h2
    refine mz_cs hC (fun h6 hC => ?_) (fun h6 hC => ?_)
    · have hp := hp.1 h6
      refine ⟨(0, 12, 13), (by rw [h6]; rfl), ?_⟩
      show mz_G (d, mz_X0 L xs, some .int, [(0, 12, 13), (1, 15, 16)], mk_280, 4, Q) 13 (mz_sf mk_280 13) [] [] false (mz_k S R ((cf_281_0 v1 N).2.2) b (t + 1))
      rw [ms_280_13]
      refine g_iconst mzi_1 ?_
      exact g_iret rfl (hr _ _ _ hC)
    · have hp := hp.2 h6
      have h4 := hp
      refine ⟨(1, 15, 16), (by rw [h4]; rfl), ?_⟩
      show mz_G (d, mz_X0 L xs, some .int, [(0, 12, 13), (1, 15, 16)], mk_280, 4, Q) 16 (mz_sf mk_280 16) [] [] false (mz_k S R ((cf_281_0 v1 N).2.2) b (t + 1))
      rw [ms_280_16]
      refine g_iconst mzi_2 ?_
      exact g_iret rfl (hr _ _ _ hC)
theorem cs_280 (hd : 3 ≤ d) (hS : mz_extR S 343) (hR : mz_rok R 343)  (v1 : Int32) (N : mz_N) (t : Nat) (hp : cp_280_0 v1 N t) (hq : Q (.inl (some (.int ((cf_280_0 v1 N t).1)))) (mz_k S R ((cf_280_0 v1 N t).2.1) b ((cf_280_0 v1 N t).2.2))) : mz_Ed (mz_X0 L xs) d 280 [.ref 0, .int v1, .ref 342] (mz_k S R N b t) Q :=
  by
  refine g_in mzq_280 (Nat.le_of_ble_eq_true rfl) (Nat.le_of_ble_eq_true rfl) (Nat.le_trans (Nat.le_of_ble_eq_true rfl) hd) ?_
  refine g_weak ?_ (cg_280_0 (d := d - 1) (by omega) hS hR v1 N t (C0 := fun z => Q (.inl (some (.int z.1))) (mz_k S R z.2.1 b z.2.2)) (fun _ _ _ h => h) hp hq)
  exact ⟨rfl, rfl, rfl, trivial⟩
/-! 283 KeptHouse.reset (I)Z -/
theorem ms_283_0 : mz_sf mk_283 0 = mk_283 := mz_sf_zero _
theorem ms_283_25 : mz_sf mk_283 25 = mt_283_25 := mz_sf_add ms_283_0 (t := 25) rfl rfl
theorem ms_283_27 : mz_sf mk_283 27 = mt_283_27 := mz_sf_add ms_283_25 (t := 2) rfl rfl
theorem ms_283_51 : mz_sf mk_283 51 = mt_283_51 := mz_sf_add ms_283_27 (t := 24) rfl rfl
set_option maxRecDepth 100000 in
theorem mzq_283 : mz_PG0 283 = some (11, ⟨"KeptHouse", "reset", "(I)Z"⟩, prog_1_method_34_code, 2, some .boolean, [], mk_283, []) := rfl
theorem cg_283_0 (hd : 1 ≤ d) (hS : mz_extR S 232) (hR : mz_rok R 232)  (v1 : Int32) (N : mz_N) {C0 : (Nat × Bool × mz_N) → Prop} (hr : ∀ (w : Bool) (N2 : mz_N), C0 (0, w, N2) → Q (.inl (some (.int (mz_b01 w)))) (mz_k S R N2 b t)) (ht : ∀ (c : Nat) (w : Bool) (N2 : mz_N), ¬ c = 0 → C0 (c, w, N2) → Q (.inr (c - 1)) (mz_k S R N2 b (t + 1))) (h1000 : t < 1000) (hp : cp_283_0 v1 N) (hC : C0 (cf_283_0 v1 N)) : mz_G (d, mz_X0 L xs, some .boolean, [], mk_283, 2, Q) 0 mk_283 [(0, .ref 0), (1, .int v1)] [] true (mz_k S R N b t) := by
  unfold cf_283_0 at hC
  unfold cp_283_0 at hp
  refine g_aload_n rfl ?_
  obtain ⟨h1, hp⟩ := hp
  refine g_v1nt (Nat.le_of_ble_eq_true rfl) (mz_at hS (Nat.le_of_ble_eq_true rfl) mzcS_0) rfl (fun _ hz0 hz1 => cs_104 (Nat.le_trans (Nat.le_of_ble_eq_true rfl) hd) (hS.le (Nat.le_of_ble_eq_true rfl)) (hR.le (Nat.le_of_ble_eq_true rfl))  N h1 h1000 hz0 hz1) hC (fun h8 hC => ?_) (fun h8 hC => ?_)
  · have hp := hp.1 h8
    refine g_iload_n rfl (g_iconst mzi_0 (g_bipush mzb_10 ?_))
    obtain ⟨h2, hp⟩ := hp
    refine g_s3nt (Nat.le_of_ble_eq_true rfl) rfl (fun _ hz0 hz1 => cs_105 (Nat.le_trans (Nat.le_of_ble_eq_true rfl) hd) (hS.le (Nat.le_of_ble_eq_true rfl)) (hR.le (Nat.le_of_ble_eq_true rfl))  v1 0 10 h2 h1000 hz0 hz1) hC (fun h7 hC => ?_) (fun h7 hC => ?_)
    · have hp := hp.1 h7
      refine g_aload_n rfl (g_getR (mz_at hS (Nat.le_of_ble_eq_true rfl) mzcS_0) mzcf_11_3 (mz_rb hR (Nat.le_of_ble_eq_true rfl) rfl mzcR_0_3) (g_getR (mz_at hS (Nat.le_of_ble_eq_true rfl) mzcS_56) mzcf_9_0 (mz_rb hR (Nat.le_of_ble_eq_true rfl) rfl mzcR_56_0) (g_iconst mzi_2 (g_aald4 (m := 60) (mz_at hS (Nat.le_of_ble_eq_true rfl) mzcS_57) (mz_ibd (by decide)) (mz_rb hR (Nat.le_of_ble_eq_true rfl) rfl mzcRr_57_2) (g_iload_n rfl ?_)))))
      obtain ⟨h3, hp⟩ := hp
      refine g_iald hS.1 (mz_at hS (Nat.le_of_ble_eq_true rfl) mzcS_60) h3 ?_
      refine g_ifne (tg := 27) rfl ms_283_27 hC (fun h4 hC => ?_) (fun h4 hC => ?_)
      · have hp := hp.1 h4
        refine g_iconst mzi_0 ?_
        exact g_zret (z := false) rfl (hr _ _ hC)
      · have hp := hp.2 h4
        refine g_aload_n rfl (g_getR (mz_at hS (Nat.le_of_ble_eq_true rfl) mzcS_0) mzcf_11_3 (mz_rb hR (Nat.le_of_ble_eq_true rfl) rfl mzcR_0_3) (g_getR (mz_at hS (Nat.le_of_ble_eq_true rfl) mzcS_56) mzcf_9_0 (mz_rb hR (Nat.le_of_ble_eq_true rfl) rfl mzcR_56_0) (g_iconst mzi_2 (g_aald4 (m := 60) (mz_at hS (Nat.le_of_ble_eq_true rfl) mzcS_57) (mz_ibd (by decide)) (mz_rb hR (Nat.le_of_ble_eq_true rfl) rfl mzcRr_57_2) (g_iload_n rfl (g_iconst mzi_0 ?_))))))
        obtain ⟨h5, hp⟩ := hp
        refine g_iast (mz_at hS (Nat.le_of_ble_eq_true rfl) mzcS_60) h5 (g_aload_n rfl (g_getR (mz_at hS (Nat.le_of_ble_eq_true rfl) mzcS_0) mzcf_11_3 (mz_rb hR (Nat.le_of_ble_eq_true rfl) rfl mzcR_0_3) (g_getR (mz_at hS (Nat.le_of_ble_eq_true rfl) mzcS_56) mzcf_9_0 (mz_rb hR (Nat.le_of_ble_eq_true rfl) rfl mzcR_56_0) (g_iconst mzi_1 (g_aald4 (m := 59) (mz_at hS (Nat.le_of_ble_eq_true rfl) mzcS_57) (mz_ibd (by decide)) (mz_rb hR (Nat.le_of_ble_eq_true rfl) rfl mzcRr_57_1) (g_iload_n rfl (g_iconst mzi_0 ?_)))))))
        have h6 := hp
        refine g_iast (mz_at hS (Nat.le_of_ble_eq_true rfl) mzcS_59) h6 (g_iconst mzi_1 ?_)
        exact g_zret (z := true) rfl (hr _ _ hC)
    · have hp := hp.2 h7
      exact ht _ _ _ h7 hC
  · have hp := hp.2 h8
    exact ht _ _ _ h8 hC
theorem cs_283 (hd : 2 ≤ d) (hS : mz_extR S 232) (hR : mz_rok R 232)  (v1 : Int32) (N : mz_N) (hp : cp_283_0 v1 N) (h1000 : t < 1000) (h0 : (cf_283_0 v1 N).1 = 0 → Q (.inl (some (.int (mz_b01 ((cf_283_0 v1 N).2.1))))) (mz_k S R ((cf_283_0 v1 N).2.2) b t)) (h1 : ¬ (cf_283_0 v1 N).1 = 0 → Q (.inr (((cf_283_0 v1 N).1) - 1)) (mz_k S R ((cf_283_0 v1 N).2.2) b (t + 1))) : mz_Ed (mz_X0 L xs) d 283 [.ref 0, .int v1] (mz_k S R N b t) Q :=
  by
  refine g_in mzq_283 (Nat.le_of_ble_eq_true rfl) (Nat.le_of_ble_eq_true rfl) (Nat.le_trans (Nat.le_of_ble_eq_true rfl) hd) ?_
  refine g_weak ?_ (cg_283_0 (d := d - 1) (by omega) hS hR v1 N (C0 := fun z => (z.1 = 0 → Q (.inl (some (.int (mz_b01 z.2.1)))) (mz_k S R z.2.2 b t)) ∧ (¬ z.1 = 0 → Q (.inr (z.1 - 1)) (mz_k S R z.2.2 b (t + 1)))) (fun _ _ h => h.1 rfl) (fun c _ _ hc h => h.2 hc) h1000 hp ⟨h0, h1⟩)
  exact ⟨rfl, rfl, trivial⟩
/-! 282 KeptHouseLaw.reset (LKeptHouse;I[J)I -/
theorem ms_282_0 : mz_sf mk_282 0 = mk_282 := mz_sf_zero _
theorem ms_282_14 : mz_sf mk_282 14 = mt_282_14 := mz_sf_add ms_282_0 (t := 14) rfl rfl
theorem ms_282_15 : mz_sf mk_282 15 = mt_282_15 := mz_sf_add ms_282_14 (t := 1) rfl rfl
theorem ms_282_20 : mz_sf mk_282 20 = mt_282_20 := mz_sf_add ms_282_15 (t := 5) rfl rfl
theorem ms_282_23 : mz_sf mk_282 23 = mt_282_23 := mz_sf_add ms_282_20 (t := 3) rfl rfl
theorem ms_282_25 : mz_sf mk_282 25 = mt_282_25 := mz_sf_add ms_282_23 (t := 2) rfl rfl
set_option maxRecDepth 100000 in
theorem mzq_282 : mz_PG0 282 = some (13, ⟨"KeptHouseLaw", "reset", "(LKeptHouse;I[J)I"⟩, method_30_code, 4, some .int, [(0, 16, 19, 13), (0, 16, 22, 15)], mk_282, [(0, 19, 20), (1, 22, 23)]) := rfl
theorem cg_282_15 (hd : 2 ≤ d) (hS : mz_extR S 343) (hR : mz_rok R 343)  (s1 : Int32) (s2 : Int64) (N : mz_N) (t : Nat) {C0 : (Int32 × mz_N × Nat) → Prop} (hr : ∀ (w : Int32) (N2 : mz_N) (t2 : Nat), C0 (w, N2, t2) → Q (.inl (some (.int w))) (mz_k S R N2 b t2)) (hp : cp_282_15 s1 s2 N t) (hC : C0 (cf_282_15 s1 s2 N t)) : mz_G (d, mz_X0 L xs, some .int, [(0, 19, 20), (1, 22, 23)], mk_282, 4, Q) 15 mt_282_15 [] [.long s2, .int s1, .ref 342] false (mz_k S R N b t) := by
  unfold cf_282_15 at hC
  unfold cp_282_15 at hp
  have h1 := hp
  refine g_last (mz_at hS (Nat.le_of_ble_eq_true rfl) mzcS_342) h1 (g_goto (tg := 25) rfl ms_282_25 (g_iconst mzi_0 ?_))
  exact g_iret rfl (hr _ _ _ hC)
theorem cg_282_0 (hd : 2 ≤ d) (hS : mz_extR S 343) (hR : mz_rok R 343)  (v1 : Int32) (N : mz_N) (t : Nat) {C0 : (Int32 × mz_N × Nat) → Prop} (hr : ∀ (w : Int32) (N2 : mz_N) (t2 : Nat), C0 (w, N2, t2) → Q (.inl (some (.int w))) (mz_k S R N2 b t2)) (hp : cp_282_0 v1 N t) (hC : C0 (cf_282_0 v1 N t)) : mz_G (d, mz_X0 L xs, some .int, [(0, 19, 20), (1, 22, 23)], mk_282, 4, Q) 0 mk_282 [(0, .ref 0), (1, .int v1), (2, .ref 342)] [] true (mz_k S R N b t) := by
  unfold cf_282_0 at hC
  unfold cp_282_0 at hp
  refine g_aload_n rfl (g_iconst mzi_0 (g_aload_n rfl (g_iload_n rfl ?_)))
  obtain ⟨h1, hp⟩ := hp
  obtain ⟨h1000, hp⟩ := hp
  refine g_v2vh (Nat.le_of_ble_eq_true rfl) (mz_at hS (Nat.le_of_ble_eq_true rfl) mzcS_0) (fun _ hz0 hz1 => cs_283 (Nat.le_trans (Nat.le_of_ble_eq_true rfl) hd) (hS.le (Nat.le_of_ble_eq_true rfl)) (hR.le (Nat.le_of_ble_eq_true rfl))  v1 N h1 h1000 hz0 hz1) hC (fun h2 hC => ?_) (fun h2 hC => ?_)
  · have hp := hp.1 h2
    refine g_zeq (tg := 14) rfl ms_282_14 hC (fun h3 hC => ?_) (fun h3 hC => ?_)
    · have hp := hp.1 h3
      refine g_lconst mzl_1 (g_goto (tg := 15) rfl ms_282_15 ?_)
      refine g_weak ?_ (g_cl (cg_282_15 hd hS hR 0 1 ((cf_283_0 v1 N).2.2) t hr hp hC))
      exact trivial
    · have hp := hp.2 h3
      refine g_lconst mzl_0 ?_
      refine g_weak ?_ (g_cl (cg_282_15 hd hS hR 0 0 ((cf_283_0 v1 N).2.2) t hr hp hC))
      exact trivial
  · have hp := hp.2 h2
    refine mz_cs hC (fun h7 hC => ?_) (fun h7 hC => ?_)
    · have hp := hp.1 h7
      refine ⟨(0, 19, 20), (by rw [h7]; rfl), ?_⟩
      show mz_G (d, mz_X0 L xs, some .int, [(0, 19, 20), (1, 22, 23)], mk_282, 4, Q) 20 (mz_sf mk_282 20) [] [] false (mz_k S R ((cf_283_0 v1 N).2.2) b (t + 1))
      rw [ms_282_20]
      refine g_iconst mzi_1 ?_
      exact g_iret rfl (hr _ _ _ hC)
    · have hp := hp.2 h7
      have h5 := hp
      refine ⟨(1, 22, 23), (by rw [h5]; rfl), ?_⟩
      show mz_G (d, mz_X0 L xs, some .int, [(0, 19, 20), (1, 22, 23)], mk_282, 4, Q) 23 (mz_sf mk_282 23) [] [] false (mz_k S R ((cf_283_0 v1 N).2.2) b (t + 1))
      rw [ms_282_23]
      refine g_iconst mzi_2 ?_
      exact g_iret rfl (hr _ _ _ hC)
theorem cs_282 (hd : 3 ≤ d) (hS : mz_extR S 343) (hR : mz_rok R 343)  (v1 : Int32) (N : mz_N) (t : Nat) (hp : cp_282_0 v1 N t) (hq : Q (.inl (some (.int ((cf_282_0 v1 N t).1)))) (mz_k S R ((cf_282_0 v1 N t).2.1) b ((cf_282_0 v1 N t).2.2))) : mz_Ed (mz_X0 L xs) d 282 [.ref 0, .int v1, .ref 342] (mz_k S R N b t) Q :=
  by
  refine g_in mzq_282 (Nat.le_of_ble_eq_true rfl) (Nat.le_of_ble_eq_true rfl) (Nat.le_trans (Nat.le_of_ble_eq_true rfl) hd) ?_
  refine g_weak ?_ (cg_282_0 (d := d - 1) (by omega) hS hR v1 N t (C0 := fun z => Q (.inl (some (.int z.1))) (mz_k S R z.2.1 b z.2.2)) (fun _ _ _ h => h) hp hq)
  exact ⟨rfl, rfl, rfl, trivial⟩
/-! 285 KeptHouse.circuit (II)I -/
theorem ms_285_0 : mz_sf mk_285 0 = mk_285 := mz_sf_zero _
set_option maxRecDepth 100000 in
theorem mzq_285 : mz_PG0 285 = some (11, ⟨"KeptHouse", "circuit", "(II)I"⟩, prog_1_method_35_code, 3, some .int, [], mk_285, []) := rfl
theorem cg_285_0 (hd : 1 ≤ d) (hS : mz_extR S 232) (hR : mz_rok R 232)  (v1 : Int32) (v2 : Int32) (N : mz_N) {C0 : (Nat × Int32) → Prop} (hr : ∀ (w : Int32), C0 (0, w) → Q (.inl (some (.int w))) (mz_k S R N b t)) (ht : ∀ (c : Nat) (w : Int32), ¬ c = 0 → C0 (c, w) → Q (.inr (c - 1)) (mz_k S R N b (t + 1))) (h1000 : t < 1000) (hp : cp_285_0 v1 v2 N) (hC : C0 (cf_285_0 v1 v2 N)) : mz_G (d, mz_X0 L xs, some .int, [], mk_285, 3, Q) 0 mk_285 [(0, .ref 0), (1, .int v1), (2, .int v2)] [] true (mz_k S R N b t) := by
  unfold cf_285_0 at hC
  unfold cp_285_0 at hp
  refine g_aload_n rfl ?_
  obtain ⟨h1, hp⟩ := hp
  refine g_v1nt (Nat.le_of_ble_eq_true rfl) (mz_at hS (Nat.le_of_ble_eq_true rfl) mzcS_0) rfl (fun _ hz0 hz1 => cs_104 (Nat.le_trans (Nat.le_of_ble_eq_true rfl) hd) (hS.le (Nat.le_of_ble_eq_true rfl)) (hR.le (Nat.le_of_ble_eq_true rfl))  N h1 h1000 hz0 hz1) hC (fun h8 hC => ?_) (fun h8 hC => ?_)
  · have hp := hp.1 h8
    refine g_iload_n rfl (g_iconst mzi_0 (g_bipush mzb_10 ?_))
    obtain ⟨h2, hp⟩ := hp
    refine g_s3nt (Nat.le_of_ble_eq_true rfl) rfl (fun _ hz0 hz1 => cs_105 (Nat.le_trans (Nat.le_of_ble_eq_true rfl) hd) (hS.le (Nat.le_of_ble_eq_true rfl)) (hR.le (Nat.le_of_ble_eq_true rfl))  v1 0 10 h2 h1000 hz0 hz1) hC (fun h7 hC => ?_) (fun h7 hC => ?_)
    · have hp := hp.1 h7
      refine g_iload_n rfl (g_iconst mzi_0 (g_iconst mzi_5 ?_))
      obtain ⟨h3, hp⟩ := hp
      refine g_s3nt (Nat.le_of_ble_eq_true rfl) rfl (fun _ hz0 hz1 => cs_105 (Nat.le_trans (Nat.le_of_ble_eq_true rfl) hd) (hS.le (Nat.le_of_ble_eq_true rfl)) (hR.le (Nat.le_of_ble_eq_true rfl))  v2 0 5 h3 h1000 hz0 hz1) hC (fun h6 hC => ?_) (fun h6 hC => ?_)
      · have hp := hp.1 h6
        refine g_aload_n rfl (g_getR (mz_at hS (Nat.le_of_ble_eq_true rfl) mzcS_0) mzcf_11_3 (mz_rb hR (Nat.le_of_ble_eq_true rfl) rfl mzcR_0_3) (g_getR (mz_at hS (Nat.le_of_ble_eq_true rfl) mzcS_56) mzcf_9_0 (mz_rb hR (Nat.le_of_ble_eq_true rfl) rfl mzcR_56_0) (g_iload_n rfl ?_)))
        obtain ⟨h4, hp⟩ := hp
        refine g_aald4 (mz_at hS (Nat.le_of_ble_eq_true rfl) mzcS_57) h4 (mz_rb hR (Nat.le_of_ble_eq_true rfl) rfl (mzcR2_57 h4)) (g_iload_n rfl ?_)
        have h5 := hp
        refine g_iald hS.1 (mz_at hS (mzcL2_57 h4 (Nat.le_of_ble_eq_true rfl)) (mzcS2_57 h4)) h5 ?_
        exact g_iret rfl (hr _ hC)
      · have hp := hp.2 h6
        exact ht _ _ h6 hC
    · have hp := hp.2 h7
      exact ht _ _ h7 hC
  · have hp := hp.2 h8
    exact ht _ _ h8 hC
theorem cs_285 (hd : 2 ≤ d) (hS : mz_extR S 232) (hR : mz_rok R 232)  (v1 : Int32) (v2 : Int32) (N : mz_N) (hp : cp_285_0 v1 v2 N) (h1000 : t < 1000) (h0 : (cf_285_0 v1 v2 N).1 = 0 → Q (.inl (some (.int ((cf_285_0 v1 v2 N).2)))) (mz_k S R N b t)) (h1 : ¬ (cf_285_0 v1 v2 N).1 = 0 → Q (.inr (((cf_285_0 v1 v2 N).1) - 1)) (mz_k S R N b (t + 1))) : mz_Ed (mz_X0 L xs) d 285 [.ref 0, .int v1, .int v2] (mz_k S R N b t) Q :=
  by
  refine g_in mzq_285 (Nat.le_of_ble_eq_true rfl) (Nat.le_of_ble_eq_true rfl) (Nat.le_trans (Nat.le_of_ble_eq_true rfl) hd) ?_
  refine g_weak ?_ (cg_285_0 (d := d - 1) (by omega) hS hR v1 v2 N (C0 := fun z => (z.1 = 0 → Q (.inl (some (.int z.2))) (mz_k S R N b t)) ∧ (¬ z.1 = 0 → Q (.inr (z.1 - 1)) (mz_k S R N b (t + 1)))) (fun _ h => h.1 rfl) (fun c _ hc h => h.2 hc) h1000 hp ⟨h0, h1⟩)
  exact ⟨rfl, rfl, rfl, trivial⟩
/-! 284 KeptHouseLaw.circuit (LKeptHouse;II[J)I -/
theorem ms_284_0 : mz_sf mk_284 0 = mk_284 := mz_sf_zero _
theorem ms_284_15 : mz_sf mk_284 15 = mt_284_15 := mz_sf_add ms_284_0 (t := 15) rfl rfl
theorem ms_284_19 : mz_sf mk_284 19 = mt_284_19 := mz_sf_add ms_284_15 (t := 4) rfl rfl
theorem ms_284_21 : mz_sf mk_284 21 = mt_284_21 := mz_sf_add ms_284_19 (t := 2) rfl rfl
set_option maxRecDepth 100000 in
theorem mzq_284 : mz_PG0 284 = some (13, ⟨"KeptHouseLaw", "circuit", "(LKeptHouse;II[J)I"⟩, method_31_code, 5, some .int, [(0, 10, 13, 13), (0, 10, 17, 15)], mk_284, [(0, 13, 15), (1, 17, 19)]) := rfl
theorem cg_284_0 (hd : 2 ≤ d) (hS : mz_extR S 343) (hR : mz_rok R 343)  (v1 : Int32) (v2 : Int32) (N : mz_N) (t : Nat) {C0 : (Int32 × mz_N × Nat) → Prop} (hr : ∀ (w : Int32) (N2 : mz_N) (t2 : Nat), C0 (w, N2, t2) → Q (.inl (some (.int w))) (mz_k S R N2 b t2)) (hp : cp_284_0 v1 v2 N t) (hC : C0 (cf_284_0 v1 v2 N t)) : mz_G (d, mz_X0 L xs, some .int, [(0, 13, 15), (1, 17, 19)], mk_284, 5, Q) 0 mk_284 [(0, .ref 0), (1, .int v1), (2, .int v2), (3, .ref 342)] [] true (mz_k S R N b t) := by
  unfold cf_284_0 at hC
  unfold cp_284_0 at hp
  refine g_aload_n rfl (g_iconst mzi_0 (g_aload_n rfl (g_iload_n rfl (g_iload_n rfl ?_))))
  obtain ⟨h1, hp⟩ := hp
  obtain ⟨h1000, hp⟩ := hp
  refine g_v3vh (Nat.le_of_ble_eq_true rfl) (mz_at hS (Nat.le_of_ble_eq_true rfl) mzcS_0) (fun _ hz0 hz1 => cs_285 (Nat.le_trans (Nat.le_of_ble_eq_true rfl) hd) (hS.le (Nat.le_of_ble_eq_true rfl)) (hR.le (Nat.le_of_ble_eq_true rfl))  v1 v2 N h1 h1000 hz0 hz1) hC (fun h2 hC => ?_) (fun h2 hC => ?_)
  · have hp := hp.1 h2
    refine g_i2l (g_last (mz_at hS (Nat.le_of_ble_eq_true rfl) mzcS_342) (mz_ibd (by decide)) (g_goto (tg := 21) rfl ms_284_21 (g_iconst mzi_0 ?_)))
    exact g_iret rfl (hr _ _ _ hC)
  · have hp := hp.2 h2
    refine mz_cs hC (fun h6 hC => ?_) (fun h6 hC => ?_)
    · have hp := hp.1 h6
      refine ⟨(0, 13, 15), (by rw [h6]; rfl), ?_⟩
      show mz_G (d, mz_X0 L xs, some .int, [(0, 13, 15), (1, 17, 19)], mk_284, 5, Q) 15 (mz_sf mk_284 15) [] [] false (mz_k S R N b (t + 1))
      rw [ms_284_15]
      refine g_iconst mzi_1 ?_
      exact g_iret rfl (hr _ _ _ hC)
    · have hp := hp.2 h6
      have h4 := hp
      refine ⟨(1, 17, 19), (by rw [h4]; rfl), ?_⟩
      show mz_G (d, mz_X0 L xs, some .int, [(0, 13, 15), (1, 17, 19)], mk_284, 5, Q) 19 (mz_sf mk_284 19) [] [] false (mz_k S R N b (t + 1))
      rw [ms_284_19]
      refine g_iconst mzi_2 ?_
      exact g_iret rfl (hr _ _ _ hC)
theorem cs_284 (hd : 3 ≤ d) (hS : mz_extR S 343) (hR : mz_rok R 343)  (v1 : Int32) (v2 : Int32) (N : mz_N) (t : Nat) (hp : cp_284_0 v1 v2 N t) (hq : Q (.inl (some (.int ((cf_284_0 v1 v2 N t).1)))) (mz_k S R ((cf_284_0 v1 v2 N t).2.1) b ((cf_284_0 v1 v2 N t).2.2))) : mz_Ed (mz_X0 L xs) d 284 [.ref 0, .int v1, .int v2, .ref 342] (mz_k S R N b t) Q :=
  by
  refine g_in mzq_284 (Nat.le_of_ble_eq_true rfl) (Nat.le_of_ble_eq_true rfl) (Nat.le_trans (Nat.le_of_ble_eq_true rfl) hd) ?_
  refine g_weak ?_ (cg_284_0 (d := d - 1) (by omega) hS hR v1 v2 N t (C0 := fun z => Q (.inl (some (.int z.1))) (mz_k S R z.2.1 b z.2.2)) (fun _ _ _ h => h) hp hq)
  exact ⟨rfl, rfl, rfl, rfl, trivial⟩
/-! 287 KeptHouse.state (I)I -/
theorem ms_287_0 : mz_sf mk_287 0 = mk_287 := mz_sf_zero _
theorem ms_287_76 : mz_sf mk_287 76 = mt_287_76 := mz_sf_add ms_287_0 (t := 76) rfl rfl
theorem ms_287_84 : mz_sf mk_287 84 = mt_287_84 := mz_sf_add ms_287_76 (t := 8) rfl rfl
theorem ms_287_92 : mz_sf mk_287 92 = mt_287_92 := mz_sf_add ms_287_84 (t := 8) rfl rfl
theorem ms_287_100 : mz_sf mk_287 100 = mt_287_100 := mz_sf_add ms_287_92 (t := 8) rfl rfl
theorem ms_287_114 : mz_sf mk_287 114 = mt_287_114 := mz_sf_add ms_287_100 (t := 14) rfl rfl
theorem ms_287_115 : mz_sf mk_287 115 = mt_287_115 := mz_sf_add ms_287_114 (t := 1) rfl rfl
theorem ms_287_116 : mz_sf mk_287 116 = mt_287_116 := mz_sf_add ms_287_115 (t := 1) rfl rfl
theorem ms_287_124 : mz_sf mk_287 124 = mt_287_124 := mz_sf_add ms_287_116 (t := 8) rfl rfl
theorem ms_287_132 : mz_sf mk_287 132 = mt_287_132 := mz_sf_add ms_287_124 (t := 8) rfl rfl
theorem ms_287_140 : mz_sf mk_287 140 = mt_287_140 := mz_sf_add ms_287_132 (t := 8) rfl rfl
theorem ms_287_154 : mz_sf mk_287 154 = mt_287_154 := mz_sf_add ms_287_140 (t := 14) rfl rfl
theorem ms_287_155 : mz_sf mk_287 155 = mt_287_155 := mz_sf_add ms_287_154 (t := 1) rfl rfl
theorem ms_287_156 : mz_sf mk_287 156 = mt_287_156 := mz_sf_add ms_287_155 (t := 1) rfl rfl
theorem ms_287_170 : mz_sf mk_287 170 = mt_287_170 := mz_sf_add ms_287_156 (t := 14) rfl rfl
theorem ms_287_171 : mz_sf mk_287 171 = mt_287_171 := mz_sf_add ms_287_170 (t := 1) rfl rfl
theorem ms_287_172 : mz_sf mk_287 172 = mt_287_172 := mz_sf_add ms_287_171 (t := 1) rfl rfl
set_option maxRecDepth 100000 in
theorem mzq_287 : mz_PG0 287 = some (11, ⟨"KeptHouse", "state", "(I)I"⟩, prog_1_method_36_code, 2, some .int, [], mk_287, []) := rfl
theorem cg_287_0 (hd : 1 ≤ d) (hS : mz_extR S 232) (hR : mz_rok R 232)  (v1 : Int32) (N : mz_N) {C0 : (Nat × Int32) → Prop} (hr : ∀ (w : Int32), C0 (0, w) → Q (.inl (some (.int w))) (mz_k S R N b t)) (ht : ∀ (c : Nat) (w : Int32), ¬ c = 0 → C0 (c, w) → Q (.inr (c - 1)) (mz_k S R N b (t + 1))) (h1000 : t < 1000) (hp : cp_287_0 v1 N) (hC : C0 (cf_287_0 v1 N)) : mz_G (d, mz_X0 L xs, some .int, [], mk_287, 2, Q) 0 mk_287 [(0, .ref 0), (1, .int v1)] [] true (mz_k S R N b t) := by
  unfold cf_287_0 at hC
  unfold cp_287_0 at hp
  refine g_aload_n rfl ?_
  obtain ⟨h1, hp⟩ := hp
  refine g_v1nt (Nat.le_of_ble_eq_true rfl) (mz_at hS (Nat.le_of_ble_eq_true rfl) mzcS_0) rfl (fun _ hz0 hz1 => cs_104 (Nat.le_trans (Nat.le_of_ble_eq_true rfl) hd) (hS.le (Nat.le_of_ble_eq_true rfl)) (hR.le (Nat.le_of_ble_eq_true rfl))  N h1 h1000 hz0 hz1) hC (fun h20 hC => ?_) (fun h20 hC => ?_)
  · have hp := hp.1 h20
    refine g_iload_n rfl (g_iconst mzi_0 (g_bipush mzb_10 ?_))
    obtain ⟨h2, hp⟩ := hp
    refine g_s3nt (Nat.le_of_ble_eq_true rfl) rfl (fun _ hz0 hz1 => cs_105 (Nat.le_trans (Nat.le_of_ble_eq_true rfl) hd) (hS.le (Nat.le_of_ble_eq_true rfl)) (hR.le (Nat.le_of_ble_eq_true rfl))  v1 0 10 h2 h1000 hz0 hz1) hC (fun h19 hC => ?_) (fun h19 hC => ?_)
    · have hp := hp.1 h19
      refine g_iload_n rfl ?_
      refine mz_cs hC (fun h3 hC => ?_) (fun h3 hC => ?_)
      · have hp := hp.1 h3
        refine g_brn (tg := 68) (by rw [h3]; rfl) (by decide) rfl ?_
        refine g_aload_n rfl (g_getR (mz_at hS (Nat.le_of_ble_eq_true rfl) mzcS_0) mzcf_11_3 (mz_rb hR (Nat.le_of_ble_eq_true rfl) rfl mzcR_0_3) (g_getI (mz_at hS (Nat.le_of_ble_eq_true rfl) mzcS_56) mzcf_9_1 ?_))
        exact g_iret rfl (hr _ hC)
      · have hp := hp.2 h3
        refine mz_cs hC (fun h4 hC => ?_) (fun h4 hC => ?_)
        · have hp := hp.1 h4
          refine g_br (tg := 76) (by rw [h4]; rfl) ms_287_76 ?_
          refine g_aload_n rfl (g_getR (mz_at hS (Nat.le_of_ble_eq_true rfl) mzcS_0) mzcf_11_3 (mz_rb hR (Nat.le_of_ble_eq_true rfl) rfl mzcR_0_3) (g_getI (mz_at hS (Nat.le_of_ble_eq_true rfl) mzcS_56) mzcf_9_2 ?_))
          exact g_iret rfl (hr _ hC)
        · have hp := hp.2 h4
          refine mz_cs hC (fun h5 hC => ?_) (fun h5 hC => ?_)
          · have hp := hp.1 h5
            refine g_br (tg := 84) (by rw [h5]; rfl) ms_287_84 ?_
            refine g_aload_n rfl (g_getR (mz_at hS (Nat.le_of_ble_eq_true rfl) mzcS_0) mzcf_11_3 (mz_rb hR (Nat.le_of_ble_eq_true rfl) rfl mzcR_0_3) (g_getI (mz_at hS (Nat.le_of_ble_eq_true rfl) mzcS_56) mzcf_9_3 ?_))
            exact g_iret rfl (hr _ hC)
          · have hp := hp.2 h5
            refine mz_cs hC (fun h6 hC => ?_) (fun h6 hC => ?_)
            · have hp := hp.1 h6
              refine g_br (tg := 92) (by rw [h6]; rfl) ms_287_92 ?_
              refine g_aload_n rfl (g_getR (mz_at hS (Nat.le_of_ble_eq_true rfl) mzcS_0) mzcf_11_3 (mz_rb hR (Nat.le_of_ble_eq_true rfl) rfl mzcR_0_3) (g_getI (mz_at hS (Nat.le_of_ble_eq_true rfl) mzcS_56) mzcf_9_7 ?_))
              exact g_iret rfl (hr _ hC)
            · have hp := hp.2 h6
              refine mz_cs hC (fun h7 hC => ?_) (fun h7 hC => ?_)
              · have hp := hp.1 h7
                refine g_br (tg := 100) (by rw [h7]; rfl) ms_287_100 ?_
                refine g_aload_n rfl (g_getR (mz_at hS (Nat.le_of_ble_eq_true rfl) mzcS_0) mzcf_11_3 (mz_rb hR (Nat.le_of_ble_eq_true rfl) rfl mzcR_0_3) ?_)
                have h17 := hp
                refine g_getZ (mz_at hS (Nat.le_of_ble_eq_true rfl) mzcS_56) mzcf_9_8 h17 ?_
                refine g_zeq (tg := 114) rfl ms_287_114 hC (fun h18 hC => ?_) (fun h18 hC => ?_)
                · refine g_iconst mzi_1 (g_goto (tg := 115) rfl ms_287_115 ?_)
                  exact g_iret rfl (hr _ hC)
                · refine g_iconst mzi_0 ?_
                  exact g_iret rfl (hr _ hC)
              · have hp := hp.2 h7
                refine mz_cs hC (fun h8 hC => ?_) (fun h8 hC => ?_)
                · have hp := hp.1 h8
                  refine g_br (tg := 116) (by rw [h8]; rfl) ms_287_116 ?_
                  refine g_aload_n rfl (g_getR (mz_at hS (Nat.le_of_ble_eq_true rfl) mzcS_0) mzcf_11_3 (mz_rb hR (Nat.le_of_ble_eq_true rfl) rfl mzcR_0_3) (g_getI (mz_at hS (Nat.le_of_ble_eq_true rfl) mzcS_56) mzcf_9_11 ?_))
                  exact g_iret rfl (hr _ hC)
                · have hp := hp.2 h8
                  refine mz_cs hC (fun h9 hC => ?_) (fun h9 hC => ?_)
                  · have hp := hp.1 h9
                    refine g_br (tg := 124) (by rw [h9]; rfl) ms_287_124 ?_
                    refine g_aload_n rfl (g_getR (mz_at hS (Nat.le_of_ble_eq_true rfl) mzcS_0) mzcf_11_3 (mz_rb hR (Nat.le_of_ble_eq_true rfl) rfl mzcR_0_3) (g_getI (mz_at hS (Nat.le_of_ble_eq_true rfl) mzcS_56) mzcf_9_12 ?_))
                    exact g_iret rfl (hr _ hC)
                  · have hp := hp.2 h9
                    refine mz_cs hC (fun h10 hC => ?_) (fun h10 hC => ?_)
                    · have hp := hp.1 h10
                      refine g_br (tg := 132) (by rw [h10]; rfl) ms_287_132 ?_
                      refine g_aload_n rfl (g_getR (mz_at hS (Nat.le_of_ble_eq_true rfl) mzcS_0) mzcf_11_3 (mz_rb hR (Nat.le_of_ble_eq_true rfl) rfl mzcR_0_3) (g_getI (mz_at hS (Nat.le_of_ble_eq_true rfl) mzcS_56) mzcf_9_13 ?_))
                      exact g_iret rfl (hr _ hC)
                    · have hp := hp.2 h10
                      refine mz_cs hC (fun h11 hC => ?_) (fun h11 hC => ?_)
                      · have hp := hp.1 h11
                        refine g_br (tg := 140) (by rw [h11]; rfl) ms_287_140 ?_
                        refine g_aload_n rfl (g_getR (mz_at hS (Nat.le_of_ble_eq_true rfl) mzcS_0) mzcf_11_3 (mz_rb hR (Nat.le_of_ble_eq_true rfl) rfl mzcR_0_3) ?_)
                        have h15 := hp
                        refine g_getZ (mz_at hS (Nat.le_of_ble_eq_true rfl) mzcS_56) mzcf_9_9 h15 ?_
                        refine g_zeq (tg := 154) rfl ms_287_154 hC (fun h16 hC => ?_) (fun h16 hC => ?_)
                        · refine g_iconst mzi_1 (g_goto (tg := 155) rfl ms_287_155 ?_)
                          exact g_iret rfl (hr _ hC)
                        · refine g_iconst mzi_0 ?_
                          exact g_iret rfl (hr _ hC)
                      · have hp := hp.2 h11
                        refine mz_cs hC (fun h12 hC => ?_) (fun h12 hC => ?_)
                        · have hp := hp.1 h12
                          refine g_br (tg := 156) (by rw [h12]; rfl) ms_287_156 ?_
                          refine g_aload_n rfl (g_getR (mz_at hS (Nat.le_of_ble_eq_true rfl) mzcS_0) mzcf_11_3 (mz_rb hR (Nat.le_of_ble_eq_true rfl) rfl mzcR_0_3) ?_)
                          have h13 := hp
                          refine g_getZ (mz_at hS (Nat.le_of_ble_eq_true rfl) mzcS_56) mzcf_9_5 h13 ?_
                          refine g_zeq (tg := 170) rfl ms_287_170 hC (fun h14 hC => ?_) (fun h14 hC => ?_)
                          · refine g_iconst mzi_1 (g_goto (tg := 171) rfl ms_287_171 ?_)
                            exact g_iret rfl (hr _ hC)
                          · refine g_iconst mzi_0 ?_
                            exact g_iret rfl (hr _ hC)
                        · have hp := hp.2 h12
                          refine g_br (tg := 172) ((mz_tsw_d (l := [0, 1, 2, 3, 4, 5, 6, 7, 8, 9]) (mz_rng 0 9) ⟨h3, h4, h5, h6, h7, h8, h9, h10, h11, h12, trivial⟩).trans (mz_tg_t rfl)) ms_287_172 ?_
                          refine g_aload_n rfl (g_getR (mz_at hS (Nat.le_of_ble_eq_true rfl) mzcS_0) mzcf_11_8 (mz_rb hR (Nat.le_of_ble_eq_true rfl) rfl mzcR_0_8) (g_getI (mz_at hS (Nat.le_of_ble_eq_true rfl) mzcS_208) mzcf_1_0 ?_))
                          exact g_iret rfl (hr _ hC)
    · have hp := hp.2 h19
      exact ht _ _ h19 hC
  · have hp := hp.2 h20
    exact ht _ _ h20 hC
theorem cs_287 (hd : 2 ≤ d) (hS : mz_extR S 232) (hR : mz_rok R 232)  (v1 : Int32) (N : mz_N) (hp : cp_287_0 v1 N) (h1000 : t < 1000) (h0 : (cf_287_0 v1 N).1 = 0 → Q (.inl (some (.int ((cf_287_0 v1 N).2)))) (mz_k S R N b t)) (h1 : ¬ (cf_287_0 v1 N).1 = 0 → Q (.inr (((cf_287_0 v1 N).1) - 1)) (mz_k S R N b (t + 1))) : mz_Ed (mz_X0 L xs) d 287 [.ref 0, .int v1] (mz_k S R N b t) Q :=
  by
  refine g_in mzq_287 (Nat.le_of_ble_eq_true rfl) (Nat.le_of_ble_eq_true rfl) (Nat.le_trans (Nat.le_of_ble_eq_true rfl) hd) ?_
  refine g_weak ?_ (cg_287_0 (d := d - 1) (by omega) hS hR v1 N (C0 := fun z => (z.1 = 0 → Q (.inl (some (.int z.2))) (mz_k S R N b t)) ∧ (¬ z.1 = 0 → Q (.inr (z.1 - 1)) (mz_k S R N b (t + 1)))) (fun _ h => h.1 rfl) (fun c _ hc h => h.2 hc) h1000 hp ⟨h0, h1⟩)
  exact ⟨rfl, rfl, trivial⟩
/-! 286 KeptHouseLaw.state (LKeptHouse;I[J)I -/
theorem ms_286_0 : mz_sf mk_286 0 = mk_286 := mz_sf_zero _
theorem ms_286_13 : mz_sf mk_286 13 = mt_286_13 := mz_sf_add ms_286_0 (t := 13) rfl rfl
theorem ms_286_16 : mz_sf mk_286 16 = mt_286_16 := mz_sf_add ms_286_13 (t := 3) rfl rfl
theorem ms_286_18 : mz_sf mk_286 18 = mt_286_18 := mz_sf_add ms_286_16 (t := 2) rfl rfl
set_option maxRecDepth 100000 in
theorem mzq_286 : mz_PG0 286 = some (13, ⟨"KeptHouseLaw", "state", "(LKeptHouse;I[J)I"⟩, method_32_code, 4, some .int, [(0, 9, 12, 13), (0, 9, 15, 15)], mk_286, [(0, 12, 13), (1, 15, 16)]) := rfl
theorem cg_286_0 (hd : 2 ≤ d) (hS : mz_extR S 343) (hR : mz_rok R 343)  (v1 : Int32) (N : mz_N) (t : Nat) {C0 : (Int32 × mz_N × Nat) → Prop} (hr : ∀ (w : Int32) (N2 : mz_N) (t2 : Nat), C0 (w, N2, t2) → Q (.inl (some (.int w))) (mz_k S R N2 b t2)) (hp : cp_286_0 v1 N t) (hC : C0 (cf_286_0 v1 N t)) : mz_G (d, mz_X0 L xs, some .int, [(0, 12, 13), (1, 15, 16)], mk_286, 4, Q) 0 mk_286 [(0, .ref 0), (1, .int v1), (2, .ref 342)] [] true (mz_k S R N b t) := by
  unfold cf_286_0 at hC
  unfold cp_286_0 at hp
  refine g_aload_n rfl (g_iconst mzi_0 (g_aload_n rfl (g_iload_n rfl ?_)))
  obtain ⟨h1, hp⟩ := hp
  obtain ⟨h1000, hp⟩ := hp
  refine g_v2vh (Nat.le_of_ble_eq_true rfl) (mz_at hS (Nat.le_of_ble_eq_true rfl) mzcS_0) (fun _ hz0 hz1 => cs_287 (Nat.le_trans (Nat.le_of_ble_eq_true rfl) hd) (hS.le (Nat.le_of_ble_eq_true rfl)) (hR.le (Nat.le_of_ble_eq_true rfl))  v1 N h1 h1000 hz0 hz1) hC (fun h2 hC => ?_) (fun h2 hC => ?_)
  · have hp := hp.1 h2
    refine g_i2l (g_last (mz_at hS (Nat.le_of_ble_eq_true rfl) mzcS_342) (mz_ibd (by decide)) (g_goto (tg := 18) rfl ms_286_18 (g_iconst mzi_0 ?_)))
    exact g_iret rfl (hr _ _ _ hC)
  · have hp := hp.2 h2
    refine mz_cs hC (fun h6 hC => ?_) (fun h6 hC => ?_)
    · have hp := hp.1 h6
      refine ⟨(0, 12, 13), (by rw [h6]; rfl), ?_⟩
      show mz_G (d, mz_X0 L xs, some .int, [(0, 12, 13), (1, 15, 16)], mk_286, 4, Q) 13 (mz_sf mk_286 13) [] [] false (mz_k S R N b (t + 1))
      rw [ms_286_13]
      refine g_iconst mzi_1 ?_
      exact g_iret rfl (hr _ _ _ hC)
    · have hp := hp.2 h6
      have h4 := hp
      refine ⟨(1, 15, 16), (by rw [h4]; rfl), ?_⟩
      show mz_G (d, mz_X0 L xs, some .int, [(0, 12, 13), (1, 15, 16)], mk_286, 4, Q) 16 (mz_sf mk_286 16) [] [] false (mz_k S R N b (t + 1))
      rw [ms_286_16]
      refine g_iconst mzi_2 ?_
      exact g_iret rfl (hr _ _ _ hC)
theorem cs_286 (hd : 3 ≤ d) (hS : mz_extR S 343) (hR : mz_rok R 343)  (v1 : Int32) (N : mz_N) (t : Nat) (hp : cp_286_0 v1 N t) (hq : Q (.inl (some (.int ((cf_286_0 v1 N t).1)))) (mz_k S R ((cf_286_0 v1 N t).2.1) b ((cf_286_0 v1 N t).2.2))) : mz_Ed (mz_X0 L xs) d 286 [.ref 0, .int v1, .ref 342] (mz_k S R N b t) Q :=
  by
  refine g_in mzq_286 (Nat.le_of_ble_eq_true rfl) (Nat.le_of_ble_eq_true rfl) (Nat.le_trans (Nat.le_of_ble_eq_true rfl) hd) ?_
  refine g_weak ?_ (cg_286_0 (d := d - 1) (by omega) hS hR v1 N t (C0 := fun z => Q (.inl (some (.int z.1))) (mz_k S R z.2.1 b z.2.2)) (fun _ _ _ h => h) hp hq)
  exact ⟨rfl, rfl, rfl, trivial⟩
/-! 289 KeptHouse.cell (III)J -/
theorem ms_289_0 : mz_sf mk_289 0 = mk_289 := mz_sf_zero _
theorem ms_289_23 : mz_sf mk_289 23 = mt_289_23 := mz_sf_add ms_289_0 (t := 23) rfl rfl
theorem ms_289_79 : mz_sf mk_289 79 = mt_289_79 := mz_sf_add ms_289_23 (t := 56) rfl rfl
theorem ms_289_90 : mz_sf mk_289 90 = mt_289_90 := mz_sf_add ms_289_79 (t := 11) rfl rfl
theorem ms_289_101 : mz_sf mk_289 101 = mt_289_101 := mz_sf_add ms_289_90 (t := 11) rfl rfl
theorem ms_289_113 : mz_sf mk_289 113 = mt_289_113 := mz_sf_add ms_289_101 (t := 12) rfl rfl
theorem ms_289_125 : mz_sf mk_289 125 = mt_289_125 := mz_sf_add ms_289_113 (t := 12) rfl rfl
set_option maxRecDepth 100000 in
theorem mzq_289 : mz_PG0 289 = some (11, ⟨"KeptHouse", "cell", "(III)J"⟩, prog_1_method_37_code, 5, some .long, [], mk_289, []) := rfl
theorem cg_289_0 (hd : 1 ≤ d) (hS : mz_extR S 232) (hR : mz_rok R 232)  (v1 : Int32) (v2 : Int32) (v3 : Int32) (N : mz_N) {C0 : (Nat × Int64) → Prop} (hr : ∀ (w : Int64), C0 (0, w) → Q (.inl (some (.long w))) (mz_k S R N b t)) (ht : ∀ (c : Nat) (w : Int64), ¬ c = 0 → C0 (c, w) → Q (.inr (c - 1)) (mz_k S R N b (t + 1))) (h1000 : t < 1000) (hp : cp_289_0 v1 v2 v3 N) (hC : C0 (cf_289_0 v1 v2 v3 N)) : mz_G (d, mz_X0 L xs, some .long, [], mk_289, 5, Q) 0 mk_289 [(0, .ref 0), (1, .int v1), (2, .int v2), (3, .int v3)] [] true (mz_k S R N b t) := by
  unfold cf_289_0 at hC
  unfold cp_289_0 at hp
  refine g_aload_n rfl ?_
  obtain ⟨h1, hp⟩ := hp
  refine g_v1nt (Nat.le_of_ble_eq_true rfl) (mz_at hS (Nat.le_of_ble_eq_true rfl) mzcS_0) rfl (fun _ hz0 hz1 => cs_104 (Nat.le_trans (Nat.le_of_ble_eq_true rfl) hd) (hS.le (Nat.le_of_ble_eq_true rfl)) (hR.le (Nat.le_of_ble_eq_true rfl))  N h1 h1000 hz0 hz1) hC (fun h19 hC => ?_) (fun h19 hC => ?_)
  · have hp := hp.1 h19
    refine g_iload_n rfl (g_iconst mzi_0 (g_iconst mzi_4 ?_))
    obtain ⟨h2, hp⟩ := hp
    refine g_s3nt (Nat.le_of_ble_eq_true rfl) rfl (fun _ hz0 hz1 => cs_105 (Nat.le_trans (Nat.le_of_ble_eq_true rfl) hd) (hS.le (Nat.le_of_ble_eq_true rfl)) (hR.le (Nat.le_of_ble_eq_true rfl))  v1 0 4 h2 h1000 hz0 hz1) hC (fun h18 hC => ?_) (fun h18 hC => ?_)
    · have hp := hp.1 h18
      refine g_iload_n rfl (g_iconst mzi_0 (g_bipush mzb_47 ?_))
      obtain ⟨h3, hp⟩ := hp
      refine g_s3nt (Nat.le_of_ble_eq_true rfl) rfl (fun _ hz0 hz1 => cs_105 (Nat.le_trans (Nat.le_of_ble_eq_true rfl) hd) (hS.le (Nat.le_of_ble_eq_true rfl)) (hR.le (Nat.le_of_ble_eq_true rfl))  v2 0 47 h3 h1000 hz0 hz1) hC (fun h17 hC => ?_) (fun h17 hC => ?_)
      · have hp := hp.1 h17
        refine g_iload_n rfl (g_iconst mzi_0 (g_iconst mzi_5 ?_))
        obtain ⟨h4, hp⟩ := hp
        refine g_s3nt (Nat.le_of_ble_eq_true rfl) rfl (fun _ hz0 hz1 => cs_105 (Nat.le_trans (Nat.le_of_ble_eq_true rfl) hd) (hS.le (Nat.le_of_ble_eq_true rfl)) (hR.le (Nat.le_of_ble_eq_true rfl))  v3 0 5 h4 h1000 hz0 hz1) hC (fun h16 hC => ?_) (fun h16 hC => ?_)
        · have hp := hp.1 h16
          refine g_iload_n rfl (g_bipush mzb_48 (g_imul (g_iload_n rfl (g_iadd (g_istore (Nat.le_of_ble_eq_true rfl) rfl (g_iload_n rfl ?_))))))
          refine mz_cs hC (fun h5 hC => ?_) (fun h5 hC => ?_)
          · have hp := hp.1 h5
            refine g_brn (tg := 68) (by rw [h5]; rfl) (by decide) rfl ?_
            refine g_aload_n rfl (g_getR (mz_at hS (Nat.le_of_ble_eq_true rfl) mzcS_0) mzcf_11_4 (mz_rb hR (Nat.le_of_ble_eq_true rfl) rfl mzcR_0_4) (g_getR (mz_at hS (Nat.le_of_ble_eq_true rfl) mzcS_65) mzcf_3_2 (mz_rb hR (Nat.le_of_ble_eq_true rfl) rfl mzcR_65_2) (g_iload rfl ?_)))
            have h15 := hp
            refine g_lald (mz_at hS (Nat.le_of_ble_eq_true rfl) mzcS_68) h15 ?_
            exact g_lret rfl (hr _ hC)
          · have hp := hp.2 h5
            refine mz_cs hC (fun h6 hC => ?_) (fun h6 hC => ?_)
            · have hp := hp.1 h6
              refine g_br (tg := 79) (by rw [h6]; rfl) ms_289_79 ?_
              refine g_aload_n rfl (g_getR (mz_at hS (Nat.le_of_ble_eq_true rfl) mzcS_0) mzcf_11_4 (mz_rb hR (Nat.le_of_ble_eq_true rfl) rfl mzcR_0_4) (g_getR (mz_at hS (Nat.le_of_ble_eq_true rfl) mzcS_65) mzcf_3_3 (mz_rb hR (Nat.le_of_ble_eq_true rfl) rfl mzcR_65_3) (g_iload rfl ?_)))
              have h14 := hp
              refine g_lald (mz_at hS (Nat.le_of_ble_eq_true rfl) mzcS_69) h14 ?_
              exact g_lret rfl (hr _ hC)
            · have hp := hp.2 h6
              refine mz_cs hC (fun h7 hC => ?_) (fun h7 hC => ?_)
              · have hp := hp.1 h7
                refine g_br (tg := 90) (by rw [h7]; rfl) ms_289_90 ?_
                refine g_aload_n rfl (g_getR (mz_at hS (Nat.le_of_ble_eq_true rfl) mzcS_0) mzcf_11_4 (mz_rb hR (Nat.le_of_ble_eq_true rfl) rfl mzcR_0_4) (g_getR (mz_at hS (Nat.le_of_ble_eq_true rfl) mzcS_65) mzcf_3_4 (mz_rb hR (Nat.le_of_ble_eq_true rfl) rfl mzcR_65_4) (g_iload rfl ?_)))
                have h13 := hp
                refine g_lald (mz_at hS (Nat.le_of_ble_eq_true rfl) mzcS_70) h13 ?_
                exact g_lret rfl (hr _ hC)
              · have hp := hp.2 h7
                refine mz_cs hC (fun h8 hC => ?_) (fun h8 hC => ?_)
                · have hp := hp.1 h8
                  refine g_br (tg := 101) (by rw [h8]; rfl) ms_289_101 ?_
                  refine g_aload_n rfl (g_getR (mz_at hS (Nat.le_of_ble_eq_true rfl) mzcS_0) mzcf_11_4 (mz_rb hR (Nat.le_of_ble_eq_true rfl) rfl mzcR_0_4) (g_getR (mz_at hS (Nat.le_of_ble_eq_true rfl) mzcS_65) mzcf_3_6 (mz_rb hR (Nat.le_of_ble_eq_true rfl) rfl mzcR_65_6) (g_iload rfl ?_)))
                  have h12 := hp
                  refine g_iald hS.1 (mz_at hS (Nat.le_of_ble_eq_true rfl) mzcS_72) h12 (g_i2l ?_)
                  exact g_lret rfl (hr _ hC)
                · have hp := hp.2 h8
                  refine mz_cs hC (fun h9 hC => ?_) (fun h9 hC => ?_)
                  · have hp := hp.1 h9
                    refine g_br (tg := 113) (by rw [h9]; rfl) ms_289_113 ?_
                    refine g_aload_n rfl (g_getR (mz_at hS (Nat.le_of_ble_eq_true rfl) mzcS_0) mzcf_11_4 (mz_rb hR (Nat.le_of_ble_eq_true rfl) rfl mzcR_0_4) (g_getR (mz_at hS (Nat.le_of_ble_eq_true rfl) mzcS_65) mzcf_3_7 (mz_rb hR (Nat.le_of_ble_eq_true rfl) rfl mzcR_65_7) (g_iload rfl ?_)))
                    have h11 := hp
                    refine g_iald hS.1 (mz_at hS (Nat.le_of_ble_eq_true rfl) mzcS_73) h11 (g_i2l ?_)
                    exact g_lret rfl (hr _ hC)
                  · have hp := hp.2 h9
                    refine g_br (tg := 125) ((mz_tsw_d (l := [0, 1, 2, 3, 4]) (mz_rng 0 4) ⟨h5, h6, h7, h8, h9, trivial⟩).trans (mz_tg_t rfl)) ms_289_125 ?_
                    refine g_aload_n rfl (g_getR (mz_at hS (Nat.le_of_ble_eq_true rfl) mzcS_0) mzcf_11_4 (mz_rb hR (Nat.le_of_ble_eq_true rfl) rfl mzcR_0_4) (g_getR (mz_at hS (Nat.le_of_ble_eq_true rfl) mzcS_65) mzcf_3_5 (mz_rb hR (Nat.le_of_ble_eq_true rfl) rfl mzcR_65_5) (g_iload rfl ?_)))
                    have h10 := hp
                    refine g_lald (mz_at hS (Nat.le_of_ble_eq_true rfl) mzcS_71) h10 ?_
                    exact g_lret rfl (hr _ hC)
        · have hp := hp.2 h16
          exact ht _ _ h16 hC
      · have hp := hp.2 h17
        exact ht _ _ h17 hC
    · have hp := hp.2 h18
      exact ht _ _ h18 hC
  · have hp := hp.2 h19
    exact ht _ _ h19 hC
theorem cs_289 (hd : 2 ≤ d) (hS : mz_extR S 232) (hR : mz_rok R 232)  (v1 : Int32) (v2 : Int32) (v3 : Int32) (N : mz_N) (hp : cp_289_0 v1 v2 v3 N) (h1000 : t < 1000) (h0 : (cf_289_0 v1 v2 v3 N).1 = 0 → Q (.inl (some (.long ((cf_289_0 v1 v2 v3 N).2)))) (mz_k S R N b t)) (h1 : ¬ (cf_289_0 v1 v2 v3 N).1 = 0 → Q (.inr (((cf_289_0 v1 v2 v3 N).1) - 1)) (mz_k S R N b (t + 1))) : mz_Ed (mz_X0 L xs) d 289 [.ref 0, .int v1, .int v2, .int v3] (mz_k S R N b t) Q :=
  by
  refine g_in mzq_289 (Nat.le_of_ble_eq_true rfl) (Nat.le_of_ble_eq_true rfl) (Nat.le_trans (Nat.le_of_ble_eq_true rfl) hd) ?_
  refine g_weak ?_ (cg_289_0 (d := d - 1) (by omega) hS hR v1 v2 v3 N (C0 := fun z => (z.1 = 0 → Q (.inl (some (.long z.2))) (mz_k S R N b t)) ∧ (¬ z.1 = 0 → Q (.inr (z.1 - 1)) (mz_k S R N b (t + 1)))) (fun _ h => h.1 rfl) (fun c _ hc h => h.2 hc) h1000 hp ⟨h0, h1⟩)
  exact ⟨rfl, rfl, rfl, rfl, trivial⟩
/-! 288 KeptHouseLaw.cell (LKeptHouse;III[J)I -/
theorem ms_288_0 : mz_sf mk_288 0 = mk_288 := mz_sf_zero _
theorem ms_288_16 : mz_sf mk_288 16 = mt_288_16 := mz_sf_add ms_288_0 (t := 16) rfl rfl
theorem ms_288_20 : mz_sf mk_288 20 = mt_288_20 := mz_sf_add ms_288_16 (t := 4) rfl rfl
theorem ms_288_22 : mz_sf mk_288 22 = mt_288_22 := mz_sf_add ms_288_20 (t := 2) rfl rfl
set_option maxRecDepth 100000 in
theorem mzq_288 : mz_PG0 288 = some (13, ⟨"KeptHouseLaw", "cell", "(LKeptHouse;III[J)I"⟩, method_33_code, 6, some .int, [(0, 11, 14, 13), (0, 11, 18, 15)], mk_288, [(0, 14, 16), (1, 18, 20)]) := rfl
theorem cg_288_0 (hd : 2 ≤ d) (hS : mz_extR S 343) (hR : mz_rok R 343)  (v1 : Int32) (v2 : Int32) (v3 : Int32) (N : mz_N) (t : Nat) {C0 : (Int32 × mz_N × Nat) → Prop} (hr : ∀ (w : Int32) (N2 : mz_N) (t2 : Nat), C0 (w, N2, t2) → Q (.inl (some (.int w))) (mz_k S R N2 b t2)) (hp : cp_288_0 v1 v2 v3 N t) (hC : C0 (cf_288_0 v1 v2 v3 N t)) : mz_G (d, mz_X0 L xs, some .int, [(0, 14, 16), (1, 18, 20)], mk_288, 6, Q) 0 mk_288 [(0, .ref 0), (1, .int v1), (2, .int v2), (3, .int v3), (4, .ref 342)] [] true (mz_k S R N b t) := by
  unfold cf_288_0 at hC
  unfold cp_288_0 at hp
  refine g_aload rfl (g_iconst mzi_0 (g_aload_n rfl (g_iload_n rfl (g_iload_n rfl (g_iload_n rfl ?_)))))
  obtain ⟨h1, hp⟩ := hp
  obtain ⟨h1000, hp⟩ := hp
  refine g_v4vh (Nat.le_of_ble_eq_true rfl) (mz_at hS (Nat.le_of_ble_eq_true rfl) mzcS_0) (fun _ hz0 hz1 => cs_289 (Nat.le_trans (Nat.le_of_ble_eq_true rfl) hd) (hS.le (Nat.le_of_ble_eq_true rfl)) (hR.le (Nat.le_of_ble_eq_true rfl))  v1 v2 v3 N h1 h1000 hz0 hz1) hC (fun h2 hC => ?_) (fun h2 hC => ?_)
  · have hp := hp.1 h2
    refine g_last (mz_at hS (Nat.le_of_ble_eq_true rfl) mzcS_342) (mz_ibd (by decide)) (g_goto (tg := 22) rfl ms_288_22 (g_iconst mzi_0 ?_))
    exact g_iret rfl (hr _ _ _ hC)
  · have hp := hp.2 h2
    refine mz_cs hC (fun h6 hC => ?_) (fun h6 hC => ?_)
    · have hp := hp.1 h6
      refine ⟨(0, 14, 16), (by rw [h6]; rfl), ?_⟩
      show mz_G (d, mz_X0 L xs, some .int, [(0, 14, 16), (1, 18, 20)], mk_288, 6, Q) 16 (mz_sf mk_288 16) [] [] false (mz_k S R N b (t + 1))
      rw [ms_288_16]
      refine g_iconst mzi_1 ?_
      exact g_iret rfl (hr _ _ _ hC)
    · have hp := hp.2 h6
      have h4 := hp
      refine ⟨(1, 18, 20), (by rw [h4]; rfl), ?_⟩
      show mz_G (d, mz_X0 L xs, some .int, [(0, 14, 16), (1, 18, 20)], mk_288, 6, Q) 20 (mz_sf mk_288 20) [] [] false (mz_k S R N b (t + 1))
      rw [ms_288_20]
      refine g_iconst mzi_2 ?_
      exact g_iret rfl (hr _ _ _ hC)
theorem cs_288 (hd : 3 ≤ d) (hS : mz_extR S 343) (hR : mz_rok R 343)  (v1 : Int32) (v2 : Int32) (v3 : Int32) (N : mz_N) (t : Nat) (hp : cp_288_0 v1 v2 v3 N t) (hq : Q (.inl (some (.int ((cf_288_0 v1 v2 v3 N t).1)))) (mz_k S R ((cf_288_0 v1 v2 v3 N t).2.1) b ((cf_288_0 v1 v2 v3 N t).2.2))) : mz_Ed (mz_X0 L xs) d 288 [.ref 0, .int v1, .int v2, .int v3, .ref 342] (mz_k S R N b t) Q :=
  by
  refine g_in mzq_288 (Nat.le_of_ble_eq_true rfl) (Nat.le_of_ble_eq_true rfl) (Nat.le_trans (Nat.le_of_ble_eq_true rfl) hd) ?_
  refine g_weak ?_ (cg_288_0 (d := d - 1) (by omega) hS hR v1 v2 v3 N t (C0 := fun z => Q (.inl (some (.int z.1))) (mz_k S R z.2.1 b z.2.2)) (fun _ _ _ h => h) hp hq)
  exact ⟨rfl, rfl, rfl, rfl, rfl, trivial⟩
/-! 291 KeptHouse.ignite (II)Z -/
theorem ms_291_0 : mz_sf mk_291 0 = mk_291 := mz_sf_zero _
set_option maxRecDepth 100000 in
theorem mzq_291 : mz_PG0 291 = some (11, ⟨"KeptHouse", "ignite", "(II)Z"⟩, prog_1_method_38_code, 3, some .boolean, [], mk_291, []) := rfl
theorem cg_291_0 (hd : 1 ≤ d) (hS : mz_extR S 232) (hR : mz_rok R 232)  (v1 : Int32) (v2 : Int32) (N : mz_N) {C0 : (Nat × Bool × mz_N) → Prop} (hr : ∀ (w : Bool) (N2 : mz_N), C0 (0, w, N2) → Q (.inl (some (.int (mz_b01 w)))) (mz_k S R N2 b t)) (ht : ∀ (c : Nat) (w : Bool) (N2 : mz_N), ¬ c = 0 → C0 (c, w, N2) → Q (.inr (c - 1)) (mz_k S R N2 b (t + 1))) (h1000 : t < 1000) (hp : cp_291_0 v1 v2 N) (hC : C0 (cf_291_0 v1 v2 N)) : mz_G (d, mz_X0 L xs, some .boolean, [], mk_291, 3, Q) 0 mk_291 [(0, .ref 0), (1, .int v1), (2, .int v2)] [] true (mz_k S R N b t) := by
  unfold cf_291_0 at hC
  unfold cp_291_0 at hp
  refine g_aload_n rfl ?_
  obtain ⟨h1, hp⟩ := hp
  refine g_v1nt (Nat.le_of_ble_eq_true rfl) (mz_at hS (Nat.le_of_ble_eq_true rfl) mzcS_0) rfl (fun _ hz0 hz1 => cs_104 (Nat.le_trans (Nat.le_of_ble_eq_true rfl) hd) (hS.le (Nat.le_of_ble_eq_true rfl)) (hR.le (Nat.le_of_ble_eq_true rfl))  N h1 h1000 hz0 hz1) hC (fun h7 hC => ?_) (fun h7 hC => ?_)
  · have hp := hp.1 h7
    refine g_iload_n rfl (g_iconst mzi_0 (g_iconst mzi_4 ?_))
    obtain ⟨h2, hp⟩ := hp
    refine g_s3nt (Nat.le_of_ble_eq_true rfl) rfl (fun _ hz0 hz1 => cs_105 (Nat.le_trans (Nat.le_of_ble_eq_true rfl) hd) (hS.le (Nat.le_of_ble_eq_true rfl)) (hR.le (Nat.le_of_ble_eq_true rfl))  v1 0 4 h2 h1000 hz0 hz1) hC (fun h6 hC => ?_) (fun h6 hC => ?_)
    · have hp := hp.1 h6
      refine g_iload_n rfl (g_iconst mzi_0 (g_bipush mzb_47 ?_))
      obtain ⟨h3, hp⟩ := hp
      refine g_s3nt (Nat.le_of_ble_eq_true rfl) rfl (fun _ hz0 hz1 => cs_105 (Nat.le_trans (Nat.le_of_ble_eq_true rfl) hd) (hS.le (Nat.le_of_ble_eq_true rfl)) (hR.le (Nat.le_of_ble_eq_true rfl))  v2 0 47 h3 h1000 hz0 hz1) hC (fun h5 hC => ?_) (fun h5 hC => ?_)
      · have hp := hp.1 h5
        refine g_aload_n rfl (g_getR (mz_at hS (Nat.le_of_ble_eq_true rfl) mzcS_0) mzcf_11_4 (mz_rb hR (Nat.le_of_ble_eq_true rfl) rfl mzcR_0_4) (g_iload_n rfl (g_bipush mzb_48 (g_imul (g_iload_n rfl (g_iadd ?_))))))
        have h4 := hp
        refine g_v2v (Nat.le_of_ble_eq_true rfl) (mz_at hS (Nat.le_of_ble_eq_true rfl) mzcS_65) (fun _ hq => cs_250 (Nat.le_trans (Nat.le_of_ble_eq_true rfl) hd) (hS.le (Nat.le_of_ble_eq_true rfl)) (hR.le (Nat.le_of_ble_eq_true rfl))  ((v1 * 48) + v2) N h4 hq) ?_
        exact g_zret (z := ((cf_250_0 ((v1 * 48) + v2) N).1)) rfl (hr _ _ hC)
      · have hp := hp.2 h5
        exact ht _ _ _ h5 hC
    · have hp := hp.2 h6
      exact ht _ _ _ h6 hC
  · have hp := hp.2 h7
    exact ht _ _ _ h7 hC
theorem cs_291 (hd : 2 ≤ d) (hS : mz_extR S 232) (hR : mz_rok R 232)  (v1 : Int32) (v2 : Int32) (N : mz_N) (hp : cp_291_0 v1 v2 N) (h1000 : t < 1000) (h0 : (cf_291_0 v1 v2 N).1 = 0 → Q (.inl (some (.int (mz_b01 ((cf_291_0 v1 v2 N).2.1))))) (mz_k S R ((cf_291_0 v1 v2 N).2.2) b t)) (h1 : ¬ (cf_291_0 v1 v2 N).1 = 0 → Q (.inr (((cf_291_0 v1 v2 N).1) - 1)) (mz_k S R ((cf_291_0 v1 v2 N).2.2) b (t + 1))) : mz_Ed (mz_X0 L xs) d 291 [.ref 0, .int v1, .int v2] (mz_k S R N b t) Q :=
  by
  refine g_in mzq_291 (Nat.le_of_ble_eq_true rfl) (Nat.le_of_ble_eq_true rfl) (Nat.le_trans (Nat.le_of_ble_eq_true rfl) hd) ?_
  refine g_weak ?_ (cg_291_0 (d := d - 1) (by omega) hS hR v1 v2 N (C0 := fun z => (z.1 = 0 → Q (.inl (some (.int (mz_b01 z.2.1)))) (mz_k S R z.2.2 b t)) ∧ (¬ z.1 = 0 → Q (.inr (z.1 - 1)) (mz_k S R z.2.2 b (t + 1)))) (fun _ _ h => h.1 rfl) (fun c _ _ hc h => h.2 hc) h1000 hp ⟨h0, h1⟩)
  exact ⟨rfl, rfl, rfl, trivial⟩
/-! 290 KeptHouseLaw.ignite (LKeptHouse;II[J)I -/
theorem ms_290_0 : mz_sf mk_290 0 = mk_290 := mz_sf_zero _
theorem ms_290_15 : mz_sf mk_290 15 = mt_290_15 := mz_sf_add ms_290_0 (t := 15) rfl rfl
theorem ms_290_16 : mz_sf mk_290 16 = mt_290_16 := mz_sf_add ms_290_15 (t := 1) rfl rfl
theorem ms_290_22 : mz_sf mk_290 22 = mt_290_22 := mz_sf_add ms_290_16 (t := 6) rfl rfl
theorem ms_290_26 : mz_sf mk_290 26 = mt_290_26 := mz_sf_add ms_290_22 (t := 4) rfl rfl
theorem ms_290_28 : mz_sf mk_290 28 = mt_290_28 := mz_sf_add ms_290_26 (t := 2) rfl rfl
set_option maxRecDepth 100000 in
theorem mzq_290 : mz_PG0 290 = some (13, ⟨"KeptHouseLaw", "ignite", "(LKeptHouse;II[J)I"⟩, method_34_code, 5, some .int, [(0, 17, 20, 13), (0, 17, 24, 15)], mk_290, [(0, 20, 22), (1, 24, 26)]) := rfl
theorem cg_290_16 (hd : 2 ≤ d) (hS : mz_extR S 343) (hR : mz_rok R 343)  (s1 : Int32) (s2 : Int64) (N : mz_N) (t : Nat) {C0 : (Int32 × mz_N × Nat) → Prop} (hr : ∀ (w : Int32) (N2 : mz_N) (t2 : Nat), C0 (w, N2, t2) → Q (.inl (some (.int w))) (mz_k S R N2 b t2)) (hp : cp_290_16 s1 s2 N t) (hC : C0 (cf_290_16 s1 s2 N t)) : mz_G (d, mz_X0 L xs, some .int, [(0, 20, 22), (1, 24, 26)], mk_290, 5, Q) 16 mt_290_16 [] [.long s2, .int s1, .ref 342] false (mz_k S R N b t) := by
  unfold cf_290_16 at hC
  unfold cp_290_16 at hp
  have h1 := hp
  refine g_last (mz_at hS (Nat.le_of_ble_eq_true rfl) mzcS_342) h1 (g_goto (tg := 28) rfl ms_290_28 (g_iconst mzi_0 ?_))
  exact g_iret rfl (hr _ _ _ hC)
theorem cg_290_0 (hd : 2 ≤ d) (hS : mz_extR S 343) (hR : mz_rok R 343)  (v1 : Int32) (v2 : Int32) (N : mz_N) (t : Nat) {C0 : (Int32 × mz_N × Nat) → Prop} (hr : ∀ (w : Int32) (N2 : mz_N) (t2 : Nat), C0 (w, N2, t2) → Q (.inl (some (.int w))) (mz_k S R N2 b t2)) (hp : cp_290_0 v1 v2 N t) (hC : C0 (cf_290_0 v1 v2 N t)) : mz_G (d, mz_X0 L xs, some .int, [(0, 20, 22), (1, 24, 26)], mk_290, 5, Q) 0 mk_290 [(0, .ref 0), (1, .int v1), (2, .int v2), (3, .ref 342)] [] true (mz_k S R N b t) := by
  unfold cf_290_0 at hC
  unfold cp_290_0 at hp
  refine g_aload_n rfl (g_iconst mzi_0 (g_aload_n rfl (g_iload_n rfl (g_iload_n rfl ?_))))
  obtain ⟨h1, hp⟩ := hp
  obtain ⟨h1000, hp⟩ := hp
  refine g_v3vh (Nat.le_of_ble_eq_true rfl) (mz_at hS (Nat.le_of_ble_eq_true rfl) mzcS_0) (fun _ hz0 hz1 => cs_291 (Nat.le_trans (Nat.le_of_ble_eq_true rfl) hd) (hS.le (Nat.le_of_ble_eq_true rfl)) (hR.le (Nat.le_of_ble_eq_true rfl))  v1 v2 N h1 h1000 hz0 hz1) hC (fun h2 hC => ?_) (fun h2 hC => ?_)
  · have hp := hp.1 h2
    refine g_zeq (tg := 15) rfl ms_290_15 hC (fun h3 hC => ?_) (fun h3 hC => ?_)
    · have hp := hp.1 h3
      refine g_lconst mzl_1 (g_goto (tg := 16) rfl ms_290_16 ?_)
      refine g_weak ?_ (g_cl (cg_290_16 hd hS hR 0 1 ((cf_291_0 v1 v2 N).2.2) t hr hp hC))
      exact trivial
    · have hp := hp.2 h3
      refine g_lconst mzl_0 ?_
      refine g_weak ?_ (g_cl (cg_290_16 hd hS hR 0 0 ((cf_291_0 v1 v2 N).2.2) t hr hp hC))
      exact trivial
  · have hp := hp.2 h2
    refine mz_cs hC (fun h7 hC => ?_) (fun h7 hC => ?_)
    · have hp := hp.1 h7
      refine ⟨(0, 20, 22), (by rw [h7]; rfl), ?_⟩
      show mz_G (d, mz_X0 L xs, some .int, [(0, 20, 22), (1, 24, 26)], mk_290, 5, Q) 22 (mz_sf mk_290 22) [] [] false (mz_k S R ((cf_291_0 v1 v2 N).2.2) b (t + 1))
      rw [ms_290_22]
      refine g_iconst mzi_1 ?_
      exact g_iret rfl (hr _ _ _ hC)
    · have hp := hp.2 h7
      have h5 := hp
      refine ⟨(1, 24, 26), (by rw [h5]; rfl), ?_⟩
      show mz_G (d, mz_X0 L xs, some .int, [(0, 20, 22), (1, 24, 26)], mk_290, 5, Q) 26 (mz_sf mk_290 26) [] [] false (mz_k S R ((cf_291_0 v1 v2 N).2.2) b (t + 1))
      rw [ms_290_26]
      refine g_iconst mzi_2 ?_
      exact g_iret rfl (hr _ _ _ hC)
theorem cs_290 (hd : 3 ≤ d) (hS : mz_extR S 343) (hR : mz_rok R 343)  (v1 : Int32) (v2 : Int32) (N : mz_N) (t : Nat) (hp : cp_290_0 v1 v2 N t) (hq : Q (.inl (some (.int ((cf_290_0 v1 v2 N t).1)))) (mz_k S R ((cf_290_0 v1 v2 N t).2.1) b ((cf_290_0 v1 v2 N t).2.2))) : mz_Ed (mz_X0 L xs) d 290 [.ref 0, .int v1, .int v2, .ref 342] (mz_k S R N b t) Q :=
  by
  refine g_in mzq_290 (Nat.le_of_ble_eq_true rfl) (Nat.le_of_ble_eq_true rfl) (Nat.le_trans (Nat.le_of_ble_eq_true rfl) hd) ?_
  refine g_weak ?_ (cg_290_0 (d := d - 1) (by omega) hS hR v1 v2 N t (C0 := fun z => Q (.inl (some (.int z.1))) (mz_k S R z.2.1 b z.2.2)) (fun _ _ _ h => h) hp hq)
  exact ⟨rfl, rfl, rfl, rfl, trivial⟩
/-! 293 KeptHouse.detected (I)Z -/
theorem ms_293_0 : mz_sf mk_293 0 = mk_293 := mz_sf_zero _
set_option maxRecDepth 100000 in
theorem mzq_293 : mz_PG0 293 = some (11, ⟨"KeptHouse", "detected", "(I)Z"⟩, prog_1_method_39_code, 2, some .boolean, [], mk_293, []) := rfl
theorem cg_293_0 (hd : 2 ≤ d) (hS : mz_extR S 232) (hR : mz_rok R 232)  (v1 : Int32) (N : mz_N) {C0 : (Nat × Bool) → Prop} (hr : ∀ (w : Bool), C0 (0, w) → Q (.inl (some (.int (mz_b01 w)))) (mz_k S R N b t)) (ht : ∀ (c : Nat) (w : Bool), ¬ c = 0 → C0 (c, w) → Q (.inr (c - 1)) (mz_k S R N b (t + 1))) (h1000 : t < 1000) (hp : cp_293_0 v1 N) (hC : C0 (cf_293_0 v1 N)) : mz_G (d, mz_X0 L xs, some .boolean, [], mk_293, 2, Q) 0 mk_293 [(0, .ref 0), (1, .int v1)] [] true (mz_k S R N b t) := by
  unfold cf_293_0 at hC
  unfold cp_293_0 at hp
  refine g_aload_n rfl ?_
  obtain ⟨h1, hp⟩ := hp
  refine g_v1nt (Nat.le_of_ble_eq_true rfl) (mz_at hS (Nat.le_of_ble_eq_true rfl) mzcS_0) rfl (fun _ hz0 hz1 => cs_104 (Nat.le_trans (Nat.le_of_ble_eq_true rfl) hd) (hS.le (Nat.le_of_ble_eq_true rfl)) (hR.le (Nat.le_of_ble_eq_true rfl))  N h1 h1000 hz0 hz1) hC (fun h5 hC => ?_) (fun h5 hC => ?_)
  · have hp := hp.1 h5
    refine g_iload_n rfl (g_iconst mzi_0 (g_aload_n rfl (g_getR (mz_at hS (Nat.le_of_ble_eq_true rfl) mzcS_0) mzcf_11_1 (mz_rb hR (Nat.le_of_ble_eq_true rfl) rfl mzcR_0_1) (g_getI (mz_at hS (Nat.le_of_ble_eq_true rfl) mzcS_2) mzcf_5_7 (g_iconst mzi_1 (g_isub ?_))))))
    obtain ⟨h2, hp⟩ := hp
    refine g_s3nt (Nat.le_of_ble_eq_true rfl) rfl (fun _ hz0 hz1 => cs_105 (Nat.le_trans (Nat.le_of_ble_eq_true rfl) hd) (hS.le (Nat.le_of_ble_eq_true rfl)) (hR.le (Nat.le_of_ble_eq_true rfl))  v1 0 ((N.1 2 7) - 1) h2 h1000 hz0 hz1) hC (fun h4 hC => ?_) (fun h4 hC => ?_)
    · have hp := hp.1 h4
      refine g_aload_n rfl (g_getR (mz_at hS (Nat.le_of_ble_eq_true rfl) mzcS_0) mzcf_11_4 (mz_rb hR (Nat.le_of_ble_eq_true rfl) rfl mzcR_0_4) (g_aload_n rfl (g_getR (mz_at hS (Nat.le_of_ble_eq_true rfl) mzcS_0) mzcf_11_1 (mz_rb hR (Nat.le_of_ble_eq_true rfl) rfl mzcR_0_1) (g_iload_n rfl ?_))))
      have h3 := hp
      refine g_v3v (Nat.le_of_ble_eq_true rfl) (mz_at hS (Nat.le_of_ble_eq_true rfl) mzcS_65) (fun _ hq => cs_210 (Nat.le_trans (Nat.le_of_ble_eq_true rfl) hd) (hS.le (Nat.le_of_ble_eq_true rfl)) (hR.le (Nat.le_of_ble_eq_true rfl))  v1 N h3 hq) ?_
      exact g_zret (z := (cf_210_0 v1 N)) rfl (hr _ hC)
    · have hp := hp.2 h4
      exact ht _ _ h4 hC
  · have hp := hp.2 h5
    exact ht _ _ h5 hC
theorem cs_293 (hd : 3 ≤ d) (hS : mz_extR S 232) (hR : mz_rok R 232)  (v1 : Int32) (N : mz_N) (hp : cp_293_0 v1 N) (h1000 : t < 1000) (h0 : (cf_293_0 v1 N).1 = 0 → Q (.inl (some (.int (mz_b01 ((cf_293_0 v1 N).2))))) (mz_k S R N b t)) (h1 : ¬ (cf_293_0 v1 N).1 = 0 → Q (.inr (((cf_293_0 v1 N).1) - 1)) (mz_k S R N b (t + 1))) : mz_Ed (mz_X0 L xs) d 293 [.ref 0, .int v1] (mz_k S R N b t) Q :=
  by
  refine g_in mzq_293 (Nat.le_of_ble_eq_true rfl) (Nat.le_of_ble_eq_true rfl) (Nat.le_trans (Nat.le_of_ble_eq_true rfl) hd) ?_
  refine g_weak ?_ (cg_293_0 (d := d - 1) (by omega) hS hR v1 N (C0 := fun z => (z.1 = 0 → Q (.inl (some (.int (mz_b01 z.2)))) (mz_k S R N b t)) ∧ (¬ z.1 = 0 → Q (.inr (z.1 - 1)) (mz_k S R N b (t + 1)))) (fun _ h => h.1 rfl) (fun c _ hc h => h.2 hc) h1000 hp ⟨h0, h1⟩)
  exact ⟨rfl, rfl, trivial⟩
/-! 292 KeptHouseLaw.detected (LKeptHouse;I[J)I -/
theorem ms_292_0 : mz_sf mk_292 0 = mk_292 := mz_sf_zero _
theorem ms_292_14 : mz_sf mk_292 14 = mt_292_14 := mz_sf_add ms_292_0 (t := 14) rfl rfl
theorem ms_292_15 : mz_sf mk_292 15 = mt_292_15 := mz_sf_add ms_292_14 (t := 1) rfl rfl
theorem ms_292_20 : mz_sf mk_292 20 = mt_292_20 := mz_sf_add ms_292_15 (t := 5) rfl rfl
theorem ms_292_23 : mz_sf mk_292 23 = mt_292_23 := mz_sf_add ms_292_20 (t := 3) rfl rfl
theorem ms_292_25 : mz_sf mk_292 25 = mt_292_25 := mz_sf_add ms_292_23 (t := 2) rfl rfl
set_option maxRecDepth 100000 in
theorem mzq_292 : mz_PG0 292 = some (13, ⟨"KeptHouseLaw", "detected", "(LKeptHouse;I[J)I"⟩, method_35_code, 4, some .int, [(0, 16, 19, 13), (0, 16, 22, 15)], mk_292, [(0, 19, 20), (1, 22, 23)]) := rfl
theorem cg_292_15 (hd : 3 ≤ d) (hS : mz_extR S 343) (hR : mz_rok R 343)  (s1 : Int32) (s2 : Int64) (N : mz_N) (t : Nat) {C0 : (Int32 × mz_N × Nat) → Prop} (hr : ∀ (w : Int32) (N2 : mz_N) (t2 : Nat), C0 (w, N2, t2) → Q (.inl (some (.int w))) (mz_k S R N2 b t2)) (hp : cp_292_15 s1 s2 N t) (hC : C0 (cf_292_15 s1 s2 N t)) : mz_G (d, mz_X0 L xs, some .int, [(0, 19, 20), (1, 22, 23)], mk_292, 4, Q) 15 mt_292_15 [] [.long s2, .int s1, .ref 342] false (mz_k S R N b t) := by
  unfold cf_292_15 at hC
  unfold cp_292_15 at hp
  have h1 := hp
  refine g_last (mz_at hS (Nat.le_of_ble_eq_true rfl) mzcS_342) h1 (g_goto (tg := 25) rfl ms_292_25 (g_iconst mzi_0 ?_))
  exact g_iret rfl (hr _ _ _ hC)
theorem cg_292_0 (hd : 3 ≤ d) (hS : mz_extR S 343) (hR : mz_rok R 343)  (v1 : Int32) (N : mz_N) (t : Nat) {C0 : (Int32 × mz_N × Nat) → Prop} (hr : ∀ (w : Int32) (N2 : mz_N) (t2 : Nat), C0 (w, N2, t2) → Q (.inl (some (.int w))) (mz_k S R N2 b t2)) (hp : cp_292_0 v1 N t) (hC : C0 (cf_292_0 v1 N t)) : mz_G (d, mz_X0 L xs, some .int, [(0, 19, 20), (1, 22, 23)], mk_292, 4, Q) 0 mk_292 [(0, .ref 0), (1, .int v1), (2, .ref 342)] [] true (mz_k S R N b t) := by
  unfold cf_292_0 at hC
  unfold cp_292_0 at hp
  refine g_aload_n rfl (g_iconst mzi_0 (g_aload_n rfl (g_iload_n rfl ?_)))
  obtain ⟨h1, hp⟩ := hp
  obtain ⟨h1000, hp⟩ := hp
  refine g_v2vh (Nat.le_of_ble_eq_true rfl) (mz_at hS (Nat.le_of_ble_eq_true rfl) mzcS_0) (fun _ hz0 hz1 => cs_293 (Nat.le_trans (Nat.le_of_ble_eq_true rfl) hd) (hS.le (Nat.le_of_ble_eq_true rfl)) (hR.le (Nat.le_of_ble_eq_true rfl))  v1 N h1 h1000 hz0 hz1) hC (fun h2 hC => ?_) (fun h2 hC => ?_)
  · have hp := hp.1 h2
    refine g_zeq (tg := 14) rfl ms_292_14 hC (fun h3 hC => ?_) (fun h3 hC => ?_)
    · have hp := hp.1 h3
      refine g_lconst mzl_1 (g_goto (tg := 15) rfl ms_292_15 ?_)
      refine g_weak ?_ (g_cl (cg_292_15 hd hS hR 0 1 N t hr hp hC))
      exact trivial
    · have hp := hp.2 h3
      refine g_lconst mzl_0 ?_
      refine g_weak ?_ (g_cl (cg_292_15 hd hS hR 0 0 N t hr hp hC))
      exact trivial
  · have hp := hp.2 h2
    refine mz_cs hC (fun h7 hC => ?_) (fun h7 hC => ?_)
    · have hp := hp.1 h7
      refine ⟨(0, 19, 20), (by rw [h7]; rfl), ?_⟩
      show mz_G (d, mz_X0 L xs, some .int, [(0, 19, 20), (1, 22, 23)], mk_292, 4, Q) 20 (mz_sf mk_292 20) [] [] false (mz_k S R N b (t + 1))
      rw [ms_292_20]
      refine g_iconst mzi_1 ?_
      exact g_iret rfl (hr _ _ _ hC)
    · have hp := hp.2 h7
      have h5 := hp
      refine ⟨(1, 22, 23), (by rw [h5]; rfl), ?_⟩
      show mz_G (d, mz_X0 L xs, some .int, [(0, 19, 20), (1, 22, 23)], mk_292, 4, Q) 23 (mz_sf mk_292 23) [] [] false (mz_k S R N b (t + 1))
      rw [ms_292_23]
      refine g_iconst mzi_2 ?_
      exact g_iret rfl (hr _ _ _ hC)
theorem cs_292 (hd : 4 ≤ d) (hS : mz_extR S 343) (hR : mz_rok R 343)  (v1 : Int32) (N : mz_N) (t : Nat) (hp : cp_292_0 v1 N t) (hq : Q (.inl (some (.int ((cf_292_0 v1 N t).1)))) (mz_k S R ((cf_292_0 v1 N t).2.1) b ((cf_292_0 v1 N t).2.2))) : mz_Ed (mz_X0 L xs) d 292 [.ref 0, .int v1, .ref 342] (mz_k S R N b t) Q :=
  by
  refine g_in mzq_292 (Nat.le_of_ble_eq_true rfl) (Nat.le_of_ble_eq_true rfl) (Nat.le_trans (Nat.le_of_ble_eq_true rfl) hd) ?_
  refine g_weak ?_ (cg_292_0 (d := d - 1) (by omega) hS hR v1 N t (C0 := fun z => Q (.inl (some (.int z.1))) (mz_k S R z.2.1 b z.2.2)) (fun _ _ _ h => h) hp hq)
  exact ⟨rfl, rfl, rfl, trivial⟩
/-! 295 KeptHouse.alarms ()I -/
theorem ms_295_0 : mz_sf mk_295 0 = mk_295 := mz_sf_zero _
set_option maxRecDepth 100000 in
theorem mzq_295 : mz_PG0 295 = some (11, ⟨"KeptHouse", "alarms", "()I"⟩, prog_1_method_40_code, 1, some .int, [], mk_295, []) := rfl
theorem cg_295_0 (hd : 1 ≤ d) (hS : mz_extR S 232) (hR : mz_rok R 232)  (N : mz_N) {C0 : (Nat × Int32) → Prop} (hr : ∀ (w : Int32), C0 (0, w) → Q (.inl (some (.int w))) (mz_k S R N b t)) (ht : ∀ (c : Nat) (w : Int32), ¬ c = 0 → C0 (c, w) → Q (.inr (c - 1)) (mz_k S R N b (t + 1))) (h1000 : t < 1000) (hp : cp_295_0 N) (hC : C0 (cf_295_0 N)) : mz_G (d, mz_X0 L xs, some .int, [], mk_295, 1, Q) 0 mk_295 [(0, .ref 0)] [] true (mz_k S R N b t) := by
  unfold cf_295_0 at hC
  unfold cp_295_0 at hp
  refine g_aload_n rfl ?_
  have h1 := hp
  refine g_v1nt (Nat.le_of_ble_eq_true rfl) (mz_at hS (Nat.le_of_ble_eq_true rfl) mzcS_0) rfl (fun _ hz0 hz1 => cs_104 (Nat.le_trans (Nat.le_of_ble_eq_true rfl) hd) (hS.le (Nat.le_of_ble_eq_true rfl)) (hR.le (Nat.le_of_ble_eq_true rfl))  N h1 h1000 hz0 hz1) hC (fun h2 hC => ?_) (fun h2 hC => ?_)
  · refine g_aload_n rfl (g_getR (mz_at hS (Nat.le_of_ble_eq_true rfl) mzcS_0) mzcf_11_5 (mz_rb hR (Nat.le_of_ble_eq_true rfl) rfl mzcR_0_5) (g_getI (mz_at hS (Nat.le_of_ble_eq_true rfl) mzcS_81) mzcf_10_3 ?_))
    exact g_iret rfl (hr _ hC)
  · exact ht _ _ h2 hC
theorem cs_295 (hd : 2 ≤ d) (hS : mz_extR S 232) (hR : mz_rok R 232)  (N : mz_N) (hp : cp_295_0 N) (h1000 : t < 1000) (h0 : (cf_295_0 N).1 = 0 → Q (.inl (some (.int ((cf_295_0 N).2)))) (mz_k S R N b t)) (h1 : ¬ (cf_295_0 N).1 = 0 → Q (.inr (((cf_295_0 N).1) - 1)) (mz_k S R N b (t + 1))) : mz_Ed (mz_X0 L xs) d 295 [.ref 0] (mz_k S R N b t) Q :=
  by
  refine g_in mzq_295 (Nat.le_of_ble_eq_true rfl) (Nat.le_of_ble_eq_true rfl) (Nat.le_trans (Nat.le_of_ble_eq_true rfl) hd) ?_
  refine g_weak ?_ (cg_295_0 (d := d - 1) (by omega) hS hR N (C0 := fun z => (z.1 = 0 → Q (.inl (some (.int z.2))) (mz_k S R N b t)) ∧ (¬ z.1 = 0 → Q (.inr (z.1 - 1)) (mz_k S R N b (t + 1)))) (fun _ h => h.1 rfl) (fun c _ hc h => h.2 hc) h1000 hp ⟨h0, h1⟩)
  exact ⟨rfl, trivial⟩
/-! 294 KeptHouseLaw.alarms (LKeptHouse;[J)I -/
theorem ms_294_0 : mz_sf mk_294 0 = mk_294 := mz_sf_zero _
theorem ms_294_12 : mz_sf mk_294 12 = mt_294_12 := mz_sf_add ms_294_0 (t := 12) rfl rfl
theorem ms_294_14 : mz_sf mk_294 14 = mt_294_14 := mz_sf_add ms_294_12 (t := 2) rfl rfl
set_option maxRecDepth 100000 in
theorem mzq_294 : mz_PG0 294 = some (13, ⟨"KeptHouseLaw", "alarms", "(LKeptHouse;[J)I"⟩, method_36_code, 3, some .int, [(0, 8, 11, 15)], mk_294, [(1, 11, 12)]) := rfl
theorem cg_294_0 (hd : 2 ≤ d) (hS : mz_extR S 343) (hR : mz_rok R 343)  (N : mz_N) (t : Nat) {C0 : (Int32 × mz_N × Nat) → Prop} (hr : ∀ (w : Int32) (N2 : mz_N) (t2 : Nat), C0 (w, N2, t2) → Q (.inl (some (.int w))) (mz_k S R N2 b t2)) (hp : cp_294_0 N t) (hC : C0 (cf_294_0 N t)) : mz_G (d, mz_X0 L xs, some .int, [(1, 11, 12)], mk_294, 3, Q) 0 mk_294 [(0, .ref 0), (1, .ref 342)] [] true (mz_k S R N b t) := by
  unfold cf_294_0 at hC
  unfold cp_294_0 at hp
  refine g_aload_n rfl (g_iconst mzi_0 (g_aload_n rfl ?_))
  obtain ⟨h1, hp⟩ := hp
  obtain ⟨h1000, hp⟩ := hp
  refine g_v1vh (Nat.le_of_ble_eq_true rfl) (mz_at hS (Nat.le_of_ble_eq_true rfl) mzcS_0) (fun _ hz0 hz1 => cs_295 (Nat.le_trans (Nat.le_of_ble_eq_true rfl) hd) (hS.le (Nat.le_of_ble_eq_true rfl)) (hR.le (Nat.le_of_ble_eq_true rfl))  N h1 h1000 hz0 hz1) hC (fun h2 hC => ?_) (fun h2 hC => ?_)
  · have hp := hp.1 h2
    refine g_i2l (g_last (mz_at hS (Nat.le_of_ble_eq_true rfl) mzcS_342) (mz_ibd (by decide)) (g_goto (tg := 14) rfl ms_294_14 (g_iconst mzi_0 ?_)))
    exact g_iret rfl (hr _ _ _ hC)
  · have hp := hp.2 h2
    have h4 := hp
    refine ⟨(1, 11, 12), (by rw [h4]; rfl), ?_⟩
    show mz_G (d, mz_X0 L xs, some .int, [(1, 11, 12)], mk_294, 3, Q) 12 (mz_sf mk_294 12) [] [] false (mz_k S R N b (t + 1))
    rw [ms_294_12]
    refine g_iconst mzi_1 ?_
    exact g_iret rfl (hr _ _ _ hC)
theorem cs_294 (hd : 3 ≤ d) (hS : mz_extR S 343) (hR : mz_rok R 343)  (N : mz_N) (t : Nat) (hp : cp_294_0 N t) (hq : Q (.inl (some (.int ((cf_294_0 N t).1)))) (mz_k S R ((cf_294_0 N t).2.1) b ((cf_294_0 N t).2.2))) : mz_Ed (mz_X0 L xs) d 294 [.ref 0, .ref 342] (mz_k S R N b t) Q :=
  by
  refine g_in mzq_294 (Nat.le_of_ble_eq_true rfl) (Nat.le_of_ble_eq_true rfl) (Nat.le_trans (Nat.le_of_ble_eq_true rfl) hd) ?_
  refine g_weak ?_ (cg_294_0 (d := d - 1) (by omega) hS hR N t (C0 := fun z => Q (.inl (some (.int z.1))) (mz_k S R z.2.1 b z.2.2)) (fun _ _ _ h => h) hp hq)
  exact ⟨rfl, rfl, trivial⟩
/-! 297 KeptHouse.alarm (II)I -/
theorem ms_297_0 : mz_sf mk_297 0 = mk_297 := mz_sf_zero _
theorem ms_297_23 : mz_sf mk_297 23 = mt_297_23 := mz_sf_add ms_297_0 (t := 23) rfl rfl
set_option maxRecDepth 100000 in
theorem mzq_297 : mz_PG0 297 = some (11, ⟨"KeptHouse", "alarm", "(II)I"⟩, prog_1_method_41_code, 3, some .int, [], mk_297, []) := rfl
theorem cg_297_0 (hd : 1 ≤ d) (hS : mz_extR S 232) (hR : mz_rok R 232)  (v1 : Int32) (v2 : Int32) (N : mz_N) {C0 : (Nat × Int32) → Prop} (hr : ∀ (w : Int32), C0 (0, w) → Q (.inl (some (.int w))) (mz_k S R N b t)) (ht : ∀ (c : Nat) (w : Int32), ¬ c = 0 → C0 (c, w) → Q (.inr (c - 1)) (mz_k S R N b (t + 1))) (h1000 : t < 1000) (hp : cp_297_0 v1 v2 N) (hC : C0 (cf_297_0 v1 v2 N)) : mz_G (d, mz_X0 L xs, some .int, [], mk_297, 3, Q) 0 mk_297 [(0, .ref 0), (1, .int v1), (2, .int v2)] [] true (mz_k S R N b t) := by
  unfold cf_297_0 at hC
  unfold cp_297_0 at hp
  refine g_aload_n rfl ?_
  obtain ⟨h1, hp⟩ := hp
  refine g_v1nt (Nat.le_of_ble_eq_true rfl) (mz_at hS (Nat.le_of_ble_eq_true rfl) mzcS_0) rfl (fun _ hz0 hz1 => cs_104 (Nat.le_trans (Nat.le_of_ble_eq_true rfl) hd) (hS.le (Nat.le_of_ble_eq_true rfl)) (hR.le (Nat.le_of_ble_eq_true rfl))  N h1 h1000 hz0 hz1) hC (fun h8 hC => ?_) (fun h8 hC => ?_)
  · have hp := hp.1 h8
    refine g_iload_n rfl (g_iconst mzi_0 (g_aload_n rfl (g_getR (mz_at hS (Nat.le_of_ble_eq_true rfl) mzcS_0) mzcf_11_5 (mz_rb hR (Nat.le_of_ble_eq_true rfl) rfl mzcR_0_5) (g_getI (mz_at hS (Nat.le_of_ble_eq_true rfl) mzcS_81) mzcf_10_3 (g_bipush mzb_32 (g_imin (Nat.le_of_ble_eq_true rfl) (g_iconst mzi_1 ?_)))))))
    refine g_isub ?_
    obtain ⟨h2, hp⟩ := hp
    refine g_s3nt (Nat.le_of_ble_eq_true rfl) rfl (fun _ hz0 hz1 => cs_105 (Nat.le_trans (Nat.le_of_ble_eq_true rfl) hd) (hS.le (Nat.le_of_ble_eq_true rfl)) (hR.le (Nat.le_of_ble_eq_true rfl))  v1 0 ((mz_imin (N.1 81 3) 32) - 1) h2 h1000 hz0 hz1) hC (fun h7 hC => ?_) (fun h7 hC => ?_)
    · have hp := hp.1 h7
      refine g_iload_n rfl (g_iconst mzi_0 (g_iconst mzi_1 ?_))
      obtain ⟨h3, hp⟩ := hp
      refine g_s3nt (Nat.le_of_ble_eq_true rfl) rfl (fun _ hz0 hz1 => cs_105 (Nat.le_trans (Nat.le_of_ble_eq_true rfl) hd) (hS.le (Nat.le_of_ble_eq_true rfl)) (hR.le (Nat.le_of_ble_eq_true rfl))  v2 0 1 h3 h1000 hz0 hz1) hC (fun h6 hC => ?_) (fun h6 hC => ?_)
      · have hp := hp.1 h6
        refine g_aload_n rfl (g_getR (mz_at hS (Nat.le_of_ble_eq_true rfl) mzcS_0) mzcf_11_5 (mz_rb hR (Nat.le_of_ble_eq_true rfl) rfl mzcR_0_5) (g_getR (mz_at hS (Nat.le_of_ble_eq_true rfl) mzcS_81) mzcf_10_2 (mz_rb hR (Nat.le_of_ble_eq_true rfl) rfl mzcR_81_2) (g_iload_n rfl ?_)))
        obtain ⟨h4, hp⟩ := hp
        refine g_aald4 (mz_at hS (Nat.le_of_ble_eq_true rfl) mzcS_84) h4 (mz_rb hR (Nat.le_of_ble_eq_true rfl) rfl (mzcR2_84 h4)) (g_aload_n rfl (g_getR (mz_at hS (Nat.le_of_ble_eq_true rfl) mzcS_0) mzcf_11_5 (mz_rb hR (Nat.le_of_ble_eq_true rfl) rfl mzcR_0_5) (g_getI (mz_at hS (Nat.le_of_ble_eq_true rfl) mzcS_81) mzcf_10_3 (g_iconst mzi_1 (g_isub (g_iload_n rfl (g_isub ?_)))))))
        refine g_bipush mzb_32 (g_irem (by decide) ?_)
        have h5 := hp
        refine g_iald hS.1 (mz_at hS (mzcL2_84 h4 (Nat.le_of_ble_eq_true rfl)) (mzcS2_84 h4)) h5 ?_
        exact g_iret rfl (hr _ hC)
      · have hp := hp.2 h6
        exact ht _ _ h6 hC
    · have hp := hp.2 h7
      exact ht _ _ h7 hC
  · have hp := hp.2 h8
    exact ht _ _ h8 hC
theorem cs_297 (hd : 2 ≤ d) (hS : mz_extR S 232) (hR : mz_rok R 232)  (v1 : Int32) (v2 : Int32) (N : mz_N) (hp : cp_297_0 v1 v2 N) (h1000 : t < 1000) (h0 : (cf_297_0 v1 v2 N).1 = 0 → Q (.inl (some (.int ((cf_297_0 v1 v2 N).2)))) (mz_k S R N b t)) (h1 : ¬ (cf_297_0 v1 v2 N).1 = 0 → Q (.inr (((cf_297_0 v1 v2 N).1) - 1)) (mz_k S R N b (t + 1))) : mz_Ed (mz_X0 L xs) d 297 [.ref 0, .int v1, .int v2] (mz_k S R N b t) Q :=
  by
  refine g_in mzq_297 (Nat.le_of_ble_eq_true rfl) (Nat.le_of_ble_eq_true rfl) (Nat.le_trans (Nat.le_of_ble_eq_true rfl) hd) ?_
  refine g_weak ?_ (cg_297_0 (d := d - 1) (by omega) hS hR v1 v2 N (C0 := fun z => (z.1 = 0 → Q (.inl (some (.int z.2))) (mz_k S R N b t)) ∧ (¬ z.1 = 0 → Q (.inr (z.1 - 1)) (mz_k S R N b (t + 1)))) (fun _ h => h.1 rfl) (fun c _ hc h => h.2 hc) h1000 hp ⟨h0, h1⟩)
  exact ⟨rfl, rfl, rfl, trivial⟩
/-! 296 KeptHouseLaw.alarm (LKeptHouse;II[J)I -/
theorem ms_296_0 : mz_sf mk_296 0 = mk_296 := mz_sf_zero _
theorem ms_296_15 : mz_sf mk_296 15 = mt_296_15 := mz_sf_add ms_296_0 (t := 15) rfl rfl
theorem ms_296_19 : mz_sf mk_296 19 = mt_296_19 := mz_sf_add ms_296_15 (t := 4) rfl rfl
theorem ms_296_21 : mz_sf mk_296 21 = mt_296_21 := mz_sf_add ms_296_19 (t := 2) rfl rfl
set_option maxRecDepth 100000 in
theorem mzq_296 : mz_PG0 296 = some (13, ⟨"KeptHouseLaw", "alarm", "(LKeptHouse;II[J)I"⟩, method_37_code, 5, some .int, [(0, 10, 13, 13), (0, 10, 17, 15)], mk_296, [(0, 13, 15), (1, 17, 19)]) := rfl
theorem cg_296_0 (hd : 2 ≤ d) (hS : mz_extR S 343) (hR : mz_rok R 343)  (v1 : Int32) (v2 : Int32) (N : mz_N) (t : Nat) {C0 : (Int32 × mz_N × Nat) → Prop} (hr : ∀ (w : Int32) (N2 : mz_N) (t2 : Nat), C0 (w, N2, t2) → Q (.inl (some (.int w))) (mz_k S R N2 b t2)) (hp : cp_296_0 v1 v2 N t) (hC : C0 (cf_296_0 v1 v2 N t)) : mz_G (d, mz_X0 L xs, some .int, [(0, 13, 15), (1, 17, 19)], mk_296, 5, Q) 0 mk_296 [(0, .ref 0), (1, .int v1), (2, .int v2), (3, .ref 342)] [] true (mz_k S R N b t) := by
  unfold cf_296_0 at hC
  unfold cp_296_0 at hp
  refine g_aload_n rfl (g_iconst mzi_0 (g_aload_n rfl (g_iload_n rfl (g_iload_n rfl ?_))))
  obtain ⟨h1, hp⟩ := hp
  obtain ⟨h1000, hp⟩ := hp
  refine g_v3vh (Nat.le_of_ble_eq_true rfl) (mz_at hS (Nat.le_of_ble_eq_true rfl) mzcS_0) (fun _ hz0 hz1 => cs_297 (Nat.le_trans (Nat.le_of_ble_eq_true rfl) hd) (hS.le (Nat.le_of_ble_eq_true rfl)) (hR.le (Nat.le_of_ble_eq_true rfl))  v1 v2 N h1 h1000 hz0 hz1) hC (fun h2 hC => ?_) (fun h2 hC => ?_)
  · have hp := hp.1 h2
    refine g_i2l (g_last (mz_at hS (Nat.le_of_ble_eq_true rfl) mzcS_342) (mz_ibd (by decide)) (g_goto (tg := 21) rfl ms_296_21 (g_iconst mzi_0 ?_)))
    exact g_iret rfl (hr _ _ _ hC)
  · have hp := hp.2 h2
    refine mz_cs hC (fun h6 hC => ?_) (fun h6 hC => ?_)
    · have hp := hp.1 h6
      refine ⟨(0, 13, 15), (by rw [h6]; rfl), ?_⟩
      show mz_G (d, mz_X0 L xs, some .int, [(0, 13, 15), (1, 17, 19)], mk_296, 5, Q) 15 (mz_sf mk_296 15) [] [] false (mz_k S R N b (t + 1))
      rw [ms_296_15]
      refine g_iconst mzi_1 ?_
      exact g_iret rfl (hr _ _ _ hC)
    · have hp := hp.2 h6
      have h4 := hp
      refine ⟨(1, 17, 19), (by rw [h4]; rfl), ?_⟩
      show mz_G (d, mz_X0 L xs, some .int, [(0, 13, 15), (1, 17, 19)], mk_296, 5, Q) 19 (mz_sf mk_296 19) [] [] false (mz_k S R N b (t + 1))
      rw [ms_296_19]
      refine g_iconst mzi_2 ?_
      exact g_iret rfl (hr _ _ _ hC)
theorem cs_296 (hd : 3 ≤ d) (hS : mz_extR S 343) (hR : mz_rok R 343)  (v1 : Int32) (v2 : Int32) (N : mz_N) (t : Nat) (hp : cp_296_0 v1 v2 N t) (hq : Q (.inl (some (.int ((cf_296_0 v1 v2 N t).1)))) (mz_k S R ((cf_296_0 v1 v2 N t).2.1) b ((cf_296_0 v1 v2 N t).2.2))) : mz_Ed (mz_X0 L xs) d 296 [.ref 0, .int v1, .int v2, .ref 342] (mz_k S R N b t) Q :=
  by
  refine g_in mzq_296 (Nat.le_of_ble_eq_true rfl) (Nat.le_of_ble_eq_true rfl) (Nat.le_trans (Nat.le_of_ble_eq_true rfl) hd) ?_
  refine g_weak ?_ (cg_296_0 (d := d - 1) (by omega) hS hR v1 v2 N t (C0 := fun z => Q (.inl (some (.int z.1))) (mz_k S R z.2.1 b z.2.2)) (fun _ _ _ h => h) hp hq)
  exact ⟨rfl, rfl, rfl, rfl, trivial⟩
/-! 300 KeptHouse$Access.mayHaveDoor (II)Z -/
theorem ms_300_0 : mz_sf mk_300 0 = mk_300 := mz_sf_zero _
theorem ms_300_12 : mz_sf mk_300 12 = mt_300_12 := mz_sf_add ms_300_0 (t := 12) rfl rfl
theorem ms_300_16 : mz_sf mk_300 16 = mt_300_16 := mz_sf_add ms_300_12 (t := 4) rfl rfl
theorem ms_300_17 : mz_sf mk_300 17 = mt_300_17 := mz_sf_add ms_300_16 (t := 1) rfl rfl
set_option maxRecDepth 100000 in
theorem mzq_300 : mz_PG0 300 = some (0, ⟨"KeptHouse$Access", "mayHaveDoor", "(II)Z"⟩, prog_2_method_3_code, 2, some .boolean, [], mk_300, []) := rfl
theorem cg_300_0 (hd : 1 ≤ d) (hS : mz_extR S 232) (hR : mz_rok R 232)  (v0 : Int32) (v1 : Int32) {C0 : (Bool) → Prop} (hr : ∀ (w : Bool), C0 w → Q (.inl (some (.int (mz_b01 w)))) (mz_k S R N b t)) (hp : cp_300_0 v0 v1) (hC : C0 (cf_300_0 v0 v1)) : mz_G (d, mz_X0 L xs, some .boolean, [], mk_300, 2, Q) 0 mk_300 [(0, .int v0), (1, .int v1)] [] true (mz_k S R N b t) := by
  unfold cf_300_0 at hC
  unfold cp_300_0 at hp
  refine g_iload_n rfl ?_
  refine g_ifeq (tg := 12) rfl ms_300_12 hC (fun h1 hC => ?_) (fun h1 hC => ?_)
  · refine g_iconst mzi_1 (g_goto (tg := 17) rfl ms_300_17 ?_)
    exact g_zret (z := true) rfl (hr _ hC)
  · refine g_iload_n rfl ?_
    refine g_s1v (Nat.le_of_ble_eq_true rfl) (fun _ hq => cs_21 (Nat.le_trans (Nat.le_of_ble_eq_true rfl) hd) (hS.le (Nat.le_of_ble_eq_true rfl)) (hR.le (Nat.le_of_ble_eq_true rfl))  v1 trivial hq) (g_iconst mzi_m1 ?_)
    refine g_icne (tg := 16) rfl ms_300_16 hC (fun h3 hC => ?_) (fun h3 hC => ?_)
    · refine g_iconst mzi_1 (g_goto (tg := 17) rfl ms_300_17 ?_)
      exact g_zret (z := true) rfl (hr _ hC)
    · refine g_iconst mzi_0 ?_
      exact g_zret (z := false) rfl (hr _ hC)
theorem cs_300 (hd : 2 ≤ d) (hS : mz_extR S 232) (hR : mz_rok R 232)  (v0 : Int32) (v1 : Int32) (hp : cp_300_0 v0 v1) (hq : Q (.inl (some (.int (mz_b01 (cf_300_0 v0 v1))))) (mz_k S R N b t)) : mz_Ed (mz_X0 L xs) d 300 [.int v0, .int v1] (mz_k S R N b t) Q :=
  by
  refine g_in mzq_300 (Nat.le_of_ble_eq_true rfl) (Nat.le_of_ble_eq_true rfl) (Nat.le_trans (Nat.le_of_ble_eq_true rfl) hd) ?_
  refine g_weak ?_ (cg_300_0 (d := d - 1) (by omega) hS hR v0 v1 (C0 := fun z => Q (.inl (some (.int (mz_b01 z)))) (mz_k S R N b t)) (fun _ h => h) hp hq)
  exact ⟨rfl, rfl, trivial⟩
/-! 301 KeptHouse$Access.freeDoor ()I -/
theorem ms_301_0 : mz_sf mk_301 0 = mk_301 := mz_sf_zero _
theorem ms_301_2 : mz_sf mk_301 2 = mt_301_2 := mz_sf_add ms_301_0 (t := 2) rfl rfl
theorem ms_301_19 : mz_sf mk_301 19 = mt_301_19 := mz_sf_add ms_301_2 (t := 17) rfl rfl
theorem ms_301_25 : mz_sf mk_301 25 = mt_301_25 := mz_sf_add ms_301_19 (t := 6) rfl rfl
set_option maxRecDepth 100000 in
theorem mzq_301 : mz_PG0 301 = some (0, ⟨"KeptHouse$Access", "freeDoor", "()I"⟩, prog_2_method_4_code, 2, some .int, [], mk_301, []) := rfl
theorem cb_301_2 (hd : 0 ≤ d) (hS : mz_extR S 232) (hR : mz_rok R 232)  (N : mz_N) (s : Int32) {C0 : (Int32) → Prop} (hr : ∀ (w : Int32), C0 w → Q (.inl (some (.int w))) (mz_k S R N b t)) {C1 : ((Int32) ⊕ (Int32)) → Prop} (hc1 : ∀ s2, C1 (.inl s2) → mz_G (d, mz_X0 L xs, some .int, [], mk_301, 2, Q) 2 mt_301_2 [(0, .ref 100), (1, .int s2)] [] false (mz_k S R N b t)) (hx1 : ∀ z, C1 (.inr z) → C0 z) (hp : cd_301_2 N s) (hC : C1 (cq_301_2 N s)) : mz_G (d, mz_X0 L xs, some .int, [], mk_301, 2, Q) 2 mt_301_2 [(0, .ref 100), (1, .int s)] [] false (mz_k S R N b t) := by
  unfold cq_301_2 at hC
  unfold cd_301_2 at hp
  refine g_iload_n rfl (g_bipush mzb_20 ?_)
  refine g_icge (tg := 25) rfl ms_301_25 hC (fun h1 hC => ?_) (fun h1 hC => ?_)
  · have hp := hp.1 h1
    refine g_aload_n rfl (g_getR (mz_at hS (Nat.le_of_ble_eq_true rfl) mzcS_100) mzcf_0_0 (mz_rb hR (Nat.le_of_ble_eq_true rfl) rfl mzcR_100_0) (g_iload_n rfl ?_))
    have h2 := hp
    refine g_iald hS.1 (mz_at hS (Nat.le_of_ble_eq_true rfl) mzcS_101) h2 ?_
    refine g_ifne (tg := 19) rfl ms_301_19 hC (fun h3 hC => ?_) (fun h3 hC => ?_)
    · refine g_iload_n rfl ?_
      exact g_iret rfl (hr _ (hx1 _ hC))
    · refine g_iinc rfl mzi_1 (Nat.le_of_ble_eq_true rfl) rfl (g_goto (tg := 2) rfl ms_301_2 ?_)
      refine g_weak ?_ (g_cl (hc1 ((s + 1)) hC))
      exact ⟨rfl, rfl, trivial⟩
  · have hp := hp.2 h1
    refine g_iconst mzi_m1 ?_
    exact g_iret rfl (hr _ (hx1 _ hC))
theorem cg_301_2 (hd : 0 ≤ d) (hS : mz_extR S 232) (hR : mz_rok R 232)  (v1 : Int32) (N : mz_N) {C0 : (Int32) → Prop} (hr : ∀ (w : Int32), C0 w → Q (.inl (some (.int w))) (mz_k S R N b t)) (hp : cp_301_2 v1 N) (hC : C0 (cf_301_2 v1 N)) : mz_G (d, mz_X0 L xs, some .int, [], mk_301, 2, Q) 2 mt_301_2 [(0, .ref 100), (1, .int v1)] [] false (mz_k S R N b t) := by
  obtain ⟨n, hn⟩ := hp
  exact g_loop (G := fun s => mz_G (d, mz_X0 L xs, some .int, [], mk_301, 2, Q) 2 mt_301_2 [(0, .ref 100), (1, .int s)] [] false (mz_k S R N b t)) (C := C0) (fun C2 hc hx s hP hC => cb_301_2 hd hS hR N s hr hc hx hP hC) n (v1) hn hC
theorem cg_301_0 (hd : 0 ≤ d) (hS : mz_extR S 232) (hR : mz_rok R 232)  (N : mz_N) {C0 : (Int32) → Prop} (hr : ∀ (w : Int32), C0 w → Q (.inl (some (.int w))) (mz_k S R N b t)) (hp : cp_301_0 N) (hC : C0 (cf_301_0 N)) : mz_G (d, mz_X0 L xs, some .int, [], mk_301, 2, Q) 0 mk_301 [(0, .ref 100)] [] true (mz_k S R N b t) := by
  unfold cf_301_0 at hC
  unfold cp_301_0 at hp
  refine g_iconst mzi_0 (g_istore_n (Nat.le_of_ble_eq_true rfl) rfl ?_)
  refine g_weak ?_ (g_cl (cg_301_2 hd hS hR 0 N hr hp hC))
  exact ⟨rfl, rfl, trivial⟩
theorem cs_301 (hd : 1 ≤ d) (hS : mz_extR S 232) (hR : mz_rok R 232)  (N : mz_N) (hp : cp_301_0 N) (hq : Q (.inl (some (.int (cf_301_0 N)))) (mz_k S R N b t)) : mz_Ed (mz_X0 L xs) d 301 [.ref 100] (mz_k S R N b t) Q :=
  by
  refine g_in mzq_301 (Nat.le_of_ble_eq_true rfl) (Nat.le_of_ble_eq_true rfl) (Nat.le_trans (Nat.le_of_ble_eq_true rfl) hd) ?_
  refine g_weak ?_ (cg_301_0 (d := d - 1) (by omega) hS hR N (C0 := fun z => Q (.inl (some (.int z))) (mz_k S R N b t)) (fun _ h => h) hp hq)
  exact ⟨rfl, trivial⟩
end Fn14
