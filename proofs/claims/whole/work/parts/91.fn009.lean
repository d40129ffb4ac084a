/-! THE FUNCTIONS: written by program: each method comes to its function. -/
section Fn9
variable {L : Nat} {xs : Nat → Int32} {d : Nat} {S : mz_S} {R : Nat → Nat → Option Nat} {Q : mz_Q} {N : mz_N} {b : Bool} {t : Nat}
/-! 205 KeptHouse.finishVisit (II)Z -/
theorem ms_205_0 : mz_sf mk_205 0 = mk_205 := mz_sf_zero _
theorem ms_205_25 : mz_sf mk_205 25 = mt_205_25 := mz_sf_add ms_205_0 (t := 25) rfl rfl
theorem ms_205_57 : mz_sf mk_205 57 = mt_205_57 := mz_sf_add ms_205_25 (t := 32) rfl rfl
set_option maxRecDepth 100000 in
theorem mzq_205 : mz_PG0 205 = some (11, ⟨"KeptHouse", "finishVisit", "(II)Z"⟩, prog_1_method_75_code, 4, some .boolean, [], mk_205, []) := rfl
theorem cg_205_57 (hd : 4 ≤ d) (hS : mz_extR S 232) (hR : mz_rok R 232)  (v2 : Int32) (N : mz_N) (b : Bool) {C0 : (Bool × mz_N) → Prop} (hr : ∀ (w : Bool) (N2 : mz_N), C0 (w, N2) → Q (.inl (some (.int (mz_b01 w)))) (mz_k S R N2 b t)) (hp : cp_205_57 v2 N b) (hC : C0 (cf_205_57 v2 N b)) : mz_G (d, mz_X0 L xs, some .boolean, [], mk_205, 4, Q) 57 mt_205_57 [(0, .ref 0), (2, .int v2)] [] false (mz_k S R N b t) := by
  unfold cf_205_57 at hC
  unfold cp_205_57 at hp
  refine g_aload_n rfl (g_getR (mz_at hS (Nat.le_of_ble_eq_true rfl) mzcS_0) mzcf_11_0 (mz_rb hR (Nat.le_of_ble_eq_true rfl) rfl mzcR_0_0) (g_bipush mzb_12 (g_iload_n rfl ?_)))
  obtain ⟨h1, hp⟩ := hp
  refine g_v3n (Nat.le_of_ble_eq_true rfl) (mz_at hS (Nat.le_of_ble_eq_true rfl) mzcS_1) (fun _ hq => cs_119 (Nat.le_trans (Nat.le_of_ble_eq_true rfl) hd) (hS.le (Nat.le_of_ble_eq_true rfl)) (hR.le (Nat.le_of_ble_eq_true rfl))  12 v2 N h1 hq) (g_aload_n rfl (g_getR (mz_at hS (Nat.le_of_ble_eq_true rfl) mzcS_0) mzcf_11_0 (mz_rb hR (Nat.le_of_ble_eq_true rfl) rfl mzcR_0_0) ?_))
  have h2 := hp
  refine g_v1v (Nat.le_of_ble_eq_true rfl) (mz_at hS (Nat.le_of_ble_eq_true rfl) mzcS_1) (fun _ hq => cs_121 (Nat.le_trans (Nat.le_of_ble_eq_true rfl) hd) (hS.le (Nat.le_of_ble_eq_true rfl)) (hR.le (Nat.le_of_ble_eq_true rfl))  (cf_119_0 12 v2 N) b h2 hq) ?_
  exact g_zret (z := ((cf_121_0 (cf_119_0 12 v2 N) b).1)) rfl (hr _ _ hC)
theorem cg_205_0 (hd : 4 ≤ d) (hS : mz_extR S 232) (hR : mz_rok R 232)  (v1 : Int32) (v2 : Int32) (N : mz_N) (b : Bool) {C0 : (Bool × mz_N) → Prop} (hr : ∀ (w : Bool) (N2 : mz_N), C0 (w, N2) → Q (.inl (some (.int (mz_b01 w)))) (mz_k S R N2 b t)) (hp : cp_205_0 v1 v2 N b) (hC : C0 (cf_205_0 v1 v2 N b)) : mz_G (d, mz_X0 L xs, some .boolean, [], mk_205, 4, Q) 0 mk_205 [(0, .ref 0), (1, .int v1), (2, .int v2)] [] true (mz_k S R N b t) := by
  unfold cf_205_0 at hC
  unfold cp_205_0 at hp
  refine g_aload_n rfl (g_getR (mz_at hS (Nat.le_of_ble_eq_true rfl) mzcS_0) mzcf_11_7 (mz_rb hR (Nat.le_of_ble_eq_true rfl) rfl mzcR_0_7) (g_getR (mz_at hS (Nat.le_of_ble_eq_true rfl) mzcS_115) mzcf_2_0 (mz_rb hR (Nat.le_of_ble_eq_true rfl) rfl mzcR_115_0) (g_iconst mzi_3 (g_aald4 (m := 120) (mz_at hS (Nat.le_of_ble_eq_true rfl) mzcS_116) (mz_ibd (by decide)) (mz_rb hR (Nat.le_of_ble_eq_true rfl) rfl mzcRr_116_3) (g_iload_n rfl ?_)))))
  obtain ⟨h1, hp⟩ := hp
  refine g_iald hS.1 (mz_at hS (Nat.le_of_ble_eq_true rfl) mzcS_120) h1 (g_istore_n (Nat.le_of_ble_eq_true rfl) rfl (g_aload_n rfl (g_getR (mz_at hS (Nat.le_of_ble_eq_true rfl) mzcS_0) mzcf_11_7 (mz_rb hR (Nat.le_of_ble_eq_true rfl) rfl mzcR_0_7) (g_iload_n rfl (g_iload_n rfl (g_aload_n rfl (g_getR (mz_at hS (Nat.le_of_ble_eq_true rfl) mzcS_0) mzcf_11_8 (mz_rb hR (Nat.le_of_ble_eq_true rfl) rfl mzcR_0_8) ?_)))))))
  obtain ⟨h2, hp⟩ := hp
  refine g_v4n (Nat.le_of_ble_eq_true rfl) (mz_at hS (Nat.le_of_ble_eq_true rfl) mzcS_115) (fun _ hq => cs_206 (Nat.le_trans (Nat.le_of_ble_eq_true rfl) hd) (hS.le (Nat.le_of_ble_eq_true rfl)) (hR.le (Nat.le_of_ble_eq_true rfl))  v1 v2 N h2 hq) (g_aload_n rfl (g_getR (mz_at hS (Nat.le_of_ble_eq_true rfl) mzcS_0) mzcf_11_0 (mz_rb hR (Nat.le_of_ble_eq_true rfl) rfl mzcR_0_0) ?_))
  refine g_v1n (Nat.le_of_ble_eq_true rfl) (mz_at hS (Nat.le_of_ble_eq_true rfl) mzcS_1) (fun _ hq => cs_117 (Nat.le_trans (Nat.le_of_ble_eq_true rfl) hd) (hS.le (Nat.le_of_ble_eq_true rfl)) (hR.le (Nat.le_of_ble_eq_true rfl))  (cf_206_0 v1 v2 N) trivial hq) (g_aload_n rfl (g_getR (mz_at hS (Nat.le_of_ble_eq_true rfl) mzcS_0) mzcf_11_0 (mz_rb hR (Nat.le_of_ble_eq_true rfl) rfl mzcR_0_0) (g_bipush mzb_9 (g_iconst mzi_0 ?_))))
  obtain ⟨h4, hp⟩ := hp
  refine g_v3n (Nat.le_of_ble_eq_true rfl) (mz_at hS (Nat.le_of_ble_eq_true rfl) mzcS_1) (fun _ hq => cs_119 (Nat.le_trans (Nat.le_of_ble_eq_true rfl) hd) (hS.le (Nat.le_of_ble_eq_true rfl)) (hR.le (Nat.le_of_ble_eq_true rfl))  9 0 (cf_117_0 (cf_206_0 v1 v2 N)) h4 hq) (g_iload_n rfl (g_iconst mzi_3 ?_))
  refine g_icge (tg := 57) rfl ms_205_57 hC (fun h5 hC => ?_) (fun h5 hC => ?_)
  · have hp := hp.1 h5
    refine g_aload_n rfl (g_getR (mz_at hS (Nat.le_of_ble_eq_true rfl) mzcS_0) mzcf_11_0 (mz_rb hR (Nat.le_of_ble_eq_true rfl) rfl mzcR_0_0) (g_bipush mzb_11 (g_iload_n rfl ?_)))
    obtain ⟨h6, hp⟩ := hp
    refine g_v3n (Nat.le_of_ble_eq_true rfl) (mz_at hS (Nat.le_of_ble_eq_true rfl) mzcS_1) (fun _ hq => cs_119 (Nat.le_trans (Nat.le_of_ble_eq_true rfl) hd) (hS.le (Nat.le_of_ble_eq_true rfl)) (hR.le (Nat.le_of_ble_eq_true rfl))  11 (mz_gI N 120 v2) (cf_119_0 9 0 (cf_117_0 (cf_206_0 v1 v2 N))) h6 hq) ?_
    refine g_weak ?_ (g_cl (cg_205_57 hd hS hR v2 (cf_119_0 11 (mz_gI N 120 v2) (cf_119_0 9 0 (cf_117_0 (cf_206_0 v1 v2 N)))) b hr hp hC))
    exact ⟨rfl, rfl, trivial⟩
  · have hp := hp.2 h5
    refine g_weak ?_ (g_cl (cg_205_57 hd hS hR v2 (cf_119_0 9 0 (cf_117_0 (cf_206_0 v1 v2 N))) b hr hp hC))
    exact ⟨rfl, rfl, trivial⟩
theorem cs_205 (hd : 5 ≤ d) (hS : mz_extR S 232) (hR : mz_rok R 232)  (v1 : Int32) (v2 : Int32) (N : mz_N) (b : Bool) (hp : cp_205_0 v1 v2 N b) (hq : Q (.inl (some (.int (mz_b01 ((cf_205_0 v1 v2 N b).1))))) (mz_k S R ((cf_205_0 v1 v2 N b).2) b t)) : mz_Ed (mz_X0 L xs) d 205 [.ref 0, .int v1, .int v2] (mz_k S R N b t) Q :=
  by
  refine g_in mzq_205 (Nat.le_of_ble_eq_true rfl) (Nat.le_of_ble_eq_true rfl) (Nat.le_trans (Nat.le_of_ble_eq_true rfl) hd) ?_
  refine g_weak ?_ (cg_205_0 (d := d - 1) (by omega) hS hR v1 v2 N b (C0 := fun z => Q (.inl (some (.int (mz_b01 z.1)))) (mz_k S R z.2 b t)) (fun _ _ h => h) hp hq)
  exact ⟨rfl, rfl, rfl, trivial⟩
/-! 207 KeptHouse$Care.freeIfBack (II)V -/
theorem ms_207_0 : mz_sf mk_207 0 = mk_207 := mz_sf_zero _
theorem ms_207_26 : mz_sf mk_207 26 = mt_207_26 := mz_sf_add ms_207_0 (t := 26) rfl rfl
theorem ms_207_33 : mz_sf mk_207 33 = mt_207_33 := mz_sf_add ms_207_26 (t := 7) rfl rfl
set_option maxRecDepth 100000 in
theorem mzq_207 : mz_PG0 207 = some (2, ⟨"KeptHouse$Care", "freeIfBack", "(II)V"⟩, prog_4_method_21_code, 3, none, [], mk_207, []) := rfl
theorem cg_207_0 (hd : 0 ≤ d) (hS : mz_extR S 232) (hR : mz_rok R 232)  (v1 : Int32) (v2 : Int32) (N : mz_N) {C0 : (mz_N) → Prop} (hr : ∀ (N2 : mz_N), C0 N2 → Q (.inl none) (mz_k S R N2 b t)) (hp : cp_207_0 v1 v2 N) (hC : C0 (cf_207_0 v1 v2 N)) : mz_G (d, mz_X0 L xs, none, [], mk_207, 3, Q) 0 mk_207 [(0, .ref 115), (1, .int v1), (2, .int v2)] [] true (mz_k S R N b t) := by
  unfold cf_207_0 at hC
  unfold cp_207_0 at hp
  refine g_aload_n rfl (g_getR (mz_at hS (Nat.le_of_ble_eq_true rfl) mzcS_115) mzcf_2_6 (mz_rb hR (Nat.le_of_ble_eq_true rfl) rfl mzcR_115_6) (g_iload_n rfl ?_))
  obtain ⟨h1, hp⟩ := hp
  refine g_iald hS.1 (mz_at hS (Nat.le_of_ble_eq_true rfl) mzcS_133) h1 ?_
  refine g_ifle (tg := 33) rfl ms_207_33 hC (fun h2 hC => ?_) (fun h2 hC => ?_)
  · have hp := hp.1 h2
    refine g_aload_n rfl (g_getR (mz_at hS (Nat.le_of_ble_eq_true rfl) mzcS_115) mzcf_2_10 (mz_rb hR (Nat.le_of_ble_eq_true rfl) rfl mzcR_115_10) (g_iload_n rfl ?_))
    obtain ⟨h3, hp⟩ := hp
    refine g_iald hS.1 (mz_at hS (Nat.le_of_ble_eq_true rfl) mzcS_141) h3 (g_iload_n rfl ?_)
    refine g_icne (tg := 33) rfl ms_207_33 hC (fun h4 hC => ?_) (fun h4 hC => ?_)
    · have hp := hp.1 h4
      refine g_aload_n rfl (g_getR (mz_at hS (Nat.le_of_ble_eq_true rfl) mzcS_115) mzcf_2_6 (mz_rb hR (Nat.le_of_ble_eq_true rfl) rfl mzcR_115_6) (g_iload_n rfl (g_iconst mzi_0 ?_)))
      obtain ⟨h5, hp⟩ := hp
      refine g_iast (mz_at hS (Nat.le_of_ble_eq_true rfl) mzcS_133) h5 (g_aload_n rfl (g_getR (mz_at hS (Nat.le_of_ble_eq_true rfl) mzcS_115) mzcf_2_7 (mz_rb hR (Nat.le_of_ble_eq_true rfl) rfl mzcR_115_7) (g_iload_n rfl (g_iconst mzi_0 ?_))))
      have h6 := hp
      refine g_iast (mz_at hS (Nat.le_of_ble_eq_true rfl) mzcS_134) h6 ?_
      exact g_vret rfl (hr _ hC)
    · have hp := hp.2 h4
      exact g_vret rfl (hr _ hC)
  · have hp := hp.2 h2
    exact g_vret rfl (hr _ hC)
theorem cs_207 (hd : 1 ≤ d) (hS : mz_extR S 232) (hR : mz_rok R 232)  (v1 : Int32) (v2 : Int32) (N : mz_N) (hp : cp_207_0 v1 v2 N) (hq : Q (.inl none) (mz_k S R (cf_207_0 v1 v2 N) b t)) : mz_Ed (mz_X0 L xs) d 207 [.ref 115, .int v1, .int v2] (mz_k S R N b t) Q :=
  by
  refine g_in mzq_207 (Nat.le_of_ble_eq_true rfl) (Nat.le_of_ble_eq_true rfl) (Nat.le_trans (Nat.le_of_ble_eq_true rfl) hd) ?_
  refine g_weak ?_ (cg_207_0 (d := d - 1) (by omega) hS hR v1 v2 N (C0 := fun z => Q (.inl none) (mz_k S R z b t)) (fun _ h => h) hp hq)
  exact ⟨rfl, rfl, rfl, trivial⟩
/-! 201 KeptHouse.careForHouse ()Z -/
theorem ms_201_0 : mz_sf mk_201 0 = mk_201 := mz_sf_zero _
theorem ms_201_2 : mz_sf mk_201 2 = mt_201_2 := mz_sf_add ms_201_0 (t := 2) rfl rfl
theorem ms_201_37 : mz_sf mk_201 37 = mt_201_37 := mz_sf_add ms_201_2 (t := 35) rfl rfl
theorem ms_201_64 : mz_sf mk_201 64 = mt_201_64 := mz_sf_add ms_201_37 (t := 27) rfl rfl
theorem ms_201_76 : mz_sf mk_201 76 = mt_201_76 := mz_sf_add ms_201_64 (t := 12) rfl rfl
theorem ms_201_82 : mz_sf mk_201 82 = mt_201_82 := mz_sf_add ms_201_76 (t := 6) rfl rfl
theorem ms_201_84 : mz_sf mk_201 84 = mt_201_84 := mz_sf_add ms_201_82 (t := 2) rfl rfl
theorem ms_201_110 : mz_sf mk_201 110 = mt_201_110 := mz_sf_add ms_201_84 (t := 26) rfl rfl
theorem ms_201_121 : mz_sf mk_201 121 = mt_201_121 := mz_sf_add ms_201_110 (t := 11) rfl rfl
theorem ms_201_142 : mz_sf mk_201 142 = mt_201_142 := mz_sf_add ms_201_121 (t := 21) rfl rfl
set_option maxRecDepth 100000 in
theorem mzq_201 : mz_PG0 201 = some (11, ⟨"KeptHouse", "careForHouse", "()Z"⟩, prog_1_method_74_code, 3, some .boolean, [], mk_201, []) := rfl
theorem cg_201_64 (hd : 5 ≤ d) (hS : mz_extR S 232) (hR : mz_rok R 232)  (v1 : Int32) (N : mz_N) (b : Bool) {C0 : (Bool × mz_N) → Prop} (hr : ∀ (w : Bool) (N2 : mz_N), C0 (w, N2) → Q (.inl (some (.int (mz_b01 w)))) (mz_k S R N2 b t)) {C1 : ((Int32 × mz_N) ⊕ (Bool × mz_N)) → Prop} (hc1 : ∀ s2, C1 (.inl s2) → mz_G (d, mz_X0 L xs, some .boolean, [], mk_201, 3, Q) 2 mt_201_2 [(0, .ref 0), (1, .int s2.1)] [] false (mz_k S R s2.2 b t)) (hx1 : ∀ z, C1 (.inr z) → C0 z) (hp : cp_201_64 v1 N b) (hC : C1 (cf_201_64 v1 N b)) : mz_G (d, mz_X0 L xs, some .boolean, [], mk_201, 3, Q) 64 mt_201_64 [(0, .ref 0), (1, .int v1)] [] false (mz_k S R N b t) := by
  unfold cf_201_64 at hC
  unfold cp_201_64 at hp
  refine g_aload_n rfl (g_getR (mz_at hS (Nat.le_of_ble_eq_true rfl) mzcS_0) mzcf_11_0 (mz_rb hR (Nat.le_of_ble_eq_true rfl) rfl mzcR_0_0) ?_)
  have h1 := hp
  refine g_v1v (Nat.le_of_ble_eq_true rfl) (mz_at hS (Nat.le_of_ble_eq_true rfl) mzcS_1) (fun _ hq => cs_121 (Nat.le_trans (Nat.le_of_ble_eq_true rfl) hd) (hS.le (Nat.le_of_ble_eq_true rfl)) (hR.le (Nat.le_of_ble_eq_true rfl))  N b h1 hq) ?_
  refine g_zne (tg := 76) rfl ms_201_76 hC (fun h2 hC => ?_) (fun h2 hC => ?_)
  · refine g_iinc rfl mzi_1 (Nat.le_of_ble_eq_true rfl) rfl (g_goto (tg := 2) rfl ms_201_2 ?_)
    refine g_weak ?_ (g_cl (hc1 ((v1 + 1), (cf_121_0 N b).2) hC))
    exact ⟨rfl, rfl, trivial⟩
  · refine g_iconst mzi_0 ?_
    exact g_zret (z := false) rfl (hr _ _ (hx1 _ hC))
theorem cg_201_121 (hd : 5 ≤ d) (hS : mz_extR S 232) (hR : mz_rok R 232)  (v1 : Int32) (N : mz_N) (b : Bool) {C0 : (Bool × mz_N) → Prop} (hr : ∀ (w : Bool) (N2 : mz_N), C0 (w, N2) → Q (.inl (some (.int (mz_b01 w)))) (mz_k S R N2 b t)) {C1 : ((Int32 × mz_N) ⊕ (Bool × mz_N)) → Prop} (hc1 : ∀ s2, C1 (.inl s2) → mz_G (d, mz_X0 L xs, some .boolean, [], mk_201, 3, Q) 84 mt_201_84 [(0, .ref 0), (1, .int s2.1)] [] false (mz_k S R s2.2 b t)) (hx1 : ∀ z, C1 (.inr z) → C0 z) (hp : cp_201_121 v1 N b) (hC : C1 (cf_201_121 v1 N b)) : mz_G (d, mz_X0 L xs, some .boolean, [], mk_201, 3, Q) 121 mt_201_121 [(0, .ref 0), (1, .int v1)] [] false (mz_k S R N b t) := by
  unfold cf_201_121 at hC
  unfold cp_201_121 at hp
  refine g_aload_n rfl (g_getR (mz_at hS (Nat.le_of_ble_eq_true rfl) mzcS_0) mzcf_11_7 (mz_rb hR (Nat.le_of_ble_eq_true rfl) rfl mzcR_0_7) (g_iload_n rfl (g_aload_n rfl (g_getR (mz_at hS (Nat.le_of_ble_eq_true rfl) mzcS_0) mzcf_11_8 (mz_rb hR (Nat.le_of_ble_eq_true rfl) rfl mzcR_0_8) (g_getI (mz_at hS (Nat.le_of_ble_eq_true rfl) mzcS_208) mzcf_1_0 ?_)))))
  have h1 := hp
  refine g_v3n (Nat.le_of_ble_eq_true rfl) (mz_at hS (Nat.le_of_ble_eq_true rfl) mzcS_115) (fun _ hq => cs_207 (Nat.le_trans (Nat.le_of_ble_eq_true rfl) hd) (hS.le (Nat.le_of_ble_eq_true rfl)) (hR.le (Nat.le_of_ble_eq_true rfl))  v1 (N.1 208 0) N h1 hq) (g_iinc rfl mzi_1 (Nat.le_of_ble_eq_true rfl) rfl (g_goto (tg := 84) rfl ms_201_84 ?_))
  refine g_weak ?_ (g_cl (hc1 ((v1 + 1), (cf_207_0 v1 (N.1 208 0) N)) hC))
  exact ⟨rfl, rfl, trivial⟩
theorem cb_201_84 (hd : 5 ≤ d) (hS : mz_extR S 232) (hR : mz_rok R 232)  (b : Bool) (s : Int32 × mz_N) {C0 : (Bool × mz_N) → Prop} (hr : ∀ (w : Bool) (N2 : mz_N), C0 (w, N2) → Q (.inl (some (.int (mz_b01 w)))) (mz_k S R N2 b t)) {C1 : ((Int32 × mz_N) ⊕ (Bool × mz_N)) → Prop} (hc1 : ∀ s2, C1 (.inl s2) → mz_G (d, mz_X0 L xs, some .boolean, [], mk_201, 3, Q) 84 mt_201_84 [(0, .ref 0), (1, .int s2.1)] [] false (mz_k S R s2.2 b t)) (hx1 : ∀ z, C1 (.inr z) → C0 z) (hp : cd_201_84 b s) (hC : C1 (cq_201_84 b s)) : mz_G (d, mz_X0 L xs, some .boolean, [], mk_201, 3, Q) 84 mt_201_84 [(0, .ref 0), (1, .int s.1)] [] false (mz_k S R s.2 b t) := by
  unfold cq_201_84 at hC
  unfold cd_201_84 at hp
  refine g_iload_n rfl (g_iconst mzi_2 ?_)
  refine g_icge (tg := 142) rfl ms_201_142 hC (fun h1 hC => ?_) (fun h1 hC => ?_)
  · have hp := hp.1 h1
    refine g_aload_n rfl (g_getR (mz_at hS (Nat.le_of_ble_eq_true rfl) mzcS_0) mzcf_11_7 (mz_rb hR (Nat.le_of_ble_eq_true rfl) rfl mzcR_0_7) (g_iload_n rfl (g_aload_n rfl (g_getR (mz_at hS (Nat.le_of_ble_eq_true rfl) mzcS_0) mzcf_11_8 (mz_rb hR (Nat.le_of_ble_eq_true rfl) rfl mzcR_0_8) (g_getI (mz_at hS (Nat.le_of_ble_eq_true rfl) mzcS_208) mzcf_1_0 ?_)))))
    obtain ⟨h2, hp⟩ := hp
    refine g_v3v (Nat.le_of_ble_eq_true rfl) (mz_at hS (Nat.le_of_ble_eq_true rfl) mzcS_115) (fun _ hq => cs_204 (Nat.le_trans (Nat.le_of_ble_eq_true rfl) hd) (hS.le (Nat.le_of_ble_eq_true rfl)) (hR.le (Nat.le_of_ble_eq_true rfl))  s.1 (s.2.1 208 0) s.2 h2 hq) (g_istore_n (Nat.le_of_ble_eq_true rfl) rfl (g_iload_n rfl (g_iconst mzi_m1 ?_)))
    refine g_iceq (tg := 121) rfl ms_201_121 hC (fun h3 hC => ?_) (fun h3 hC => ?_)
    · have hp := hp.1 h3
      refine g_weak ?_ (g_cl (cg_201_121 hd hS hR s.1 s.2 b hr hc1 hx1 hp hC))
      exact ⟨rfl, rfl, trivial⟩
    · have hp := hp.2 h3
      refine g_aload_n rfl (g_iload_n rfl (g_iload_n rfl ?_))
      obtain ⟨h4, hp⟩ := hp
      refine g_v3v (Nat.le_of_ble_eq_true rfl) (mz_at hS (Nat.le_of_ble_eq_true rfl) mzcS_0) (fun _ hq => cs_205 (Nat.le_trans (Nat.le_of_ble_eq_true rfl) hd) (hS.le (Nat.le_of_ble_eq_true rfl)) (hR.le (Nat.le_of_ble_eq_true rfl))  s.1 (cf_204_0 s.1 (s.2.1 208 0) s.2) s.2 b h4 hq) ?_
      refine g_zne (tg := 121) rfl ms_201_121 hC (fun h5 hC => ?_) (fun h5 hC => ?_)
      · have hp := hp.1 h5
        refine g_weak ?_ (g_cl (cg_201_121 hd hS hR s.1 ((cf_205_0 s.1 (cf_204_0 s.1 (s.2.1 208 0) s.2) s.2 b).2) b hr hc1 hx1 hp hC))
        exact ⟨rfl, rfl, trivial⟩
      · have hp := hp.2 h5
        refine g_iconst mzi_0 ?_
        exact g_zret (z := false) rfl (hr _ _ (hx1 _ hC))
  · have hp := hp.2 h1
    refine g_iconst mzi_1 ?_
    exact g_zret (z := true) rfl (hr _ _ (hx1 _ hC))
theorem cg_201_84 (hd : 5 ≤ d) (hS : mz_extR S 232) (hR : mz_rok R 232)  (v1 : Int32) (N : mz_N) (b : Bool) {C0 : (Bool × mz_N) → Prop} (hr : ∀ (w : Bool) (N2 : mz_N), C0 (w, N2) → Q (.inl (some (.int (mz_b01 w)))) (mz_k S R N2 b t)) (hp : cp_201_84 v1 N b) (hC : C0 (cf_201_84 v1 N b)) : mz_G (d, mz_X0 L xs, some .boolean, [], mk_201, 3, Q) 84 mt_201_84 [(0, .ref 0), (1, .int v1)] [] false (mz_k S R N b t) := by
  obtain ⟨n, hn⟩ := hp
  exact g_loop (G := fun s => mz_G (d, mz_X0 L xs, some .boolean, [], mk_201, 3, Q) 84 mt_201_84 [(0, .ref 0), (1, .int s.1)] [] false (mz_k S R s.2 b t)) (C := C0) (fun C2 hc hx s hP hC => cb_201_84 hd hS hR b s hr hc hx hP hC) n (v1, N) hn hC
theorem cg_201_82 (hd : 5 ≤ d) (hS : mz_extR S 232) (hR : mz_rok R 232)  (N : mz_N) (b : Bool) {C0 : (Bool × mz_N) → Prop} (hr : ∀ (w : Bool) (N2 : mz_N), C0 (w, N2) → Q (.inl (some (.int (mz_b01 w)))) (mz_k S R N2 b t)) (hp : cp_201_82 N b) (hC : C0 (cf_201_82 N b)) : mz_G (d, mz_X0 L xs, some .boolean, [], mk_201, 3, Q) 82 mt_201_82 [(0, .ref 0)] [] false (mz_k S R N b t) := by
  unfold cf_201_82 at hC
  unfold cp_201_82 at hp
  refine g_iconst mzi_0 (g_istore_n (Nat.le_of_ble_eq_true rfl) rfl ?_)
  refine g_weak ?_ (g_cl (cg_201_84 hd hS hR 0 N b hr hp hC))
  exact ⟨rfl, rfl, trivial⟩
theorem cb_201_2 (hd : 5 ≤ d) (hS : mz_extR S 232) (hR : mz_rok R 232)  (b : Bool) (s : Int32 × mz_N) {C0 : (Bool × mz_N) → Prop} (hr : ∀ (w : Bool) (N2 : mz_N), C0 (w, N2) → Q (.inl (some (.int (mz_b01 w)))) (mz_k S R N2 b t)) {C1 : ((Int32 × mz_N) ⊕ (Bool × mz_N)) → Prop} (hc1 : ∀ s2, C1 (.inl s2) → mz_G (d, mz_X0 L xs, some .boolean, [], mk_201, 3, Q) 2 mt_201_2 [(0, .ref 0), (1, .int s2.1)] [] false (mz_k S R s2.2 b t)) (hx1 : ∀ z, C1 (.inr z) → C0 z) (hp : cd_201_2 b s) (hC : C1 (cq_201_2 b s)) : mz_G (d, mz_X0 L xs, some .boolean, [], mk_201, 3, Q) 2 mt_201_2 [(0, .ref 0), (1, .int s.1)] [] false (mz_k S R s.2 b t) := by
  unfold cq_201_2 at hC
  unfold cd_201_2 at hp
  refine g_iload_n rfl (g_bipush mzb_8 ?_)
  refine g_icge (tg := 82) rfl ms_201_82 hC (fun h1 hC => ?_) (fun h1 hC => ?_)
  · have hp := hp.1 h1
    refine g_aload_n rfl (g_getR (mz_at hS (Nat.le_of_ble_eq_true rfl) mzcS_0) mzcf_11_7 (mz_rb hR (Nat.le_of_ble_eq_true rfl) rfl mzcR_0_7) (g_aload_n rfl (g_getR (mz_at hS (Nat.le_of_ble_eq_true rfl) mzcS_0) mzcf_11_8 (mz_rb hR (Nat.le_of_ble_eq_true rfl) rfl mzcR_0_8) (g_getI (mz_at hS (Nat.le_of_ble_eq_true rfl) mzcS_208) mzcf_1_0 ?_))))
    refine g_v2v (Nat.le_of_ble_eq_true rfl) (mz_at hS (Nat.le_of_ble_eq_true rfl) mzcS_115) (fun _ hq => cs_202 (Nat.le_trans (Nat.le_of_ble_eq_true rfl) hd) (hS.le (Nat.le_of_ble_eq_true rfl)) (hR.le (Nat.le_of_ble_eq_true rfl))  (s.2.1 208 0) s.2 trivial hq) ?_
    refine g_zeq (tg := 82) rfl ms_201_82 hC (fun h3 hC => ?_) (fun h3 hC => ?_)
    · have hp := hp.1 h3
      refine g_aload_n rfl (g_getR (mz_at hS (Nat.le_of_ble_eq_true rfl) mzcS_0) mzcf_11_7 (mz_rb hR (Nat.le_of_ble_eq_true rfl) rfl mzcR_0_7) (g_aload_n rfl (g_getR (mz_at hS (Nat.le_of_ble_eq_true rfl) mzcS_0) mzcf_11_8 (mz_rb hR (Nat.le_of_ble_eq_true rfl) rfl mzcR_0_8) ?_)))
      obtain ⟨h4, hp⟩ := hp
      refine g_v2v (Nat.le_of_ble_eq_true rfl) (mz_at hS (Nat.le_of_ble_eq_true rfl) mzcS_115) (fun _ hq => cs_203 (Nat.le_trans (Nat.le_of_ble_eq_true rfl) hd) (hS.le (Nat.le_of_ble_eq_true rfl)) (hR.le (Nat.le_of_ble_eq_true rfl))  s.2 h4 hq) (g_istore_n (Nat.le_of_ble_eq_true rfl) rfl (g_aload_n rfl (g_getR (mz_at hS (Nat.le_of_ble_eq_true rfl) mzcS_0) mzcf_11_0 (mz_rb hR (Nat.le_of_ble_eq_true rfl) rfl mzcR_0_0) ?_)))
      refine g_v1n (Nat.le_of_ble_eq_true rfl) (mz_at hS (Nat.le_of_ble_eq_true rfl) mzcS_1) (fun _ hq => cs_117 (Nat.le_trans (Nat.le_of_ble_eq_true rfl) hd) (hS.le (Nat.le_of_ble_eq_true rfl)) (hR.le (Nat.le_of_ble_eq_true rfl))  ((cf_203_0 s.2).2) trivial hq) (g_aload_n rfl (g_getR (mz_at hS (Nat.le_of_ble_eq_true rfl) mzcS_0) mzcf_11_0 (mz_rb hR (Nat.le_of_ble_eq_true rfl) rfl mzcR_0_0) (g_bipush mzb_9 (g_iconst mzi_0 ?_))))
      obtain ⟨h6, hp⟩ := hp
      refine g_v3n (Nat.le_of_ble_eq_true rfl) (mz_at hS (Nat.le_of_ble_eq_true rfl) mzcS_1) (fun _ hq => cs_119 (Nat.le_trans (Nat.le_of_ble_eq_true rfl) hd) (hS.le (Nat.le_of_ble_eq_true rfl)) (hR.le (Nat.le_of_ble_eq_true rfl))  9 0 (cf_117_0 ((cf_203_0 s.2).2)) h6 hq) (g_aload_n rfl (g_getR (mz_at hS (Nat.le_of_ble_eq_true rfl) mzcS_0) mzcf_11_0 (mz_rb hR (Nat.le_of_ble_eq_true rfl) rfl mzcR_0_0) (g_bipush mzb_11 (g_iload_n rfl ?_))))
      obtain ⟨h7, hp⟩ := hp
      refine g_v3n (Nat.le_of_ble_eq_true rfl) (mz_at hS (Nat.le_of_ble_eq_true rfl) mzcS_1) (fun _ hq => cs_119 (Nat.le_trans (Nat.le_of_ble_eq_true rfl) hd) (hS.le (Nat.le_of_ble_eq_true rfl)) (hR.le (Nat.le_of_ble_eq_true rfl))  11 ((cf_203_0 s.2).1) (cf_119_0 9 0 (cf_117_0 ((cf_203_0 s.2).2))) h7 hq) ?_
      refine g_weak ?_ (g_cl (cg_201_64 hd hS hR s.1 (cf_119_0 11 ((cf_203_0 s.2).1) (cf_119_0 9 0 (cf_117_0 ((cf_203_0 s.2).2)))) b hr hc1 hx1 hp hC))
      exact ⟨rfl, rfl, trivial⟩
    · have hp := hp.2 h3
      refine g_weak ?_ (g_cl (cg_201_82 hd hS hR s.2 b hr hp (hx1 _ hC)))
      exact ⟨rfl, trivial⟩
  · have hp := hp.2 h1
    refine g_weak ?_ (g_cl (cg_201_82 hd hS hR s.2 b hr hp (hx1 _ hC)))
    exact ⟨rfl, trivial⟩
theorem cg_201_2 (hd : 5 ≤ d) (hS : mz_extR S 232) (hR : mz_rok R 232)  (v1 : Int32) (N : mz_N) (b : Bool) {C0 : (Bool × mz_N) → Prop} (hr : ∀ (w : Bool) (N2 : mz_N), C0 (w, N2) → Q (.inl (some (.int (mz_b01 w)))) (mz_k S R N2 b t)) (hp : cp_201_2 v1 N b) (hC : C0 (cf_201_2 v1 N b)) : mz_G (d, mz_X0 L xs, some .boolean, [], mk_201, 3, Q) 2 mt_201_2 [(0, .ref 0), (1, .int v1)] [] false (mz_k S R N b t) := by
  obtain ⟨n, hn⟩ := hp
  exact g_loop (G := fun s => mz_G (d, mz_X0 L xs, some .boolean, [], mk_201, 3, Q) 2 mt_201_2 [(0, .ref 0), (1, .int s.1)] [] false (mz_k S R s.2 b t)) (C := C0) (fun C2 hc hx s hP hC => cb_201_2 hd hS hR b s hr hc hx hP hC) n (v1, N) hn hC
theorem cg_201_0 (hd : 5 ≤ d) (hS : mz_extR S 232) (hR : mz_rok R 232)  (N : mz_N) (b : Bool) {C0 : (Bool × mz_N) → Prop} (hr : ∀ (w : Bool) (N2 : mz_N), C0 (w, N2) → Q (.inl (some (.int (mz_b01 w)))) (mz_k S R N2 b t)) (hp : cp_201_0 N b) (hC : C0 (cf_201_0 N b)) : mz_G (d, mz_X0 L xs, some .boolean, [], mk_201, 3, Q) 0 mk_201 [(0, .ref 0)] [] true (mz_k S R N b t) := by
  unfold cf_201_0 at hC
  unfold cp_201_0 at hp
  refine g_iconst mzi_0 (g_istore_n (Nat.le_of_ble_eq_true rfl) rfl ?_)
  refine g_weak ?_ (g_cl (cg_201_2 hd hS hR 0 N b hr hp hC))
  exact ⟨rfl, rfl, trivial⟩
theorem cs_201 (hd : 6 ≤ d) (hS : mz_extR S 232) (hR : mz_rok R 232)  (N : mz_N) (b : Bool) (hp : cp_201_0 N b) (hq : Q (.inl (some (.int (mz_b01 ((cf_201_0 N b).1))))) (mz_k S R ((cf_201_0 N b).2) b t)) : mz_Ed (mz_X0 L xs) d 201 [.ref 0] (mz_k S R N b t) Q :=
  by
  refine g_in mzq_201 (Nat.le_of_ble_eq_true rfl) (Nat.le_of_ble_eq_true rfl) (Nat.le_trans (Nat.le_of_ble_eq_true rfl) hd) ?_
  refine g_weak ?_ (cg_201_0 (d := d - 1) (by omega) hS hR N b (C0 := fun z => Q (.inl (some (.int (mz_b01 z.1)))) (mz_k S R z.2 b t)) (fun _ _ h => h) hp hq)
  exact ⟨rfl, trivial⟩
/-! 209 KeptHouse$Climate.stalePerCell (LKeptHouse$Plan;I)J -/
theorem ms_209_0 : mz_sf mk_209 0 = mk_209 := mz_sf_zero _
set_option maxRecDepth 100000 in
theorem mzq_209 : mz_PG0 209 = some (3, ⟨"KeptHouse$Climate", "stalePerCell", "(LKeptHouse$Plan;I)J"⟩, prog_5_method_6_code, 3, some .long, [], mk_209, []) := rfl
theorem cg_209_0 (hd : 2 ≤ d) (hS : mz_extR S 232) (hR : mz_rok R 232)  (v2 : Int32) (N : mz_N) {C0 : (Int64) → Prop} (hr : ∀ (w : Int64), C0 w → Q (.inl (some (.long w))) (mz_k S R N b t)) (hp : cp_209_0 v2 N) (hC : C0 (cf_209_0 v2 N)) : mz_G (d, mz_X0 L xs, some .long, [], mk_209, 3, Q) 0 mk_209 [(0, .ref 65), (1, .ref 2), (2, .int v2)] [] true (mz_k S R N b t) := by
  unfold cf_209_0 at hC
  unfold cp_209_0 at hp
  refine g_aload_n rfl (g_aload_n rfl (g_aload_n rfl (g_getR (mz_at hS (Nat.le_of_ble_eq_true rfl) mzcS_65) mzcf_3_3 (mz_rb hR (Nat.le_of_ble_eq_true rfl) rfl mzcR_65_3) (g_iload_n rfl ?_))))
  obtain ⟨h1, hp⟩ := hp
  refine g_v4v (Nat.le_of_ble_eq_true rfl) (mz_at hS (Nat.le_of_ble_eq_true rfl) mzcS_65) (fun _ hq => cs_158 (Nat.le_trans (Nat.le_of_ble_eq_true rfl) hd) (hS.le (Nat.le_of_ble_eq_true rfl)) (hR.le (Nat.le_of_ble_eq_true rfl)) 69 (mz_at hS (Nat.le_of_ble_eq_true rfl) mzcS_69) v2 N h1 hq) (g_iconst mzi_1 (g_aload_n rfl (g_getR (mz_at hS (Nat.le_of_ble_eq_true rfl) mzcS_2) mzcf_5_9 (mz_rb hR (Nat.le_of_ble_eq_true rfl) rfl mzcR_2_9) (g_iconst mzi_2 (g_aald4 (m := 19) (mz_at hS (Nat.le_of_ble_eq_true rfl) mzcS_16) (mz_ibd (by decide)) (mz_rb hR (Nat.le_of_ble_eq_true rfl) rfl mzcRr_16_2) (g_iload_n rfl ?_))))))
  obtain ⟨h2, hp⟩ := hp
  refine g_iald hS.1 (mz_at hS (Nat.le_of_ble_eq_true rfl) mzcS_19) h2 ?_
  have h3 := hp
  refine g_s3v (Nat.le_of_ble_eq_true rfl) (fun _ hq => cs_159 (Nat.le_trans (Nat.le_of_ble_eq_true rfl) hd) (hS.le (Nat.le_of_ble_eq_true rfl)) (hR.le (Nat.le_of_ble_eq_true rfl))  (cf_158_0 69 v2 N) 1 (mz_gI N 19 v2) h3 hq) ?_
  exact g_lret rfl (hr _ hC)
theorem cs_209 (hd : 3 ≤ d) (hS : mz_extR S 232) (hR : mz_rok R 232)  (v2 : Int32) (N : mz_N) (hp : cp_209_0 v2 N) (hq : Q (.inl (some (.long (cf_209_0 v2 N)))) (mz_k S R N b t)) : mz_Ed (mz_X0 L xs) d 209 [.ref 65, .ref 2, .int v2] (mz_k S R N b t) Q :=
  by
  refine g_in mzq_209 (Nat.le_of_ble_eq_true rfl) (Nat.le_of_ble_eq_true rfl) (Nat.le_trans (Nat.le_of_ble_eq_true rfl) hd) ?_
  refine g_weak ?_ (cg_209_0 (d := d - 1) (by omega) hS hR v2 N (C0 := fun z => Q (.inl (some (.long z))) (mz_k S R N b t)) (fun _ h => h) hp hq)
  exact ⟨rfl, rfl, rfl, trivial⟩
/-! 210 KeptHouse$Climate.isDetected (LKeptHouse$Plan;I)Z -/
theorem ms_210_0 : mz_sf mk_210 0 = mk_210 := mz_sf_zero _
theorem ms_210_34 : mz_sf mk_210 34 = mt_210_34 := mz_sf_add ms_210_0 (t := 34) rfl rfl
theorem ms_210_38 : mz_sf mk_210 38 = mt_210_38 := mz_sf_add ms_210_34 (t := 4) rfl rfl
theorem ms_210_39 : mz_sf mk_210 39 = mt_210_39 := mz_sf_add ms_210_38 (t := 1) rfl rfl
set_option maxRecDepth 100000 in
theorem mzq_210 : mz_PG0 210 = some (3, ⟨"KeptHouse$Climate", "isDetected", "(LKeptHouse$Plan;I)Z"⟩, prog_5_method_8_code, 3, some .boolean, [], mk_210, []) := rfl
theorem cg_210_0 (hd : 1 ≤ d) (hS : mz_extR S 232) (hR : mz_rok R 232)  (v2 : Int32) (N : mz_N) {C0 : (Bool) → Prop} (hr : ∀ (w : Bool), C0 w → Q (.inl (some (.int (mz_b01 w)))) (mz_k S R N b t)) (hp : cp_210_0 v2 N) (hC : C0 (cf_210_0 v2 N)) : mz_G (d, mz_X0 L xs, some .boolean, [], mk_210, 3, Q) 0 mk_210 [(0, .ref 65), (1, .ref 2), (2, .int v2)] [] true (mz_k S R N b t) := by
  unfold cf_210_0 at hC
  unfold cp_210_0 at hp
  refine g_aload_n rfl ?_
  obtain ⟨h1, hp⟩ := hp
  refine g_getZ (mz_at hS (Nat.le_of_ble_eq_true rfl) mzcS_65) mzcf_3_8 h1 ?_
  refine g_zeq (tg := 38) rfl ms_210_38 hC (fun h2 hC => ?_) (fun h2 hC => ?_)
  · have hp := hp.1 h2
    refine g_aload_n rfl (g_aload_n rfl (g_aload_n rfl (g_getR (mz_at hS (Nat.le_of_ble_eq_true rfl) mzcS_65) mzcf_3_5 (mz_rb hR (Nat.le_of_ble_eq_true rfl) rfl mzcR_65_5) (g_iload_n rfl ?_))))
    obtain ⟨h3, hp⟩ := hp
    refine g_v4v (Nat.le_of_ble_eq_true rfl) (mz_at hS (Nat.le_of_ble_eq_true rfl) mzcS_65) (fun _ hq => cs_158 (Nat.le_trans (Nat.le_of_ble_eq_true rfl) hd) (hS.le (Nat.le_of_ble_eq_true rfl)) (hR.le (Nat.le_of_ble_eq_true rfl)) 71 (mz_at hS (Nat.le_of_ble_eq_true rfl) mzcS_71) v2 N h3 hq) (g_con3 (g_aload_n rfl (g_getR (mz_at hS (Nat.le_of_ble_eq_true rfl) mzcS_2) mzcf_5_9 (mz_rb hR (Nat.le_of_ble_eq_true rfl) rfl mzcR_2_9) (g_iconst mzi_2 (g_aald4 (m := 19) (mz_at hS (Nat.le_of_ble_eq_true rfl) mzcS_16) (mz_ibd (by decide)) (mz_rb hR (Nat.le_of_ble_eq_true rfl) rfl mzcRr_16_2) (g_iload_n rfl ?_))))))
    have h4 := hp
    refine g_iald hS.1 (mz_at hS (Nat.le_of_ble_eq_true rfl) mzcS_19) h4 (g_i2l (g_lmul (g_lcmp ?_)))
    refine g_lle (tg := 38) rfl ms_210_38 hC (fun h5 hC => ?_) (fun h5 hC => ?_)
    · refine g_iconst mzi_1 (g_goto (tg := 39) rfl ms_210_39 ?_)
      exact g_zret (z := true) rfl (hr _ hC)
    · refine g_iconst mzi_0 ?_
      exact g_zret (z := false) rfl (hr _ hC)
  · have hp := hp.2 h2
    refine g_iconst mzi_0 ?_
    exact g_zret (z := false) rfl (hr _ hC)
theorem cs_210 (hd : 2 ≤ d) (hS : mz_extR S 232) (hR : mz_rok R 232)  (v2 : Int32) (N : mz_N) (hp : cp_210_0 v2 N) (hq : Q (.inl (some (.int (mz_b01 (cf_210_0 v2 N))))) (mz_k S R N b t)) : mz_Ed (mz_X0 L xs) d 210 [.ref 65, .ref 2, .int v2] (mz_k S R N b t) Q :=
  by
  refine g_in mzq_210 (Nat.le_of_ble_eq_true rfl) (Nat.le_of_ble_eq_true rfl) (Nat.le_trans (Nat.le_of_ble_eq_true rfl) hd) ?_
  refine g_weak ?_ (cg_210_0 (d := d - 1) (by omega) hS hR v2 N (C0 := fun z => Q (.inl (some (.int (mz_b01 z)))) (mz_k S R N b t)) (fun _ h => h) hp hq)
  exact ⟨rfl, rfl, rfl, trivial⟩
/-! 211 KeptHouse$Climate.isAnyDetected (LKeptHouse$Plan;)Z -/
theorem ms_211_0 : mz_sf mk_211 0 = mk_211 := mz_sf_zero _
theorem ms_211_2 : mz_sf mk_211 2 = mt_211_2 := mz_sf_add ms_211_0 (t := 2) rfl rfl
theorem ms_211_26 : mz_sf mk_211 26 = mt_211_26 := mz_sf_add ms_211_2 (t := 24) rfl rfl
theorem ms_211_28 : mz_sf mk_211 28 = mt_211_28 := mz_sf_add ms_211_26 (t := 2) rfl rfl
theorem ms_211_34 : mz_sf mk_211 34 = mt_211_34 := mz_sf_add ms_211_28 (t := 6) rfl rfl
set_option maxRecDepth 100000 in
theorem mzq_211 : mz_PG0 211 = some (3, ⟨"KeptHouse$Climate", "isAnyDetected", "(LKeptHouse$Plan;)Z"⟩, prog_5_method_9_code, 3, some .boolean, [], mk_211, []) := rfl
theorem cb_211_2 (hd : 2 ≤ d) (hS : mz_extR S 232) (hR : mz_rok R 232)  (N : mz_N) (s : Int32) {C0 : (Bool) → Prop} (hr : ∀ (w : Bool), C0 w → Q (.inl (some (.int (mz_b01 w)))) (mz_k S R N b t)) {C1 : ((Int32) ⊕ (Bool)) → Prop} (hc1 : ∀ s2, C1 (.inl s2) → mz_G (d, mz_X0 L xs, some .boolean, [], mk_211, 3, Q) 2 mt_211_2 [(0, .ref 65), (1, .ref 2), (2, .int s2)] [] false (mz_k S R N b t)) (hx1 : ∀ z, C1 (.inr z) → C0 z) (hp : cd_211_2 N s) (hC : C1 (cq_211_2 N s)) : mz_G (d, mz_X0 L xs, some .boolean, [], mk_211, 3, Q) 2 mt_211_2 [(0, .ref 65), (1, .ref 2), (2, .int s)] [] false (mz_k S R N b t) := by
  unfold cq_211_2 at hC
  unfold cd_211_2 at hp
  refine g_iload_n rfl (g_aload_n rfl (g_getI (mz_at hS (Nat.le_of_ble_eq_true rfl) mzcS_2) mzcf_5_7 ?_))
  refine g_icge (tg := 34) rfl ms_211_34 hC (fun h1 hC => ?_) (fun h1 hC => ?_)
  · have hp := hp.1 h1
    refine g_aload_n rfl ?_
    obtain ⟨h2, hp⟩ := hp
    refine g_getZ (mz_at hS (Nat.le_of_ble_eq_true rfl) mzcS_65) mzcf_3_8 h2 ?_
    refine g_zeq (tg := 34) rfl ms_211_34 hC (fun h3 hC => ?_) (fun h3 hC => ?_)
    · have hp := hp.1 h3
      refine g_aload_n rfl (g_aload_n rfl (g_iload_n rfl ?_))
      have h4 := hp
      refine g_v3v (Nat.le_of_ble_eq_true rfl) (mz_at hS (Nat.le_of_ble_eq_true rfl) mzcS_65) (fun _ hq => cs_210 (Nat.le_trans (Nat.le_of_ble_eq_true rfl) hd) (hS.le (Nat.le_of_ble_eq_true rfl)) (hR.le (Nat.le_of_ble_eq_true rfl))  s N h4 hq) ?_
      refine g_zeq (tg := 28) rfl ms_211_28 hC (fun h5 hC => ?_) (fun h5 hC => ?_)
      · refine g_iconst mzi_1 ?_
        exact g_zret (z := true) rfl (hr _ (hx1 _ hC))
      · refine g_iinc rfl mzi_1 (Nat.le_of_ble_eq_true rfl) rfl (g_goto (tg := 2) rfl ms_211_2 ?_)
        refine g_weak ?_ (g_cl (hc1 ((s + 1)) hC))
        exact ⟨rfl, rfl, rfl, trivial⟩
    · have hp := hp.2 h3
      refine g_iconst mzi_0 ?_
      exact g_zret (z := false) rfl (hr _ (hx1 _ hC))
  · have hp := hp.2 h1
    refine g_iconst mzi_0 ?_
    exact g_zret (z := false) rfl (hr _ (hx1 _ hC))
theorem cg_211_2 (hd : 2 ≤ d) (hS : mz_extR S 232) (hR : mz_rok R 232)  (v2 : Int32) (N : mz_N) {C0 : (Bool) → Prop} (hr : ∀ (w : Bool), C0 w → Q (.inl (some (.int (mz_b01 w)))) (mz_k S R N b t)) (hp : cp_211_2 v2 N) (hC : C0 (cf_211_2 v2 N)) : mz_G (d, mz_X0 L xs, some .boolean, [], mk_211, 3, Q) 2 mt_211_2 [(0, .ref 65), (1, .ref 2), (2, .int v2)] [] false (mz_k S R N b t) := by
  obtain ⟨n, hn⟩ := hp
  exact g_loop (G := fun s => mz_G (d, mz_X0 L xs, some .boolean, [], mk_211, 3, Q) 2 mt_211_2 [(0, .ref 65), (1, .ref 2), (2, .int s)] [] false (mz_k S R N b t)) (C := C0) (fun C2 hc hx s hP hC => cb_211_2 hd hS hR N s hr hc hx hP hC) n (v2) hn hC
theorem cg_211_0 (hd : 2 ≤ d) (hS : mz_extR S 232) (hR : mz_rok R 232)  (N : mz_N) {C0 : (Bool) → Prop} (hr : ∀ (w : Bool), C0 w → Q (.inl (some (.int (mz_b01 w)))) (mz_k S R N b t)) (hp : cp_211_0 N) (hC : C0 (cf_211_0 N)) : mz_G (d, mz_X0 L xs, some .boolean, [], mk_211, 3, Q) 0 mk_211 [(0, .ref 65), (1, .ref 2)] [] true (mz_k S R N b t) := by
  unfold cf_211_0 at hC
  unfold cp_211_0 at hp
  refine g_iconst mzi_0 (g_istore_n (Nat.le_of_ble_eq_true rfl) rfl ?_)
  refine g_weak ?_ (g_cl (cg_211_2 hd hS hR 0 N hr hp hC))
  exact ⟨rfl, rfl, rfl, trivial⟩
theorem cs_211 (hd : 3 ≤ d) (hS : mz_extR S 232) (hR : mz_rok R 232)  (N : mz_N) (hp : cp_211_0 N) (hq : Q (.inl (some (.int (mz_b01 (cf_211_0 N))))) (mz_k S R N b t)) : mz_Ed (mz_X0 L xs) d 211 [.ref 65, .ref 2] (mz_k S R N b t) Q :=
  by
  refine g_in mzq_211 (Nat.le_of_ble_eq_true rfl) (Nat.le_of_ble_eq_true rfl) (Nat.le_trans (Nat.le_of_ble_eq_true rfl) hd) ?_
  refine g_weak ?_ (cg_211_0 (d := d - 1) (by omega) hS hR N (C0 := fun z => Q (.inl (some (.int (mz_b01 z)))) (mz_k S R N b t)) (fun _ h => h) hp hq)
  exact ⟨rfl, rfl, trivial⟩
/-! 212 KeptHouse$Supply.sumLoads ()I -/
theorem ms_212_0 : mz_sf mk_212 0 = mk_212 := mz_sf_zero _
theorem ms_212_4 : mz_sf mk_212 4 = mt_212_4 := mz_sf_add ms_212_0 (t := 4) rfl rfl
theorem ms_212_21 : mz_sf mk_212 21 = mt_212_21 := mz_sf_add ms_212_4 (t := 17) rfl rfl
theorem ms_212_27 : mz_sf mk_212 27 = mt_212_27 := mz_sf_add ms_212_21 (t := 6) rfl rfl
set_option maxRecDepth 100000 in
theorem mzq_212 : mz_PG0 212 = some (9, ⟨"KeptHouse$Supply", "sumLoads", "()I"⟩, prog_11_method_5_code, 3, some .int, [], mk_212, []) := rfl
theorem cb_212_4 (hd : 0 ≤ d) (hS : mz_extR S 232) (hR : mz_rok R 232)  (N : mz_N) (s : Int32 × Int32) {C0 : (Int32) → Prop} (hr : ∀ (w : Int32), C0 w → Q (.inl (some (.int w))) (mz_k S R N b t)) {C1 : ((Int32 × Int32) ⊕ (Int32)) → Prop} (hc1 : ∀ s2, C1 (.inl s2) → mz_G (d, mz_X0 L xs, some .int, [], mk_212, 3, Q) 4 mt_212_4 [(0, .ref 56), (1, .int s2.1), (2, .int s2.2)] [] false (mz_k S R N b t)) (hx1 : ∀ z, C1 (.inr z) → C0 z) (hp : cd_212_4 N s) (hC : C1 (cq_212_4 N s)) : mz_G (d, mz_X0 L xs, some .int, [], mk_212, 3, Q) 4 mt_212_4 [(0, .ref 56), (1, .int s.1), (2, .int s.2)] [] false (mz_k S R N b t) := by
  unfold cq_212_4 at hC
  unfold cd_212_4 at hp
  refine g_iload_n rfl (g_bipush mzb_11 ?_)
  refine g_icge (tg := 27) rfl ms_212_27 hC (fun h1 hC => ?_) (fun h1 hC => ?_)
  · have hp := hp.1 h1
    refine g_iload_n rfl (g_aload_n rfl (g_getR (mz_at hS (Nat.le_of_ble_eq_true rfl) mzcS_56) mzcf_9_0 (mz_rb hR (Nat.le_of_ble_eq_true rfl) rfl mzcR_56_0) (g_iconst mzi_0 (g_aald4 (m := 58) (mz_at hS (Nat.le_of_ble_eq_true rfl) mzcS_57) (mz_ibd (by decide)) (mz_rb hR (Nat.le_of_ble_eq_true rfl) rfl mzcRr_57_0) (g_iload_n rfl ?_)))))
    have h2 := hp
    refine g_iald hS.1 (mz_at hS (Nat.le_of_ble_eq_true rfl) mzcS_58) h2 (g_iadd (g_istore_n (Nat.le_of_ble_eq_true rfl) rfl (g_iinc rfl mzi_1 (Nat.le_of_ble_eq_true rfl) rfl (g_goto (tg := 4) rfl ms_212_4 ?_))))
    refine g_weak ?_ (g_cl (hc1 ((s.1 + (mz_gI N 58 s.2)), (s.2 + 1)) hC))
    exact ⟨rfl, rfl, rfl, trivial⟩
  · have hp := hp.2 h1
    refine g_iload_n rfl ?_
    exact g_iret rfl (hr _ (hx1 _ hC))
theorem cg_212_4 (hd : 0 ≤ d) (hS : mz_extR S 232) (hR : mz_rok R 232)  (v1 : Int32) (v2 : Int32) (N : mz_N) {C0 : (Int32) → Prop} (hr : ∀ (w : Int32), C0 w → Q (.inl (some (.int w))) (mz_k S R N b t)) (hp : cp_212_4 v1 v2 N) (hC : C0 (cf_212_4 v1 v2 N)) : mz_G (d, mz_X0 L xs, some .int, [], mk_212, 3, Q) 4 mt_212_4 [(0, .ref 56), (1, .int v1), (2, .int v2)] [] false (mz_k S R N b t) := by
  obtain ⟨n, hn⟩ := hp
  exact g_loop (G := fun s => mz_G (d, mz_X0 L xs, some .int, [], mk_212, 3, Q) 4 mt_212_4 [(0, .ref 56), (1, .int s.1), (2, .int s.2)] [] false (mz_k S R N b t)) (C := C0) (fun C2 hc hx s hP hC => cb_212_4 hd hS hR N s hr hc hx hP hC) n (v1, v2) hn hC
theorem cg_212_0 (hd : 0 ≤ d) (hS : mz_extR S 232) (hR : mz_rok R 232)  (N : mz_N) {C0 : (Int32) → Prop} (hr : ∀ (w : Int32), C0 w → Q (.inl (some (.int w))) (mz_k S R N b t)) (hp : cp_212_0 N) (hC : C0 (cf_212_0 N)) : mz_G (d, mz_X0 L xs, some .int, [], mk_212, 3, Q) 0 mk_212 [(0, .ref 56)] [] true (mz_k S R N b t) := by
  unfold cf_212_0 at hC
  unfold cp_212_0 at hp
  refine g_iconst mzi_0 (g_istore_n (Nat.le_of_ble_eq_true rfl) rfl (g_iconst mzi_0 (g_istore_n (Nat.le_of_ble_eq_true rfl) rfl ?_)))
  refine g_weak ?_ (g_cl (cg_212_4 hd hS hR 0 0 N hr hp hC))
  exact ⟨rfl, rfl, rfl, trivial⟩
theorem cs_212 (hd : 1 ≤ d) (hS : mz_extR S 232) (hR : mz_rok R 232)  (N : mz_N) (hp : cp_212_0 N) (hq : Q (.inl (some (.int (cf_212_0 N)))) (mz_k S R N b t)) : mz_Ed (mz_X0 L xs) d 212 [.ref 56] (mz_k S R N b t) Q :=
  by
  refine g_in mzq_212 (Nat.le_of_ble_eq_true rfl) (Nat.le_of_ble_eq_true rfl) (Nat.le_trans (Nat.le_of_ble_eq_true rfl) hd) ?_
  refine g_weak ?_ (cg_212_0 (d := d - 1) (by omega) hS hR N (C0 := fun z => Q (.inl (some (.int z))) (mz_k S R N b t)) (fun _ h => h) hp hq)
  exact ⟨rfl, trivial⟩
/-! 215 KeptHouse$Program.tell (II)V -/
theorem ms_215_0 : mz_sf mk_215 0 = mk_215 := mz_sf_zero _
theorem ms_215_24 : mz_sf mk_215 24 = mt_215_24 := mz_sf_add ms_215_0 (t := 24) rfl rfl
theorem ms_215_27 : mz_sf mk_215 27 = mt_215_27 := mz_sf_add ms_215_24 (t := 3) rfl rfl
theorem ms_215_49 : mz_sf mk_215 49 = mt_215_49 := mz_sf_add ms_215_27 (t := 22) rfl rfl
theorem ms_215_52 : mz_sf mk_215 52 = mt_215_52 := mz_sf_add ms_215_49 (t := 3) rfl rfl
theorem ms_215_65 : mz_sf mk_215 65 = mt_215_65 := mz_sf_add ms_215_52 (t := 13) rfl rfl
theorem ms_215_66 : mz_sf mk_215 66 = mt_215_66 := mz_sf_add ms_215_65 (t := 1) rfl rfl
theorem ms_215_67 : mz_sf mk_215 67 = mt_215_67 := mz_sf_add ms_215_66 (t := 1) rfl rfl
set_option maxRecDepth 100000 in
theorem mzq_215 : mz_PG0 215 = some (6, ⟨"KeptHouse$Program", "tell", "(II)V"⟩, prog_8_method_11_code, 3, none, [], mk_215, []) := rfl
theorem cg_215_66 (hd : 0 ≤ d) (hS : mz_extR S 232) (hR : mz_rok R 232)  (s1 : Int32) (s2 : Bool) (N : mz_N) {C0 : (mz_N) → Prop} (hr : ∀ (N2 : mz_N), C0 N2 → Q (.inl none) (mz_k S R N2 b t)) (hp : cp_215_66 s1 s2 N) (hC : C0 (cf_215_66 s1 s2 N)) : mz_G (d, mz_X0 L xs, none, [], mk_215, 3, Q) 66 mt_215_66 [] [.int (mz_b01 s2), .int s1, .ref 53] true (mz_k S R N b t) := by
  unfold cf_215_66 at hC
  unfold cp_215_66 at hp
  have h1 := hp
  refine g_iast (mz_at hS (Nat.le_of_ble_eq_true rfl) mzcS_53) h1 ?_
  exact g_vret rfl (hr _ hC)
theorem cg_215_0 (hd : 0 ≤ d) (hS : mz_extR S 232) (hR : mz_rok R 232)  (v1 : Int32) (v2 : Int32) (N : mz_N) {C0 : (mz_N) → Prop} (hr : ∀ (N2 : mz_N), C0 N2 → Q (.inl none) (mz_k S R N2 b t)) (hp : cp_215_0 v1 v2 N) (hC : C0 (cf_215_0 v1 v2 N)) : mz_G (d, mz_X0 L xs, none, [], mk_215, 3, Q) 0 mk_215 [(0, .ref 41), (1, .int v1), (2, .int v2)] [] true (mz_k S R N b t) := by
  unfold cf_215_0 at hC
  unfold cp_215_0 at hp
  refine g_iload_n rfl (g_bipush mzb_10 ?_)
  refine g_icge (tg := 27) rfl ms_215_27 hC (fun h1 hC => ?_) (fun h1 hC => ?_)
  · have hp := hp.1 h1
    refine g_aload_n rfl (g_getR (mz_at hS (Nat.le_of_ble_eq_true rfl) mzcS_41) mzcf_6_6 (mz_rb hR (Nat.le_of_ble_eq_true rfl) rfl mzcR_41_6) (g_iload_n rfl (g_bipush mzb_50 (g_sipush mzs_300 (g_iload_n rfl (g_imin (Nat.le_of_ble_eq_true rfl) (g_imax (Nat.le_of_ble_eq_true rfl) ?_)))))))
    have h2 := hp
    refine g_iast (mz_at hS (Nat.le_of_ble_eq_true rfl) mzcS_53) h2 (g_goto (tg := 67) rfl ms_215_67 ?_)
    exact g_vret rfl (hr _ hC)
  · have hp := hp.2 h1
    refine g_iload_n rfl (g_bipush mzb_13 ?_)
    refine g_icne (tg := 52) rfl ms_215_52 hC (fun h3 hC => ?_) (fun h3 hC => ?_)
    · have hp := hp.1 h3
      refine g_aload_n rfl (g_getR (mz_at hS (Nat.le_of_ble_eq_true rfl) mzcS_41) mzcf_6_6 (mz_rb hR (Nat.le_of_ble_eq_true rfl) rfl mzcR_41_6) (g_iload_n rfl (g_iconst mzi_0 (g_bipush mzb_9 (g_iload_n rfl (g_imin (Nat.le_of_ble_eq_true rfl) (g_imax (Nat.le_of_ble_eq_true rfl) ?_)))))))
      have h4 := hp
      refine g_iast (mz_at hS (Nat.le_of_ble_eq_true rfl) mzcS_53) h4 (g_goto (tg := 67) rfl ms_215_67 ?_)
      exact g_vret rfl (hr _ hC)
    · have hp := hp.2 h3
      refine g_aload_n rfl (g_getR (mz_at hS (Nat.le_of_ble_eq_true rfl) mzcS_41) mzcf_6_6 (mz_rb hR (Nat.le_of_ble_eq_true rfl) rfl mzcR_41_6) (g_iload_n rfl (g_iload_n rfl ?_)))
      refine g_ifne (tg := 65) rfl ms_215_65 hC (fun h5 hC => ?_) (fun h5 hC => ?_)
      · have hp := hp.1 h5
        refine g_iconst mzi_0 (g_goto (tg := 66) rfl ms_215_66 ?_)
        refine g_weak ?_ (cg_215_66 hd hS hR v1 false N hr hp hC)
        exact trivial
      · have hp := hp.2 h5
        refine g_iconst mzi_1 ?_
        refine g_weak ?_ (cg_215_66 hd hS hR v1 true N hr hp hC)
        exact trivial
theorem cs_215 (hd : 1 ≤ d) (hS : mz_extR S 232) (hR : mz_rok R 232)  (v1 : Int32) (v2 : Int32) (N : mz_N) (hp : cp_215_0 v1 v2 N) (hq : Q (.inl none) (mz_k S R (cf_215_0 v1 v2 N) b t)) : mz_Ed (mz_X0 L xs) d 215 [.ref 41, .int v1, .int v2] (mz_k S R N b t) Q :=
  by
  refine g_in mzq_215 (Nat.le_of_ble_eq_true rfl) (Nat.le_of_ble_eq_true rfl) (Nat.le_trans (Nat.le_of_ble_eq_true rfl) hd) ?_
  refine g_weak ?_ (cg_215_0 (d := d - 1) (by omega) hS hR v1 v2 N (C0 := fun z => Q (.inl none) (mz_k S R z b t)) (fun _ h => h) hp hq)
  exact ⟨rfl, rfl, rfl, trivial⟩
/-! 216 KeptHouse$Program.pick (I)I -/
theorem ms_216_0 : mz_sf mk_216 0 = mk_216 := mz_sf_zero _
theorem ms_216_7 : mz_sf mk_216 7 = mt_216_7 := mz_sf_add ms_216_0 (t := 7) rfl rfl
theorem ms_216_36 : mz_sf mk_216 36 = mt_216_36 := mz_sf_add ms_216_7 (t := 29) rfl rfl
theorem ms_216_44 : mz_sf mk_216 44 = mt_216_44 := mz_sf_add ms_216_36 (t := 8) rfl rfl
set_option maxRecDepth 100000 in
theorem mzq_216 : mz_PG0 216 = some (6, ⟨"KeptHouse$Program", "pick", "(I)I"⟩, prog_8_method_8_code, 2, some .int, [], mk_216, []) := rfl
theorem cg_216_44 (hd : 0 ≤ d) (hS : mz_extR S 232) (hR : mz_rok R 232)  (s1 : Int32) (s2 : Int32) (v1 : Int32) (N : mz_N) {C0 : (Int32 × mz_N) → Prop} (hr : ∀ (w : Int32) (N2 : mz_N), C0 (w, N2) → Q (.inl (some (.int w))) (mz_k S R N2 b t)) (hp : cp_216_44 s1 s2 v1 N) (hC : C0 (cf_216_44 s1 s2 v1 N)) : mz_G (d, mz_X0 L xs, some .int, [], mk_216, 2, Q) 44 mt_216_44 [(1, .int v1)] [.int s2, .int s1, .ref 54] true (mz_k S R N b t) := by
  unfold cf_216_44 at hC
  unfold cp_216_44 at hp
  have h1 := hp
  refine g_iast (mz_at hS (Nat.le_of_ble_eq_true rfl) mzcS_54) h1 (g_iload_n rfl (g_iconst mzi_2 (g_isub ?_)))
  exact g_iret rfl (hr _ _ hC)
theorem cg_216_0 (hd : 0 ≤ d) (hS : mz_extR S 232) (hR : mz_rok R 232)  (v1 : Int32) (N : mz_N) {C0 : (Int32 × mz_N) → Prop} (hr : ∀ (w : Int32) (N2 : mz_N), C0 (w, N2) → Q (.inl (some (.int w))) (mz_k S R N2 b t)) (hp : cp_216_0 v1 N) (hC : C0 (cf_216_0 v1 N)) : mz_G (d, mz_X0 L xs, some .int, [], mk_216, 2, Q) 0 mk_216 [(0, .ref 41), (1, .int v1)] [] true (mz_k S R N b t) := by
  unfold cf_216_0 at hC
  unfold cp_216_0 at hp
  refine g_iload_n rfl (g_iconst mzi_3 ?_)
  refine g_icge (tg := 7) rfl ms_216_7 hC (fun h1 hC => ?_) (fun h1 hC => ?_)
  · have hp := hp.1 h1
    refine g_iconst mzi_0 ?_
    exact g_iret rfl (hr _ _ hC)
  · have hp := hp.2 h1
    refine g_aload_n rfl (g_getR (mz_at hS (Nat.le_of_ble_eq_true rfl) mzcS_41) mzcf_6_7 (mz_rb hR (Nat.le_of_ble_eq_true rfl) rfl mzcR_41_7) (g_iload_n rfl (g_iconst mzi_3 (g_isub (g_aload_n rfl (g_getR (mz_at hS (Nat.le_of_ble_eq_true rfl) mzcS_41) mzcf_6_7 (mz_rb hR (Nat.le_of_ble_eq_true rfl) rfl mzcR_41_7) (g_iload_n rfl ?_)))))))
    refine g_iconst mzi_3 (g_isub ?_)
    obtain ⟨h2, hp⟩ := hp
    refine g_iald hS.1 (mz_at hS (Nat.le_of_ble_eq_true rfl) mzcS_54) h2 ?_
    refine g_ifeq (tg := 36) rfl ms_216_36 hC (fun h3 hC => ?_) (fun h3 hC => ?_)
    · have hp := hp.1 h3
      refine g_aload_n rfl (g_getR (mz_at hS (Nat.le_of_ble_eq_true rfl) mzcS_41) mzcf_6_7 (mz_rb hR (Nat.le_of_ble_eq_true rfl) rfl mzcR_41_7) (g_iload_n rfl (g_iconst mzi_1 (g_isub ?_))))
      obtain ⟨h4, hp⟩ := hp
      refine g_iald hS.1 (mz_at hS (Nat.le_of_ble_eq_true rfl) mzcS_54) h4 ?_
      refine g_weak ?_ (cg_216_44 hd hS hR (v1 - 3) (mz_gI N 54 (v1 - 1)) v1 N hr hp hC)
      exact ⟨rfl, trivial⟩
    · have hp := hp.2 h3
      refine g_aload_n rfl (g_getR (mz_at hS (Nat.le_of_ble_eq_true rfl) mzcS_41) mzcf_6_7 (mz_rb hR (Nat.le_of_ble_eq_true rfl) rfl mzcR_41_7) (g_iload_n rfl (g_iconst mzi_2 (g_isub ?_))))
      obtain ⟨h5, hp⟩ := hp
      refine g_iald hS.1 (mz_at hS (Nat.le_of_ble_eq_true rfl) mzcS_54) h5 (g_goto (tg := 44) rfl ms_216_44 ?_)
      refine g_weak ?_ (cg_216_44 hd hS hR (v1 - 3) (mz_gI N 54 (v1 - 2)) v1 N hr hp hC)
      exact ⟨rfl, trivial⟩
theorem cs_216 (hd : 1 ≤ d) (hS : mz_extR S 232) (hR : mz_rok R 232)  (v1 : Int32) (N : mz_N) (hp : cp_216_0 v1 N) (hq : Q (.inl (some (.int ((cf_216_0 v1 N).1)))) (mz_k S R ((cf_216_0 v1 N).2) b t)) : mz_Ed (mz_X0 L xs) d 216 [.ref 41, .int v1] (mz_k S R N b t) Q :=
  by
  refine g_in mzq_216 (Nat.le_of_ble_eq_true rfl) (Nat.le_of_ble_eq_true rfl) (Nat.le_trans (Nat.le_of_ble_eq_true rfl) hd) ?_
  refine g_weak ?_ (cg_216_0 (d := d - 1) (by omega) hS hR v1 N (C0 := fun z => Q (.inl (some (.int z.1))) (mz_k S R z.2 b t)) (fun _ _ h => h) hp hq)
  exact ⟨rfl, rfl, trivial⟩
/-! 218 KeptHouse$Program.limit (J)I -/
theorem ms_218_0 : mz_sf mk_218 0 = mk_218 := mz_sf_zero _
set_option maxRecDepth 100000 in
theorem mzq_218 : mz_PG0 218 = some (6, ⟨"KeptHouse$Program", "limit", "(J)I"⟩, prog_8_method_10_code, 2, some .int, [], mk_218, []) := rfl
theorem cg_218_0 (hd : 0 ≤ d) (hS : mz_extR S 232) (hR : mz_rok R 232)  (v0 : Int64) {C0 : (Int32) → Prop} (hr : ∀ (w : Int32), C0 w → Q (.inl (some (.int w))) (mz_k S R N b t)) (hp : cp_218_0 v0) (hC : C0 (cf_218_0 v0)) : mz_G (d, mz_X0 L xs, some .int, [], mk_218, 2, Q) 0 mk_218 [(0, .long v0)] [] true (mz_k S R N b t) := by
  unfold cf_218_0 at hC
  unfold cp_218_0 at hp
  refine g_con3 (g_con3 (g_lload_n rfl (g_lmin (Nat.le_of_ble_eq_true rfl) (g_lmax (Nat.le_of_ble_eq_true rfl) (g_l2i ?_)))))
  exact g_iret rfl (hr _ hC)
theorem cs_218 (hd : 1 ≤ d) (hS : mz_extR S 232) (hR : mz_rok R 232)  (v0 : Int64) (hp : cp_218_0 v0) (hq : Q (.inl (some (.int (cf_218_0 v0)))) (mz_k S R N b t)) : mz_Ed (mz_X0 L xs) d 218 [.long v0] (mz_k S R N b t) Q :=
  by
  refine g_in mzq_218 (Nat.le_of_ble_eq_true rfl) (Nat.le_of_ble_eq_true rfl) (Nat.le_trans (Nat.le_of_ble_eq_true rfl) hd) ?_
  refine g_weak ?_ (cg_218_0 (d := d - 1) (by omega) hS hR v0 (C0 := fun z => Q (.inl (some (.int z))) (mz_k S R N b t)) (fun _ h => h) hp hq)
  exact ⟨rfl, trivial⟩
/-! 217 KeptHouse$Program.reckon (III)I -/
theorem ms_217_0 : mz_sf mk_217 0 = mk_217 := mz_sf_zero _
theorem ms_217_53 : mz_sf mk_217 53 = mt_217_53 := mz_sf_add ms_217_0 (t := 53) rfl rfl
theorem ms_217_62 : mz_sf mk_217 62 = mt_217_62 := mz_sf_add ms_217_53 (t := 9) rfl rfl
theorem ms_217_71 : mz_sf mk_217 71 = mt_217_71 := mz_sf_add ms_217_62 (t := 9) rfl rfl
theorem ms_217_80 : mz_sf mk_217 80 = mt_217_80 := mz_sf_add ms_217_71 (t := 9) rfl rfl
theorem ms_217_81 : mz_sf mk_217 81 = mt_217_81 := mz_sf_add ms_217_80 (t := 1) rfl rfl
theorem ms_217_82 : mz_sf mk_217 82 = mt_217_82 := mz_sf_add ms_217_81 (t := 1) rfl rfl
theorem ms_217_91 : mz_sf mk_217 91 = mt_217_91 := mz_sf_add ms_217_82 (t := 9) rfl rfl
theorem ms_217_92 : mz_sf mk_217 92 = mt_217_92 := mz_sf_add ms_217_91 (t := 1) rfl rfl
set_option maxRecDepth 100000 in
theorem mzq_217 : mz_PG0 217 = some (6, ⟨"KeptHouse$Program", "reckon", "(III)I"⟩, prog_8_method_9_code, 3, some .int, [], mk_217, []) := rfl
theorem cg_217_0 (hd : 1 ≤ d) (hS : mz_extR S 232) (hR : mz_rok R 232)  (v0 : Int32) (v1 : Int32) (v2 : Int32) {C0 : (Int32) → Prop} (hr : ∀ (w : Int32), C0 w → Q (.inl (some (.int w))) (mz_k S R N b t)) (hp : cp_217_0 v0 v1 v2) (hC : C0 (cf_217_0 v0 v1 v2)) : mz_G (d, mz_X0 L xs, some .int, [], mk_217, 3, Q) 0 mk_217 [(0, .int v0), (1, .int v1), (2, .int v2)] [] true (mz_k S R N b t) := by
  unfold cf_217_0 at hC
  unfold cp_217_0 at hp
  refine g_iload_n rfl ?_
  refine mz_cs hC (fun h1 hC => ?_) (fun h1 hC => ?_)
  · refine g_br (tg := 62) (by rw [h1]; rfl) ms_217_62 ?_
    refine g_iload_n rfl (g_i2l (g_iload_n rfl (g_i2l (g_lmul ?_))))
    refine g_s1v (Nat.le_of_ble_eq_true rfl) (fun _ hq => cs_218 (Nat.le_trans (Nat.le_of_ble_eq_true rfl) hd) (hS.le (Nat.le_of_ble_eq_true rfl)) (hR.le (Nat.le_of_ble_eq_true rfl))  (v1.toInt64 * v2.toInt64) trivial hq) ?_
    exact g_iret rfl (hr _ hC)
  · refine mz_cs hC (fun h2 hC => ?_) (fun h2 hC => ?_)
    · refine g_brn (tg := 44) (by rw [h2]; rfl) (by decide) rfl ?_
      refine g_iload_n rfl (g_i2l (g_iload_n rfl (g_i2l (g_ladd ?_))))
      refine g_s1v (Nat.le_of_ble_eq_true rfl) (fun _ hq => cs_218 (Nat.le_trans (Nat.le_of_ble_eq_true rfl) hd) (hS.le (Nat.le_of_ble_eq_true rfl)) (hR.le (Nat.le_of_ble_eq_true rfl))  (v1.toInt64 + v2.toInt64) trivial hq) ?_
      exact g_iret rfl (hr _ hC)
    · refine mz_cs hC (fun h3 hC => ?_) (fun h3 hC => ?_)
      · refine g_br (tg := 53) (by rw [h3]; rfl) ms_217_53 ?_
        refine g_iload_n rfl (g_i2l (g_iload_n rfl (g_i2l (g_lsub ?_))))
        refine g_s1v (Nat.le_of_ble_eq_true rfl) (fun _ hq => cs_218 (Nat.le_trans (Nat.le_of_ble_eq_true rfl) hd) (hS.le (Nat.le_of_ble_eq_true rfl)) (hR.le (Nat.le_of_ble_eq_true rfl))  (v1.toInt64 - v2.toInt64) trivial hq) ?_
        exact g_iret rfl (hr _ hC)
      · refine mz_cs hC (fun h4 hC => ?_) (fun h4 hC => ?_)
        · refine g_br (tg := 71) (by rw [h4]; rfl) ms_217_71 ?_
          refine g_iload_n rfl (g_iload_n rfl ?_)
          refine g_icge (tg := 80) rfl ms_217_80 hC (fun h6 hC => ?_) (fun h6 hC => ?_)
          · refine g_iconst mzi_1 (g_goto (tg := 81) rfl ms_217_81 ?_)
            exact g_iret rfl (hr _ hC)
          · refine g_iconst mzi_0 ?_
            exact g_iret rfl (hr _ hC)
        · refine g_br (tg := 82) ((mz_lsw_d (l := [42, 43, 45, 60]) rfl (by intro x hx; simp [Op.lookupswitch.offset] at hx ⊢; omega) ⟨h1, h2, h3, h4, trivial⟩).trans (mz_tg_t rfl)) ms_217_82 ?_
          refine g_iload_n rfl (g_iload_n rfl ?_)
          refine g_icle (tg := 91) rfl ms_217_91 hC (fun h5 hC => ?_) (fun h5 hC => ?_)
          · refine g_iconst mzi_1 (g_goto (tg := 92) rfl ms_217_92 ?_)
            exact g_iret rfl (hr _ hC)
          · refine g_iconst mzi_0 ?_
            exact g_iret rfl (hr _ hC)
theorem cs_217 (hd : 2 ≤ d) (hS : mz_extR S 232) (hR : mz_rok R 232)  (v0 : Int32) (v1 : Int32) (v2 : Int32) (hp : cp_217_0 v0 v1 v2) (hq : Q (.inl (some (.int (cf_217_0 v0 v1 v2)))) (mz_k S R N b t)) : mz_Ed (mz_X0 L xs) d 217 [.int v0, .int v1, .int v2] (mz_k S R N b t) Q :=
  by
  refine g_in mzq_217 (Nat.le_of_ble_eq_true rfl) (Nat.le_of_ble_eq_true rfl) (Nat.le_trans (Nat.le_of_ble_eq_true rfl) hd) ?_
  refine g_weak ?_ (cg_217_0 (d := d - 1) (by omega) hS hR v0 v1 v2 (C0 := fun z => Q (.inl (some (.int z))) (mz_k S R N b t)) (fun _ h => h) hp hq)
  exact ⟨rfl, rfl, rfl, trivial⟩
/-! 214 KeptHouse$Program.doStep (III)I -/
theorem ms_214_0 : mz_sf mk_214 0 = mk_214 := mz_sf_zero _
theorem ms_214_9 : mz_sf mk_214 9 = mt_214_9 := mz_sf_add ms_214_0 (t := 9) rfl rfl
theorem ms_214_29 : mz_sf mk_214 29 = mt_214_29 := mz_sf_add ms_214_9 (t := 20) rfl rfl
theorem ms_214_35 : mz_sf mk_214 35 = mt_214_35 := mz_sf_add ms_214_29 (t := 6) rfl rfl
theorem ms_214_36 : mz_sf mk_214 36 = mt_214_36 := mz_sf_add ms_214_35 (t := 1) rfl rfl
theorem ms_214_40 : mz_sf mk_214 40 = mt_214_40 := mz_sf_add ms_214_36 (t := 4) rfl rfl
theorem ms_214_52 : mz_sf mk_214 52 = mt_214_52 := mz_sf_add ms_214_40 (t := 12) rfl rfl
theorem ms_214_54 : mz_sf mk_214 54 = mt_214_54 := mz_sf_add ms_214_52 (t := 2) rfl rfl
theorem ms_214_72 : mz_sf mk_214 72 = mt_214_72 := mz_sf_add ms_214_54 (t := 18) rfl rfl
theorem ms_214_76 : mz_sf mk_214 76 = mt_214_76 := mz_sf_add ms_214_72 (t := 4) rfl rfl
theorem ms_214_98 : mz_sf mk_214 98 = mt_214_98 := mz_sf_add ms_214_76 (t := 22) rfl rfl
theorem ms_214_100 : mz_sf mk_214 100 = mt_214_100 := mz_sf_add ms_214_98 (t := 2) rfl rfl
theorem ms_214_112 : mz_sf mk_214 112 = mt_214_112 := mz_sf_add ms_214_100 (t := 12) rfl rfl
theorem ms_214_119 : mz_sf mk_214 119 = mt_214_119 := mz_sf_add ms_214_112 (t := 7) rfl rfl
theorem ms_214_147 : mz_sf mk_214 147 = mt_214_147 := mz_sf_add ms_214_119 (t := 28) rfl rfl
set_option maxRecDepth 100000 in
theorem mzq_214 : mz_PG0 214 = some (6, ⟨"KeptHouse$Program", "doStep", "(III)I"⟩, prog_8_method_7_code, 4, some .int, [], mk_214, []) := rfl
theorem cg_214_35 (hd : 2 ≤ d) (hS : mz_extR S 232) (hR : mz_rok R 232)  (s1 : Int32) (s2 : Int32) (v3 : Int32) (N : mz_N) {C0 : (Int32 × mz_N) → Prop} (hr : ∀ (w : Int32) (N2 : mz_N), C0 (w, N2) → Q (.inl (some (.int w))) (mz_k S R N2 b t)) (hp : cp_214_35 s1 s2 v3 N) (hC : C0 (cf_214_35 s1 s2 v3 N)) : mz_G (d, mz_X0 L xs, some .int, [], mk_214, 4, Q) 35 mt_214_35 [(3, .int v3)] [.int s2, .int s1, .ref 54] true (mz_k S R N b t) := by
  unfold cf_214_35 at hC
  unfold cp_214_35 at hp
  have h1 := hp
  refine g_iast (mz_at hS (Nat.le_of_ble_eq_true rfl) mzcS_54) h1 (g_iload_n rfl (g_iconst mzi_1 (g_iadd ?_)))
  exact g_iret rfl (hr _ _ hC)
theorem cg_214_9 (hd : 2 ≤ d) (hS : mz_extR S 232) (hR : mz_rok R 232)  (v1 : Int32) (v2 : Int32) (v3 : Int32) (N : mz_N) {C0 : (Int32 × mz_N) → Prop} (hr : ∀ (w : Int32) (N2 : mz_N), C0 (w, N2) → Q (.inl (some (.int w))) (mz_k S R N2 b t)) (hp : cp_214_9 v1 v2 v3 N) (hC : C0 (cf_214_9 v1 v2 v3 N)) : mz_G (d, mz_X0 L xs, some .int, [], mk_214, 4, Q) 9 mt_214_9 [(0, .ref 41), (1, .int v1), (2, .int v2), (3, .int v3)] [] true (mz_k S R N b t) := by
  unfold cf_214_9 at hC
  unfold cp_214_9 at hp
  refine g_iload_n rfl (g_sipush mzs_196 ?_)
  refine g_icge (tg := 36) rfl ms_214_36 hC (fun h1 hC => ?_) (fun h1 hC => ?_)
  · have hp := hp.1 h1
    refine g_aload_n rfl (g_getR (mz_at hS (Nat.le_of_ble_eq_true rfl) mzcS_41) mzcf_6_7 (mz_rb hR (Nat.le_of_ble_eq_true rfl) rfl mzcR_41_7) (g_iload_n rfl (g_iload_n rfl ?_)))
    refine g_ifne (tg := 29) rfl ms_214_29 hC (fun h2 hC => ?_) (fun h2 hC => ?_)
    · have hp := hp.1 h2
      refine g_iload_n rfl (g_goto (tg := 35) rfl ms_214_35 ?_)
      refine g_weak ?_ (cg_214_35 hd hS hR v3 v2 v3 N hr hp hC)
      exact ⟨rfl, trivial⟩
    · have hp := hp.2 h2
      refine g_aload_n rfl (g_getR (mz_at hS (Nat.le_of_ble_eq_true rfl) mzcS_41) mzcf_6_6 (mz_rb hR (Nat.le_of_ble_eq_true rfl) rfl mzcR_41_6) (g_iload_n rfl ?_))
      obtain ⟨h3, hp⟩ := hp
      refine g_iald hS.1 (mz_at hS (Nat.le_of_ble_eq_true rfl) mzcS_53) h3 ?_
      refine g_weak ?_ (cg_214_35 hd hS hR v3 (mz_gI N 53 v2) v3 N hr hp hC)
      exact ⟨rfl, trivial⟩
  · have hp := hp.2 h1
    refine g_iload_n rfl (g_iconst mzi_1 (g_iadd ?_))
    exact g_iret rfl (hr _ _ hC)
theorem cg_214_147 (hd : 2 ≤ d) (hS : mz_extR S 232) (hR : mz_rok R 232)  (v3 : Int32) (N : mz_N) {C0 : (Int32 × mz_N) → Prop} (hr : ∀ (w : Int32) (N2 : mz_N), C0 (w, N2) → Q (.inl (some (.int w))) (mz_k S R N2 b t)) (hp : cp_214_147 v3 N) (hC : C0 (cf_214_147 v3 N)) : mz_G (d, mz_X0 L xs, some .int, [], mk_214, 4, Q) 147 mt_214_147 [(3, .int v3)] [] false (mz_k S R N b t) := by
  unfold cf_214_147 at hC
  unfold cp_214_147 at hp
  refine g_iload_n rfl (g_iconst mzi_1 (g_isub ?_))
  exact g_iret rfl (hr _ _ hC)
theorem cg_214_0 (hd : 2 ≤ d) (hS : mz_extR S 232) (hR : mz_rok R 232)  (v1 : Int32) (v2 : Int32) (v3 : Int32) (N : mz_N) {C0 : (Int32 × mz_N) → Prop} (hr : ∀ (w : Int32) (N2 : mz_N), C0 (w, N2) → Q (.inl (some (.int w))) (mz_k S R N2 b t)) (hp : cp_214_0 v1 v2 v3 N) (hC : C0 (cf_214_0 v1 v2 v3 N)) : mz_G (d, mz_X0 L xs, some .int, [], mk_214, 4, Q) 0 mk_214 [(0, .ref 41), (1, .int v1), (2, .int v2), (3, .int v3)] [] true (mz_k S R N b t) := by
  unfold cf_214_0 at hC
  unfold cp_214_0 at hp
  refine g_iload_n rfl ?_
  refine g_ifeq (tg := 9) rfl ms_214_9 hC (fun h1 hC => ?_) (fun h1 hC => ?_)
  · have hp := hp.1 h1
    refine g_weak ?_ (cg_214_9 hd hS hR v1 v2 v3 N hr hp hC)
    exact ⟨rfl, rfl, rfl, rfl, trivial⟩
  · have hp := hp.2 h1
    refine g_iload_n rfl (g_iconst mzi_1 ?_)
    refine g_icne (tg := 40) rfl ms_214_40 hC (fun h2 hC => ?_) (fun h2 hC => ?_)
    · have hp := hp.1 h2
      refine g_weak ?_ (cg_214_9 hd hS hR v1 v2 v3 N hr hp hC)
      exact ⟨rfl, rfl, rfl, rfl, trivial⟩
    · have hp := hp.2 h2
      refine g_iload_n rfl (g_iconst mzi_1 ?_)
      refine g_iclt (tg := 52) rfl ms_214_52 hC (fun h3 hC => ?_) (fun h3 hC => ?_)
      · have hp := hp.1 h3
        refine g_iconst mzi_0 ?_
        exact g_iret rfl (hr _ _ hC)
      · have hp := hp.2 h3
        refine g_iload_n rfl (g_sipush mzs_196 ?_)
        refine g_icle (tg := 54) rfl ms_214_54 hC (fun h4 hC => ?_) (fun h4 hC => ?_)
        · have hp := hp.1 h4
          refine g_iconst mzi_0 ?_
          exact g_iret rfl (hr _ _ hC)
        · have hp := hp.2 h4
          refine g_iload_n rfl (g_iconst mzi_2 ?_)
          refine g_icne (tg := 76) rfl ms_214_76 hC (fun h5 hC => ?_) (fun h5 hC => ?_)
          · have hp := hp.1 h5
            refine g_aload_n rfl (g_iload_n rfl (g_aload_n rfl (g_getR (mz_at hS (Nat.le_of_ble_eq_true rfl) mzcS_41) mzcf_6_7 (mz_rb hR (Nat.le_of_ble_eq_true rfl) rfl mzcR_41_7) (g_iload_n rfl (g_iconst mzi_1 (g_isub ?_))))))
            obtain ⟨h6, hp⟩ := hp
            refine g_iald hS.1 (mz_at hS (Nat.le_of_ble_eq_true rfl) mzcS_54) h6 ?_
            have h7 := hp
            refine g_v3n (Nat.le_of_ble_eq_true rfl) (mz_at hS (Nat.le_of_ble_eq_true rfl) mzcS_41) (fun _ hq => cs_215 (Nat.le_trans (Nat.le_of_ble_eq_true rfl) hd) (hS.le (Nat.le_of_ble_eq_true rfl)) (hR.le (Nat.le_of_ble_eq_true rfl))  v2 (mz_gI N 54 (v3 - 1)) N h7 hq) (g_iload_n rfl (g_iconst mzi_1 (g_isub ?_)))
            exact g_iret rfl (hr _ _ hC)
          · have hp := hp.2 h5
            refine g_iload_n rfl (g_iconst mzi_3 ?_)
            refine g_icne (tg := 100) rfl ms_214_100 hC (fun h8 hC => ?_) (fun h8 hC => ?_)
            · have hp := hp.1 h8
              refine g_aload_n rfl (g_getR (mz_at hS (Nat.le_of_ble_eq_true rfl) mzcS_41) mzcf_6_7 (mz_rb hR (Nat.le_of_ble_eq_true rfl) rfl mzcR_41_7) (g_iload_n rfl (g_iconst mzi_1 (g_isub (g_aload_n rfl (g_getR (mz_at hS (Nat.le_of_ble_eq_true rfl) mzcS_41) mzcf_6_7 (mz_rb hR (Nat.le_of_ble_eq_true rfl) rfl mzcR_41_7) (g_iload_n rfl ?_)))))))
              refine g_iconst mzi_1 (g_isub ?_)
              obtain ⟨h9, hp⟩ := hp
              refine g_iald hS.1 (mz_at hS (Nat.le_of_ble_eq_true rfl) mzcS_54) h9 (g_ineg ?_)
              have h10 := hp
              refine g_iast (mz_at hS (Nat.le_of_ble_eq_true rfl) mzcS_54) h10 (g_iload_n rfl ?_)
              exact g_iret rfl (hr _ _ hC)
            · have hp := hp.2 h8
              refine g_iload_n rfl (g_bipush mzb_63 ?_)
              refine g_icne (tg := 112) rfl ms_214_112 hC (fun h11 hC => ?_) (fun h11 hC => ?_)
              · have hp := hp.1 h11
                refine g_aload_n rfl (g_iload_n rfl ?_)
                have h12 := hp
                refine g_v2v (Nat.le_of_ble_eq_true rfl) (mz_at hS (Nat.le_of_ble_eq_true rfl) mzcS_41) (fun _ hq => cs_216 (Nat.le_trans (Nat.le_of_ble_eq_true rfl) hd) (hS.le (Nat.le_of_ble_eq_true rfl)) (hR.le (Nat.le_of_ble_eq_true rfl))  v3 N h12 hq) ?_
                exact g_iret rfl (hr _ _ hC)
              · have hp := hp.2 h11
                refine g_iload_n rfl (g_iconst mzi_2 ?_)
                refine g_icge (tg := 119) rfl ms_214_119 hC (fun h13 hC => ?_) (fun h13 hC => ?_)
                · have hp := hp.1 h13
                  refine g_iconst mzi_0 ?_
                  exact g_iret rfl (hr _ _ hC)
                · have hp := hp.2 h13
                  refine g_aload_n rfl (g_getR (mz_at hS (Nat.le_of_ble_eq_true rfl) mzcS_41) mzcf_6_7 (mz_rb hR (Nat.le_of_ble_eq_true rfl) rfl mzcR_41_7) (g_iload_n rfl (g_iconst mzi_2 (g_isub (g_iload_n rfl (g_aload_n rfl (g_getR (mz_at hS (Nat.le_of_ble_eq_true rfl) mzcS_41) mzcf_6_7 (mz_rb hR (Nat.le_of_ble_eq_true rfl) rfl mzcR_41_7) ?_)))))))
                  refine g_iload_n rfl (g_iconst mzi_2 (g_isub ?_))
                  obtain ⟨h14, hp⟩ := hp
                  refine g_iald hS.1 (mz_at hS (Nat.le_of_ble_eq_true rfl) mzcS_54) h14 (g_aload_n rfl (g_getR (mz_at hS (Nat.le_of_ble_eq_true rfl) mzcS_41) mzcf_6_7 (mz_rb hR (Nat.le_of_ble_eq_true rfl) rfl mzcR_41_7) (g_iload_n rfl (g_iconst mzi_1 (g_isub ?_)))))
                  obtain ⟨h15, hp⟩ := hp
                  refine g_iald hS.1 (mz_at hS (Nat.le_of_ble_eq_true rfl) mzcS_54) h15 ?_
                  refine g_s3v (Nat.le_of_ble_eq_true rfl) (fun _ hq => cs_217 (Nat.le_trans (Nat.le_of_ble_eq_true rfl) hd) (hS.le (Nat.le_of_ble_eq_true rfl)) (hR.le (Nat.le_of_ble_eq_true rfl))  v1 (mz_gI N 54 (v3 - 2)) (mz_gI N 54 (v3 - 1)) trivial hq) ?_
                  obtain ⟨h17, hp⟩ := hp
                  refine g_iast (mz_at hS (Nat.le_of_ble_eq_true rfl) mzcS_54) h17 ?_
                  refine g_weak ?_ (g_cl (cg_214_147 hd hS hR v3 (mz_wI N 54 (v3 - 2) (cf_217_0 v1 (mz_gI N 54 (v3 - 2)) (mz_gI N 54 (v3 - 1)))) hr hp hC))
                  exact ⟨rfl, trivial⟩
theorem cs_214 (hd : 3 ≤ d) (hS : mz_extR S 232) (hR : mz_rok R 232)  (v1 : Int32) (v2 : Int32) (v3 : Int32) (N : mz_N) (hp : cp_214_0 v1 v2 v3 N) (hq : Q (.inl (some (.int ((cf_214_0 v1 v2 v3 N).1)))) (mz_k S R ((cf_214_0 v1 v2 v3 N).2) b t)) : mz_Ed (mz_X0 L xs) d 214 [.ref 41, .int v1, .int v2, .int v3] (mz_k S R N b t) Q :=
  by
  refine g_in mzq_214 (Nat.le_of_ble_eq_true rfl) (Nat.le_of_ble_eq_true rfl) (Nat.le_trans (Nat.le_of_ble_eq_true rfl) hd) ?_
  refine g_weak ?_ (cg_214_0 (d := d - 1) (by omega) hS hR v1 v2 v3 N (C0 := fun z => Q (.inl (some (.int z.1))) (mz_k S R z.2 b t)) (fun _ _ h => h) hp hq)
  exact ⟨rfl, rfl, rfl, rfl, trivial⟩
/-! 213 KeptHouse$Program.perform ()V -/
theorem ms_213_0 : mz_sf mk_213 0 = mk_213 := mz_sf_zero _
theorem ms_213_4 : mz_sf mk_213 4 = mt_213_4 := mz_sf_add ms_213_0 (t := 4) rfl rfl
theorem ms_213_39 : mz_sf mk_213 39 = mt_213_39 := mz_sf_add ms_213_4 (t := 35) rfl rfl
theorem ms_213_45 : mz_sf mk_213 45 = mt_213_45 := mz_sf_add ms_213_39 (t := 6) rfl rfl
set_option maxRecDepth 100000 in
theorem mzq_213 : mz_PG0 213 = some (6, ⟨"KeptHouse$Program", "perform", "()V"⟩, prog_8_method_6_code, 3, none, [], mk_213, []) := rfl
theorem cg_213_39 (hd : 3 ≤ d) (hS : mz_extR S 232) (hR : mz_rok R 232)  (v1 : Int32) (v2 : Int32) (N : mz_N) (b : Bool) {C0 : (mz_N) → Prop} (hr : ∀ (N2 : mz_N), C0 N2 → Q (.inl none) (mz_k S R N2 b t)) {C1 : ((Int32 × Int32 × mz_N) ⊕ (mz_N)) → Prop} (hc1 : ∀ s2, C1 (.inl s2) → mz_G (d, mz_X0 L xs, none, [], mk_213, 3, Q) 4 mt_213_4 [(0, .ref 41), (1, .int s2.1), (2, .int s2.2.1)] [] false (mz_k S R s2.2.2 b t)) (hx1 : ∀ z, C1 (.inr z) → C0 z) (hp : cp_213_39 v1 v2 N b) (hC : C1 (cf_213_39 v1 v2 N b)) : mz_G (d, mz_X0 L xs, none, [], mk_213, 3, Q) 39 mt_213_39 [(0, .ref 41), (1, .int v1), (2, .int v2)] [] false (mz_k S R N b t) := by
  unfold cf_213_39 at hC
  unfold cp_213_39 at hp
  refine g_iinc rfl mzi_1 (Nat.le_of_ble_eq_true rfl) rfl (g_goto (tg := 4) rfl ms_213_4 ?_)
  refine g_weak ?_ (g_cl (hc1 (v1, (v2 + 1), N) hC))
  exact ⟨rfl, rfl, rfl, trivial⟩
theorem cb_213_4 (hd : 3 ≤ d) (hS : mz_extR S 232) (hR : mz_rok R 232)  (b : Bool) (s : Int32 × Int32 × mz_N) {C0 : (mz_N) → Prop} (hr : ∀ (N2 : mz_N), C0 N2 → Q (.inl none) (mz_k S R N2 b t)) {C1 : ((Int32 × Int32 × mz_N) ⊕ (mz_N)) → Prop} (hc1 : ∀ s2, C1 (.inl s2) → mz_G (d, mz_X0 L xs, none, [], mk_213, 3, Q) 4 mt_213_4 [(0, .ref 41), (1, .int s2.1), (2, .int s2.2.1)] [] false (mz_k S R s2.2.2 b t)) (hx1 : ∀ z, C1 (.inr z) → C0 z) (hp : cd_213_4 b s) (hC : C1 (cq_213_4 b s)) : mz_G (d, mz_X0 L xs, none, [], mk_213, 3, Q) 4 mt_213_4 [(0, .ref 41), (1, .int s.1), (2, .int s.2.1)] [] false (mz_k S R s.2.2 b t) := by
  unfold cq_213_4 at hC
  unfold cd_213_4 at hp
  refine g_iload_n rfl (g_aload_n rfl (g_getR (mz_at hS (Nat.le_of_ble_eq_true rfl) mzcS_41) mzcf_6_2 (mz_rb_lv b hR (Nat.le_of_ble_eq_true rfl)) (g_getI (mz_at hS (mz_oL0 (mz_lv_or b) (Nat.le_of_ble_eq_true rfl)) (mz_oA0 (mz_lv_or b))) mzcf_7_4 ?_)))
  refine g_icge (tg := 45) rfl ms_213_45 hC (fun h1 hC => ?_) (fun h1 hC => ?_)
  · have hp := hp.1 h1
    refine g_aload_n rfl (g_aload_n rfl (g_getR (mz_at hS (Nat.le_of_ble_eq_true rfl) mzcS_41) mzcf_6_2 (mz_rb_lv b hR (Nat.le_of_ble_eq_true rfl)) (g_getR (mz_at hS (mz_oL0 (mz_lv_or b) (Nat.le_of_ble_eq_true rfl)) (mz_oA0 (mz_lv_or b))) mzcf_7_2 (mz_rb hR (mz_oL0 (mz_lv_or b) (Nat.le_of_ble_eq_true rfl)) (mz_o41 (mz_lv_or b)) (mz_oR2 (mz_lv_or b))) (g_iload_n rfl ?_))))
    obtain ⟨h2, hp⟩ := hp
    refine g_iald hS.1 (mz_at hS (mz_oL2 (mz_lv_or b) (Nat.le_of_ble_eq_true rfl)) (mz_oA2 (mz_lv_or b))) h2 (g_aload_n rfl (g_getR (mz_at hS (Nat.le_of_ble_eq_true rfl) mzcS_41) mzcf_6_2 (mz_rb_lv b hR (Nat.le_of_ble_eq_true rfl)) (g_getR (mz_at hS (mz_oL0 (mz_lv_or b) (Nat.le_of_ble_eq_true rfl)) (mz_oA0 (mz_lv_or b))) mzcf_7_3 (mz_rb hR (mz_oL0 (mz_lv_or b) (Nat.le_of_ble_eq_true rfl)) (mz_o41 (mz_lv_or b)) (mz_oR3 (mz_lv_or b))) (g_iload_n rfl ?_))))
    obtain ⟨h3, hp⟩ := hp
    refine g_iald hS.1 (mz_at hS (mz_oL3 (mz_lv_or b) (Nat.le_of_ble_eq_true rfl)) (mz_oA3 (mz_lv_or b))) h3 (g_iload_n rfl ?_)
    obtain ⟨h4, hp⟩ := hp
    refine g_v4v (Nat.le_of_ble_eq_true rfl) (mz_at hS (Nat.le_of_ble_eq_true rfl) mzcS_41) (fun _ hq => cs_214 (Nat.le_trans (Nat.le_of_ble_eq_true rfl) hd) (hS.le (Nat.le_of_ble_eq_true rfl)) (hR.le (Nat.le_of_ble_eq_true rfl))  (mz_gI s.2.2 ((mz_lv b) + 2) s.2.1) (mz_gI s.2.2 ((mz_lv b) + 3) s.2.1) s.1 s.2.2 h4 hq) (g_istore_n (Nat.le_of_ble_eq_true rfl) rfl ?_)
    refine g_weak ?_ (g_cl (cg_213_39 hd hS hR ((cf_214_0 (mz_gI s.2.2 ((mz_lv b) + 2) s.2.1) (mz_gI s.2.2 ((mz_lv b) + 3) s.2.1) s.1 s.2.2).1) s.2.1 ((cf_214_0 (mz_gI s.2.2 ((mz_lv b) + 2) s.2.1) (mz_gI s.2.2 ((mz_lv b) + 3) s.2.1) s.1 s.2.2).2) b hr hc1 hx1 hp hC))
    exact ⟨rfl, rfl, rfl, trivial⟩
  · have hp := hp.2 h1
    exact g_vret rfl (hr _ (hx1 _ hC))
theorem cg_213_4 (hd : 3 ≤ d) (hS : mz_extR S 232) (hR : mz_rok R 232)  (v1 : Int32) (v2 : Int32) (N : mz_N) (b : Bool) {C0 : (mz_N) → Prop} (hr : ∀ (N2 : mz_N), C0 N2 → Q (.inl none) (mz_k S R N2 b t)) (hp : cp_213_4 v1 v2 N b) (hC : C0 (cf_213_4 v1 v2 N b)) : mz_G (d, mz_X0 L xs, none, [], mk_213, 3, Q) 4 mt_213_4 [(0, .ref 41), (1, .int v1), (2, .int v2)] [] false (mz_k S R N b t) := by
  obtain ⟨n, hn⟩ := hp
  exact g_loop (G := fun s => mz_G (d, mz_X0 L xs, none, [], mk_213, 3, Q) 4 mt_213_4 [(0, .ref 41), (1, .int s.1), (2, .int s.2.1)] [] false (mz_k S R s.2.2 b t)) (C := C0) (fun C2 hc hx s hP hC => cb_213_4 hd hS hR b s hr hc hx hP hC) n (v1, v2, N) hn hC
theorem cg_213_0 (hd : 3 ≤ d) (hS : mz_extR S 232) (hR : mz_rok R 232)  (N : mz_N) (b : Bool) {C0 : (mz_N) → Prop} (hr : ∀ (N2 : mz_N), C0 N2 → Q (.inl none) (mz_k S R N2 b t)) (hp : cp_213_0 N b) (hC : C0 (cf_213_0 N b)) : mz_G (d, mz_X0 L xs, none, [], mk_213, 3, Q) 0 mk_213 [(0, .ref 41)] [] true (mz_k S R N b t) := by
  unfold cf_213_0 at hC
  unfold cp_213_0 at hp
  refine g_iconst mzi_0 (g_istore_n (Nat.le_of_ble_eq_true rfl) rfl (g_iconst mzi_0 (g_istore_n (Nat.le_of_ble_eq_true rfl) rfl ?_)))
  refine g_weak ?_ (g_cl (cg_213_4 hd hS hR 0 0 N b hr hp hC))
  exact ⟨rfl, rfl, rfl, trivial⟩
theorem cs_213 (hd : 4 ≤ d) (hS : mz_extR S 232) (hR : mz_rok R 232)  (N : mz_N) (b : Bool) (hp : cp_213_0 N b) (hq : Q (.inl none) (mz_k S R (cf_213_0 N b) b t)) : mz_Ed (mz_X0 L xs) d 213 [.ref 41] (mz_k S R N b t) Q :=
  by
  refine g_in mzq_213 (Nat.le_of_ble_eq_true rfl) (Nat.le_of_ble_eq_true rfl) (Nat.le_trans (Nat.le_of_ble_eq_true rfl) hd) ?_
  refine g_weak ?_ (cg_213_0 (d := d - 1) (by omega) hS hR N b (C0 := fun z => Q (.inl none) (mz_k S R z b t)) (fun _ h => h) hp hq)
  exact ⟨rfl, trivial⟩
/-! 208 KeptHouse.followProgram (I)V -/
theorem ms_208_0 : mz_sf mk_208 0 = mk_208 := mz_sf_zero _
theorem ms_208_14 : mz_sf mk_208 14 = mt_208_14 := mz_sf_add ms_208_0 (t := 14) rfl rfl
theorem ms_208_16 : mz_sf mk_208 16 = mt_208_16 := mz_sf_add ms_208_14 (t := 2) rfl rfl
theorem ms_208_37 : mz_sf mk_208 37 = mt_208_37 := mz_sf_add ms_208_16 (t := 21) rfl rfl
theorem ms_208_41 : mz_sf mk_208 41 = mt_208_41 := mz_sf_add ms_208_37 (t := 4) rfl rfl
theorem ms_208_42 : mz_sf mk_208 42 = mt_208_42 := mz_sf_add ms_208_41 (t := 1) rfl rfl
theorem ms_208_73 : mz_sf mk_208 73 = mt_208_73 := mz_sf_add ms_208_42 (t := 31) rfl rfl
theorem ms_208_74 : mz_sf mk_208 74 = mt_208_74 := mz_sf_add ms_208_73 (t := 1) rfl rfl
theorem ms_208_104 : mz_sf mk_208 104 = mt_208_104 := mz_sf_add ms_208_74 (t := 30) rfl rfl
theorem ms_208_105 : mz_sf mk_208 105 = mt_208_105 := mz_sf_add ms_208_104 (t := 1) rfl rfl
theorem ms_208_138 : mz_sf mk_208 138 = mt_208_138 := mz_sf_add ms_208_105 (t := 33) rfl rfl
theorem ms_208_139 : mz_sf mk_208 139 = mt_208_139 := mz_sf_add ms_208_138 (t := 1) rfl rfl
theorem ms_208_146 : mz_sf mk_208 146 = mt_208_146 := mz_sf_add ms_208_139 (t := 7) rfl rfl
theorem ms_208_170 : mz_sf mk_208 170 = mt_208_170 := mz_sf_add ms_208_146 (t := 24) rfl rfl
theorem ms_208_171 : mz_sf mk_208 171 = mt_208_171 := mz_sf_add ms_208_170 (t := 1) rfl rfl
theorem ms_208_196 : mz_sf mk_208 196 = mt_208_196 := mz_sf_add ms_208_171 (t := 25) rfl rfl
theorem ms_208_228 : mz_sf mk_208 228 = mt_208_228 := mz_sf_add ms_208_196 (t := 32) rfl rfl
theorem ms_208_262 : mz_sf mk_208 262 = mt_208_262 := mz_sf_add ms_208_228 (t := 34) rfl rfl
theorem ms_208_263 : mz_sf mk_208 263 = mt_208_263 := mz_sf_add ms_208_262 (t := 1) rfl rfl
set_option maxRecDepth 100000 in
theorem mzq_208 : mz_PG0 208 = some (11, ⟨"KeptHouse", "followProgram", "(I)V"⟩, prog_1_method_76_code, 5, none, [], mk_208, []) := rfl
theorem cg_208_139 (hd : 4 ≤ d) (hS : mz_extR S 232) (hR : mz_rok R 232)  (s1 : Int32) (s2 : Bool) (v1 : Int32) (v2 : Int32) (N : mz_N) (b : Bool) {C0 : (mz_N) → Prop} (hr : ∀ (N2 : mz_N), C0 N2 → Q (.inl none) (mz_k S R N2 b t)) {C1 : ((Int32 × mz_N) ⊕ (mz_N)) → Prop} (hc1 : ∀ s2, C1 (.inl s2) → mz_G (d, mz_X0 L xs, none, [], mk_208, 5, Q) 16 mt_208_16 [(0, .ref 0), (1, .int v1), (2, .int s2.1)] [] false (mz_k S R s2.2 b t)) (hx1 : ∀ z, C1 (.inr z) → C0 z) (hp : cp_208_139 s1 s2 v1 v2 N b) (hC : C1 (cf_208_139 s1 s2 v1 v2 N b)) : mz_G (d, mz_X0 L xs, none, [], mk_208, 5, Q) 139 mt_208_139 [(0, .ref 0), (1, .int v1), (2, .int v2)] [.int (mz_b01 s2), .int s1, .ref 53] false (mz_k S R N b t) := by
  unfold cf_208_139 at hC
  unfold cp_208_139 at hp
  have h1 := hp
  refine g_iast (mz_at hS (Nat.le_of_ble_eq_true rfl) mzcS_53) h1 (g_iinc rfl mzi_1 (Nat.le_of_ble_eq_true rfl) rfl (g_goto (tg := 16) rfl ms_208_16 ?_))
  refine g_weak ?_ (g_cl (hc1 ((v2 + 1), mz_wI N 53 s1 (mz_b01 s2)) hC))
  exact ⟨rfl, rfl, rfl, trivial⟩
theorem cg_208_138 (hd : 4 ≤ d) (hS : mz_extR S 232) (hR : mz_rok R 232)  (s1 : Int32) (v1 : Int32) (v2 : Int32) (N : mz_N) (b : Bool) {C0 : (mz_N) → Prop} (hr : ∀ (N2 : mz_N), C0 N2 → Q (.inl none) (mz_k S R N2 b t)) {C1 : ((Int32 × mz_N) ⊕ (mz_N)) → Prop} (hc1 : ∀ s2, C1 (.inl s2) → mz_G (d, mz_X0 L xs, none, [], mk_208, 5, Q) 16 mt_208_16 [(0, .ref 0), (1, .int v1), (2, .int s2.1)] [] false (mz_k S R s2.2 b t)) (hx1 : ∀ z, C1 (.inr z) → C0 z) (hp : cp_208_138 s1 v1 v2 N b) (hC : C1 (cf_208_138 s1 v1 v2 N b)) : mz_G (d, mz_X0 L xs, none, [], mk_208, 5, Q) 138 mt_208_138 [(0, .ref 0), (1, .int v1), (2, .int v2)] [.int s1, .ref 53] false (mz_k S R N b t) := by
  unfold cf_208_138 at hC
  unfold cp_208_138 at hp
  refine g_iconst mzi_0 ?_
  refine g_weak ?_ (g_cl (cg_208_139 hd hS hR s1 false v1 v2 N b hr hc1 hx1 hp hC))
  exact ⟨rfl, rfl, rfl, trivial⟩
theorem cg_208_105 (hd : 4 ≤ d) (hS : mz_extR S 232) (hR : mz_rok R 232)  (s1 : Int32) (s2 : Int32) (v1 : Int32) (v2 : Int32) (v3 : Int32) (v4 : Bool) (N : mz_N) (b : Bool) {C0 : (mz_N) → Prop} (hr : ∀ (N2 : mz_N), C0 N2 → Q (.inl none) (mz_k S R N2 b t)) {C1 : ((Int32 × mz_N) ⊕ (mz_N)) → Prop} (hc1 : ∀ s2, C1 (.inl s2) → mz_G (d, mz_X0 L xs, none, [], mk_208, 5, Q) 16 mt_208_16 [(0, .ref 0), (1, .int v1), (2, .int s2.1)] [] false (mz_k S R s2.2 b t)) (hx1 : ∀ z, C1 (.inr z) → C0 z) (hp : cp_208_105 s1 s2 v1 v2 v3 v4 N b) (hC : C1 (cf_208_105 s1 s2 v1 v2 v3 v4 N b)) : mz_G (d, mz_X0 L xs, none, [], mk_208, 5, Q) 105 mt_208_105 [(0, .ref 0), (1, .int v1), (2, .int v2), (3, .int v3), (4, .int (mz_b01 v4))] [.int s2, .int s1, .ref 53] false (mz_k S R N b t) := by
  unfold cf_208_105 at hC
  unfold cp_208_105 at hp
  obtain ⟨h1, hp⟩ := hp
  refine g_iast (mz_at hS (Nat.le_of_ble_eq_true rfl) mzcS_53) h1 (g_aload_n rfl (g_getR (mz_at hS (Nat.le_of_ble_eq_true rfl) mzcS_0) mzcf_11_10 (mz_rb hR (Nat.le_of_ble_eq_true rfl) rfl mzcR_0_10) (g_bipush mzb_36 (g_iload_n rfl (g_iadd (g_iload rfl ?_))))))
  refine g_zeq (tg := 138) rfl ms_208_138 hC (fun h2 hC => ?_) (fun h2 hC => ?_)
  · have hp := hp.1 h2
    refine g_aload_n rfl (g_getR (mz_at hS (Nat.le_of_ble_eq_true rfl) mzcS_0) mzcf_11_4 (mz_rb hR (Nat.le_of_ble_eq_true rfl) rfl mzcR_0_4) (g_aload_n rfl (g_getR (mz_at hS (Nat.le_of_ble_eq_true rfl) mzcS_0) mzcf_11_1 (mz_rb hR (Nat.le_of_ble_eq_true rfl) rfl mzcR_0_1) (g_iload_n rfl ?_))))
    obtain ⟨h3, hp⟩ := hp
    refine g_v3v (Nat.le_of_ble_eq_true rfl) (mz_at hS (Nat.le_of_ble_eq_true rfl) mzcS_65) (fun _ hq => cs_210 (Nat.le_trans (Nat.le_of_ble_eq_true rfl) hd) (hS.le (Nat.le_of_ble_eq_true rfl)) (hR.le (Nat.le_of_ble_eq_true rfl))  v3 (mz_wI N 53 s1 s2) h3 hq) ?_
    refine g_zeq (tg := 138) rfl ms_208_138 hC (fun h4 hC => ?_) (fun h4 hC => ?_)
    · have hp := hp.1 h4
      refine g_iconst mzi_1 (g_goto (tg := 139) rfl ms_208_139 ?_)
      refine g_weak ?_ (g_cl (cg_208_139 hd hS hR (36 + v2) true v1 v2 (mz_wI N 53 s1 s2) b hr hc1 hx1 hp hC))
      exact ⟨rfl, rfl, rfl, trivial⟩
    · have hp := hp.2 h4
      refine g_weak ?_ (g_cl (cg_208_138 hd hS hR (36 + v2) v1 v2 (mz_wI N 53 s1 s2) b hr hc1 hx1 hp hC))
      exact ⟨rfl, rfl, rfl, trivial⟩
  · have hp := hp.2 h2
    refine g_weak ?_ (g_cl (cg_208_138 hd hS hR (36 + v2) v1 v2 (mz_wI N 53 s1 s2) b hr hc1 hx1 hp hC))
    exact ⟨rfl, rfl, rfl, trivial⟩
theorem cg_208_74 (hd : 4 ≤ d) (hS : mz_extR S 232) (hR : mz_rok R 232)  (s1 : Int32) (s2 : Int32) (v1 : Int32) (v2 : Int32) (v3 : Int32) (v4 : Bool) (N : mz_N) (b : Bool) {C0 : (mz_N) → Prop} (hr : ∀ (N2 : mz_N), C0 N2 → Q (.inl none) (mz_k S R N2 b t)) {C1 : ((Int32 × mz_N) ⊕ (mz_N)) → Prop} (hc1 : ∀ s2, C1 (.inl s2) → mz_G (d, mz_X0 L xs, none, [], mk_208, 5, Q) 16 mt_208_16 [(0, .ref 0), (1, .int v1), (2, .int s2.1)] [] false (mz_k S R s2.2 b t)) (hx1 : ∀ z, C1 (.inr z) → C0 z) (hp : cp_208_74 s1 s2 v1 v2 v3 v4 N b) (hC : C1 (cf_208_74 s1 s2 v1 v2 v3 v4 N b)) : mz_G (d, mz_X0 L xs, none, [], mk_208, 5, Q) 74 mt_208_74 [(0, .ref 0), (1, .int v1), (2, .int v2), (3, .int v3), (4, .int (mz_b01 v4))] [.int s2, .int s1, .ref 53] false (mz_k S R N b t) := by
  unfold cf_208_74 at hC
  unfold cp_208_74 at hp
  obtain ⟨h1, hp⟩ := hp
  refine g_iast (mz_at hS (Nat.le_of_ble_eq_true rfl) mzcS_53) h1 (g_aload_n rfl (g_getR (mz_at hS (Nat.le_of_ble_eq_true rfl) mzcS_0) mzcf_11_10 (mz_rb hR (Nat.le_of_ble_eq_true rfl) rfl mzcR_0_10) (g_bipush mzb_26 (g_iload_n rfl (g_iadd (g_iload rfl ?_))))))
  refine g_zeq (tg := 104) rfl ms_208_104 hC (fun h2 hC => ?_) (fun h2 hC => ?_)
  · have hp := hp.1 h2
    refine g_aload_n rfl (g_getR (mz_at hS (Nat.le_of_ble_eq_true rfl) mzcS_0) mzcf_11_4 (mz_rb hR (Nat.le_of_ble_eq_true rfl) rfl mzcR_0_4) (g_aload_n rfl (g_getR (mz_at hS (Nat.le_of_ble_eq_true rfl) mzcS_0) mzcf_11_1 (mz_rb hR (Nat.le_of_ble_eq_true rfl) rfl mzcR_0_1) (g_iload_n rfl ?_))))
    obtain ⟨h3, hp⟩ := hp
    refine g_v3v (Nat.le_of_ble_eq_true rfl) (mz_at hS (Nat.le_of_ble_eq_true rfl) mzcS_65) (fun _ hq => cs_209 (Nat.le_trans (Nat.le_of_ble_eq_true rfl) hd) (hS.le (Nat.le_of_ble_eq_true rfl)) (hR.le (Nat.le_of_ble_eq_true rfl))  v3 (mz_wI N 53 s1 s2) h3 hq) (g_l2i (g_goto (tg := 105) rfl ms_208_105 ?_))
    refine g_weak ?_ (g_cl (cg_208_105 hd hS hR (26 + v2) ((cf_209_0 v3 (mz_wI N 53 s1 s2)).toInt32) v1 v2 v3 v4 (mz_wI N 53 s1 s2) b hr hc1 hx1 hp hC))
    exact ⟨rfl, rfl, rfl, rfl, rfl, trivial⟩
  · have hp := hp.2 h2
    refine g_iconst mzi_0 ?_
    refine g_weak ?_ (g_cl (cg_208_105 hd hS hR (26 + v2) 0 v1 v2 v3 v4 (mz_wI N 53 s1 s2) b hr hc1 hx1 hp hC))
    exact ⟨rfl, rfl, rfl, rfl, rfl, trivial⟩
theorem cg_208_42 (hd : 4 ≤ d) (hS : mz_extR S 232) (hR : mz_rok R 232)  (s0 : Bool) (v1 : Int32) (v2 : Int32) (v3 : Int32) (N : mz_N) (b : Bool) {C0 : (mz_N) → Prop} (hr : ∀ (N2 : mz_N), C0 N2 → Q (.inl none) (mz_k S R N2 b t)) {C1 : ((Int32 × mz_N) ⊕ (mz_N)) → Prop} (hc1 : ∀ s2, C1 (.inl s2) → mz_G (d, mz_X0 L xs, none, [], mk_208, 5, Q) 16 mt_208_16 [(0, .ref 0), (1, .int v1), (2, .int s2.1)] [] false (mz_k S R s2.2 b t)) (hx1 : ∀ z, C1 (.inr z) → C0 z) (hp : cp_208_42 s0 v1 v2 v3 N b) (hC : C1 (cf_208_42 s0 v1 v2 v3 N b)) : mz_G (d, mz_X0 L xs, none, [], mk_208, 5, Q) 42 mt_208_42 [(0, .ref 0), (1, .int v1), (2, .int v2), (3, .int v3)] [.int (mz_b01 s0)] false (mz_k S R N b t) := by
  unfold cf_208_42 at hC
  unfold cp_208_42 at hp
  refine g_istore (Nat.le_of_ble_eq_true rfl) rfl (g_aload_n rfl (g_getR (mz_at hS (Nat.le_of_ble_eq_true rfl) mzcS_0) mzcf_11_10 (mz_rb hR (Nat.le_of_ble_eq_true rfl) rfl mzcR_0_10) (g_bipush mzb_16 (g_iload_n rfl (g_iadd (g_iload rfl ?_))))))
  refine g_zeq (tg := 73) rfl ms_208_73 hC (fun h1 hC => ?_) (fun h1 hC => ?_)
  · have hp := hp.1 h1
    refine g_aload_n rfl (g_getR (mz_at hS (Nat.le_of_ble_eq_true rfl) mzcS_0) mzcf_11_4 (mz_rb hR (Nat.le_of_ble_eq_true rfl) rfl mzcR_0_4) (g_aload_n rfl (g_getR (mz_at hS (Nat.le_of_ble_eq_true rfl) mzcS_0) mzcf_11_1 (mz_rb hR (Nat.le_of_ble_eq_true rfl) rfl mzcR_0_1) (g_iload_n rfl ?_))))
    obtain ⟨h2, hp⟩ := hp
    refine g_v3v (Nat.le_of_ble_eq_true rfl) (mz_at hS (Nat.le_of_ble_eq_true rfl) mzcS_65) (fun _ hq => cs_157 (Nat.le_trans (Nat.le_of_ble_eq_true rfl) hd) (hS.le (Nat.le_of_ble_eq_true rfl)) (hR.le (Nat.le_of_ble_eq_true rfl))  v3 N h2 hq) (g_l2i (g_goto (tg := 74) rfl ms_208_74 ?_))
    refine g_weak ?_ (g_cl (cg_208_74 hd hS hR (16 + v2) ((cf_157_0 v3 N).toInt32) v1 v2 v3 s0 N b hr hc1 hx1 hp hC))
    exact ⟨rfl, rfl, rfl, rfl, rfl, trivial⟩
  · have hp := hp.2 h1
    refine g_iconst mzi_0 ?_
    refine g_weak ?_ (g_cl (cg_208_74 hd hS hR (16 + v2) 0 v1 v2 v3 s0 N b hr hc1 hx1 hp hC))
    exact ⟨rfl, rfl, rfl, rfl, rfl, trivial⟩
theorem cg_208_263 (hd : 4 ≤ d) (hS : mz_extR S 232) (hR : mz_rok R 232)  (s1 : Int32) (s2 : Bool) (N : mz_N) (b : Bool) {C0 : (mz_N) → Prop} (hr : ∀ (N2 : mz_N), C0 N2 → Q (.inl none) (mz_k S R N2 b t)) (hp : cp_208_263 s1 s2 N b) (hC : C0 (cf_208_263 s1 s2 N b)) : mz_G (d, mz_X0 L xs, none, [], mk_208, 5, Q) 263 mt_208_263 [(0, .ref 0)] [.int (mz_b01 s2), .int s1, .ref 53] false (mz_k S R N b t) := by
  unfold cf_208_263 at hC
  unfold cp_208_263 at hp
  obtain ⟨h1, hp⟩ := hp
  refine g_iast (mz_at hS (Nat.le_of_ble_eq_true rfl) mzcS_53) h1 (g_aload_n rfl (g_getR (mz_at hS (Nat.le_of_ble_eq_true rfl) mzcS_0) mzcf_11_2 (mz_rb hR (Nat.le_of_ble_eq_true rfl) rfl mzcR_0_2) ?_))
  have h2 := hp
  refine g_v1n (Nat.le_of_ble_eq_true rfl) (mz_at hS (Nat.le_of_ble_eq_true rfl) mzcS_41) (fun _ hq => cs_213 (Nat.le_trans (Nat.le_of_ble_eq_true rfl) hd) (hS.le (Nat.le_of_ble_eq_true rfl)) (hR.le (Nat.le_of_ble_eq_true rfl))  (mz_wI N 53 s1 (mz_b01 s2)) b h2 hq) ?_
  exact g_vret rfl (hr _ hC)
theorem cg_208_228 (hd : 4 ≤ d) (hS : mz_extR S 232) (hR : mz_rok R 232)  (N : mz_N) (b : Bool) {C0 : (mz_N) → Prop} (hr : ∀ (N2 : mz_N), C0 N2 → Q (.inl none) (mz_k S R N2 b t)) (hp : cp_208_228 N b) (hC : C0 (cf_208_228 N b)) : mz_G (d, mz_X0 L xs, none, [], mk_208, 5, Q) 228 mt_208_228 [(0, .ref 0)] [] false (mz_k S R N b t) := by
  unfold cf_208_228 at hC
  unfold cp_208_228 at hp
  refine g_aload_n rfl (g_getR (mz_at hS (Nat.le_of_ble_eq_true rfl) mzcS_0) mzcf_11_10 (mz_rb hR (Nat.le_of_ble_eq_true rfl) rfl mzcR_0_10) (g_bipush mzb_51 (g_aload_n rfl (g_getR (mz_at hS (Nat.le_of_ble_eq_true rfl) mzcS_0) mzcf_11_3 (mz_rb hR (Nat.le_of_ble_eq_true rfl) rfl mzcR_0_3) ?_))))
  obtain ⟨h1, hp⟩ := hp
  refine g_v1v (Nat.le_of_ble_eq_true rfl) (mz_at hS (Nat.le_of_ble_eq_true rfl) mzcS_56) (fun _ hq => cs_212 (Nat.le_trans (Nat.le_of_ble_eq_true rfl) hd) (hS.le (Nat.le_of_ble_eq_true rfl)) (hR.le (Nat.le_of_ble_eq_true rfl))  N h1 hq) (g_iast (mz_at hS (Nat.le_of_ble_eq_true rfl) mzcS_53) (mz_ibd (by decide)) (g_aload_n rfl (g_getR (mz_at hS (Nat.le_of_ble_eq_true rfl) mzcS_0) mzcf_11_10 (mz_rb hR (Nat.le_of_ble_eq_true rfl) rfl mzcR_0_10) (g_bipush mzb_52 (g_aload_n rfl (g_getR (mz_at hS (Nat.le_of_ble_eq_true rfl) mzcS_0) mzcf_11_3 (mz_rb hR (Nat.le_of_ble_eq_true rfl) rfl mzcR_0_3) ?_))))))
  obtain ⟨h2, hp⟩ := hp
  refine g_getZ (mz_at hS (Nat.le_of_ble_eq_true rfl) mzcS_56) mzcf_9_4 h2 ?_
  refine g_zeq (tg := 262) rfl ms_208_262 hC (fun h3 hC => ?_) (fun h3 hC => ?_)
  · have hp := hp.1 h3
    refine g_iconst mzi_1 (g_goto (tg := 263) rfl ms_208_263 ?_)
    refine g_weak ?_ (g_cl (cg_208_263 hd hS hR 52 true (mz_wI N 53 51 (cf_212_0 N)) b hr hp hC))
    exact ⟨rfl, trivial⟩
  · have hp := hp.2 h3
    refine g_iconst mzi_0 ?_
    refine g_weak ?_ (g_cl (cg_208_263 hd hS hR 52 false (mz_wI N 53 51 (cf_212_0 N)) b hr hp hC))
    exact ⟨rfl, trivial⟩
theorem cg_208_196 (hd : 4 ≤ d) (hS : mz_extR S 232) (hR : mz_rok R 232)  (N : mz_N) (b : Bool) {C0 : (mz_N) → Prop} (hr : ∀ (N2 : mz_N), C0 N2 → Q (.inl none) (mz_k S R N2 b t)) (hp : cp_208_196 N b) (hC : C0 (cf_208_196 N b)) : mz_G (d, mz_X0 L xs, none, [], mk_208, 5, Q) 196 mt_208_196 [(0, .ref 0)] [] false (mz_k S R N b t) := by
  unfold cf_208_196 at hC
  unfold cp_208_196 at hp
  refine g_aload_n rfl (g_getR (mz_at hS (Nat.le_of_ble_eq_true rfl) mzcS_0) mzcf_11_10 (mz_rb hR (Nat.le_of_ble_eq_true rfl) rfl mzcR_0_10) (g_bipush mzb_49 (g_aload_n rfl (g_getR (mz_at hS (Nat.le_of_ble_eq_true rfl) mzcS_0) mzcf_11_8 (mz_rb hR (Nat.le_of_ble_eq_true rfl) rfl mzcR_0_8) (g_getI (mz_at hS (Nat.le_of_ble_eq_true rfl) mzcS_208) mzcf_1_0 (g_sipush mzs_240 (g_irem (by decide) ?_)))))))
  refine g_iast (mz_at hS (Nat.le_of_ble_eq_true rfl) mzcS_53) (mz_ibd (by decide)) (g_aload_n rfl (g_getR (mz_at hS (Nat.le_of_ble_eq_true rfl) mzcS_0) mzcf_11_10 (mz_rb hR (Nat.le_of_ble_eq_true rfl) rfl mzcR_0_10) (g_bipush mzb_50 (g_aload_n rfl (g_getR (mz_at hS (Nat.le_of_ble_eq_true rfl) mzcS_0) mzcf_11_3 (mz_rb hR (Nat.le_of_ble_eq_true rfl) rfl mzcR_0_3) (g_getI (mz_at hS (Nat.le_of_ble_eq_true rfl) mzcS_56) mzcf_9_7 (g_iast (mz_at hS (Nat.le_of_ble_eq_true rfl) mzcS_53) (mz_ibd (by decide)) ?_)))))))
  refine g_weak ?_ (g_cl (cg_208_228 hd hS hR (mz_wI (mz_wI N 53 49 (mz_irem (N.1 208 0) 240)) 53 50 ((mz_wI N 53 49 (mz_irem (N.1 208 0) 240)).1 56 7)) b hr hp hC))
  exact ⟨rfl, trivial⟩
theorem cg_208_171 (hd : 4 ≤ d) (hS : mz_extR S 232) (hR : mz_rok R 232)  (s1 : Int32) (s2 : Bool) (v1 : Int32) (N : mz_N) (b : Bool) {C0 : (mz_N) → Prop} (hr : ∀ (N2 : mz_N), C0 N2 → Q (.inl none) (mz_k S R N2 b t)) (hp : cp_208_171 s1 s2 v1 N b) (hC : C0 (cf_208_171 s1 s2 v1 N b)) : mz_G (d, mz_X0 L xs, none, [], mk_208, 5, Q) 171 mt_208_171 [(0, .ref 0), (1, .int v1)] [.int (mz_b01 s2), .int s1, .ref 53] false (mz_k S R N b t) := by
  unfold cf_208_171 at hC
  unfold cp_208_171 at hp
  obtain ⟨h1, hp⟩ := hp
  refine g_iast (mz_at hS (Nat.le_of_ble_eq_true rfl) mzcS_53) h1 (g_aload_n rfl (g_getR (mz_at hS (Nat.le_of_ble_eq_true rfl) mzcS_0) mzcf_11_10 (mz_rb hR (Nat.le_of_ble_eq_true rfl) rfl mzcR_0_10) (g_bipush mzb_47 (g_aload_n rfl (g_getR (mz_at hS (Nat.le_of_ble_eq_true rfl) mzcS_0) mzcf_11_4 (mz_rb hR (Nat.le_of_ble_eq_true rfl) rfl mzcR_0_4) (g_getR (mz_at hS (Nat.le_of_ble_eq_true rfl) mzcS_65) mzcf_3_0 (mz_rb hR (Nat.le_of_ble_eq_true rfl) rfl mzcR_65_0) (g_iload_n rfl ?_)))))))
  obtain ⟨h2, hp⟩ := hp
  refine g_iald hS.1 (mz_at hS (Nat.le_of_ble_eq_true rfl) mzcS_66) h2 (g_iast (mz_at hS (Nat.le_of_ble_eq_true rfl) mzcS_53) (mz_ibd (by decide)) (g_aload_n rfl (g_getR (mz_at hS (Nat.le_of_ble_eq_true rfl) mzcS_0) mzcf_11_10 (mz_rb hR (Nat.le_of_ble_eq_true rfl) rfl mzcR_0_10) (g_bipush mzb_48 (g_iload_n rfl (g_iast (mz_at hS (Nat.le_of_ble_eq_true rfl) mzcS_53) (mz_ibd (by decide)) ?_))))))
  refine g_weak ?_ (g_cl (cg_208_196 hd hS hR (mz_wI (mz_wI (mz_wI N 53 s1 (mz_b01 s2)) 53 47 (mz_gI (mz_wI N 53 s1 (mz_b01 s2)) 66 v1)) 53 48 v1) b hr hp hC))
  exact ⟨rfl, trivial⟩
theorem cb_208_16 (hd : 4 ≤ d) (hS : mz_extR S 232) (hR : mz_rok R 232)  (v1 : Int32) (b : Bool) (s : Int32 × mz_N) {C0 : (mz_N) → Prop} (hr : ∀ (N2 : mz_N), C0 N2 → Q (.inl none) (mz_k S R N2 b t)) {C1 : ((Int32 × mz_N) ⊕ (mz_N)) → Prop} (hc1 : ∀ s2, C1 (.inl s2) → mz_G (d, mz_X0 L xs, none, [], mk_208, 5, Q) 16 mt_208_16 [(0, .ref 0), (1, .int v1), (2, .int s2.1)] [] false (mz_k S R s2.2 b t)) (hx1 : ∀ z, C1 (.inr z) → C0 z) (hp : cd_208_16 v1 b s) (hC : C1 (cq_208_16 v1 b s)) : mz_G (d, mz_X0 L xs, none, [], mk_208, 5, Q) 16 mt_208_16 [(0, .ref 0), (1, .int v1), (2, .int s.1)] [] false (mz_k S R s.2 b t) := by
  unfold cq_208_16 at hC
  unfold cd_208_16 at hp
  refine g_iload_n rfl (g_bipush mzb_10 ?_)
  refine g_icge (tg := 146) rfl ms_208_146 hC (fun h1 hC => ?_) (fun h1 hC => ?_)
  · have hp := hp.1 h1
    refine g_aload_n rfl (g_getR (mz_at hS (Nat.le_of_ble_eq_true rfl) mzcS_0) mzcf_11_1 (mz_rb hR (Nat.le_of_ble_eq_true rfl) rfl mzcR_0_1) (g_getR (mz_at hS (Nat.le_of_ble_eq_true rfl) mzcS_2) mzcf_5_16 (mz_rb hR (Nat.le_of_ble_eq_true rfl) rfl mzcR_2_16) (g_iload_n rfl ?_)))
    obtain ⟨h2, hp⟩ := hp
    refine g_iald hS.1 (mz_at hS (Nat.le_of_ble_eq_true rfl) mzcS_38) h2 (g_istore_n (Nat.le_of_ble_eq_true rfl) rfl (g_iload_n rfl (g_iconst mzi_m1 ?_)))
    refine g_iceq (tg := 41) rfl ms_208_41 hC (fun h3 hC => ?_) (fun h3 hC => ?_)
    · have hp := hp.1 h3
      refine g_iconst mzi_0 ?_
      refine g_weak ?_ (g_cl (cg_208_42 hd hS hR false v1 s.1 (mz_gI s.2 38 s.1) s.2 b hr hc1 hx1 hp hC))
      exact ⟨rfl, rfl, rfl, rfl, trivial⟩
    · have hp := hp.2 h3
      refine g_iconst mzi_1 (g_goto (tg := 42) rfl ms_208_42 ?_)
      refine g_weak ?_ (g_cl (cg_208_42 hd hS hR true v1 s.1 (mz_gI s.2 38 s.1) s.2 b hr hc1 hx1 hp hC))
      exact ⟨rfl, rfl, rfl, rfl, trivial⟩
  · have hp := hp.2 h1
    refine g_aload_n rfl (g_getR (mz_at hS (Nat.le_of_ble_eq_true rfl) mzcS_0) mzcf_11_10 (mz_rb hR (Nat.le_of_ble_eq_true rfl) rfl mzcR_0_10) (g_bipush mzb_46 (g_aload_n rfl (g_getR (mz_at hS (Nat.le_of_ble_eq_true rfl) mzcS_0) mzcf_11_4 (mz_rb hR (Nat.le_of_ble_eq_true rfl) rfl mzcR_0_4) (g_aload_n rfl (g_getR (mz_at hS (Nat.le_of_ble_eq_true rfl) mzcS_0) mzcf_11_1 (mz_rb hR (Nat.le_of_ble_eq_true rfl) rfl mzcR_0_1) ?_))))))
    obtain ⟨h4, hp⟩ := hp
    refine g_v2v (Nat.le_of_ble_eq_true rfl) (mz_at hS (Nat.le_of_ble_eq_true rfl) mzcS_65) (fun _ hq => cs_211 (Nat.le_trans (Nat.le_of_ble_eq_true rfl) hd) (hS.le (Nat.le_of_ble_eq_true rfl)) (hR.le (Nat.le_of_ble_eq_true rfl))  s.2 h4 hq) ?_
    refine g_zeq (tg := 170) rfl ms_208_170 hC (fun h5 hC => ?_) (fun h5 hC => ?_)
    · have hp := hp.1 h5
      refine g_iconst mzi_1 (g_goto (tg := 171) rfl ms_208_171 ?_)
      refine g_weak ?_ (g_cl (cg_208_171 hd hS hR 46 true v1 s.2 b hr hp (hx1 _ hC)))
      exact ⟨rfl, rfl, trivial⟩
    · have hp := hp.2 h5
      refine g_iconst mzi_0 ?_
      refine g_weak ?_ (g_cl (cg_208_171 hd hS hR 46 false v1 s.2 b hr hp (hx1 _ hC)))
      exact ⟨rfl, rfl, trivial⟩
theorem cg_208_16 (hd : 4 ≤ d) (hS : mz_extR S 232) (hR : mz_rok R 232)  (v1 : Int32) (v2 : Int32) (N : mz_N) (b : Bool) {C0 : (mz_N) → Prop} (hr : ∀ (N2 : mz_N), C0 N2 → Q (.inl none) (mz_k S R N2 b t)) (hp : cp_208_16 v1 v2 N b) (hC : C0 (cf_208_16 v1 v2 N b)) : mz_G (d, mz_X0 L xs, none, [], mk_208, 5, Q) 16 mt_208_16 [(0, .ref 0), (1, .int v1), (2, .int v2)] [] false (mz_k S R N b t) := by
  obtain ⟨n, hn⟩ := hp
  exact g_loop (G := fun s => mz_G (d, mz_X0 L xs, none, [], mk_208, 5, Q) 16 mt_208_16 [(0, .ref 0), (1, .int v1), (2, .int s.1)] [] false (mz_k S R s.2 b t)) (C := C0) (fun C2 hc hx s hP hC => cb_208_16 hd hS hR v1 b s hr hc hx hP hC) n (v2, N) hn hC
theorem cg_208_0 (hd : 4 ≤ d) (hS : mz_extR S 232) (hR : mz_rok R 232)  (v1 : Int32) (N : mz_N) (b : Bool) {C0 : (mz_N) → Prop} (hr : ∀ (N2 : mz_N), C0 N2 → Q (.inl none) (mz_k S R N2 b t)) (hp : cp_208_0 v1 N b) (hC : C0 (cf_208_0 v1 N b)) : mz_G (d, mz_X0 L xs, none, [], mk_208, 5, Q) 0 mk_208 [(0, .ref 0), (1, .int v1)] [] true (mz_k S R N b t) := by
  unfold cf_208_0 at hC
  unfold cp_208_0 at hp
  refine g_aload_n rfl (g_getR (mz_at hS (Nat.le_of_ble_eq_true rfl) mzcS_0) mzcf_11_2 (mz_rb hR (Nat.le_of_ble_eq_true rfl) rfl mzcR_0_2) (g_getR (mz_at hS (Nat.le_of_ble_eq_true rfl) mzcS_41) mzcf_6_2 (mz_rb_lv b hR (Nat.le_of_ble_eq_true rfl)) (g_getI (mz_at hS (mz_oL0 (mz_lv_or b) (Nat.le_of_ble_eq_true rfl)) (mz_oA0 (mz_lv_or b))) mzcf_7_5 ?_)))
  refine g_ifne (tg := 14) rfl ms_208_14 hC (fun h1 hC => ?_) (fun h1 hC => ?_)
  · have hp := hp.1 h1
    exact g_vret rfl (hr _ hC)
  · have hp := hp.2 h1
    refine g_iconst mzi_0 (g_istore_n (Nat.le_of_ble_eq_true rfl) rfl ?_)
    refine g_weak ?_ (g_cl (cg_208_16 hd hS hR v1 0 N b hr hp hC))
    exact ⟨rfl, rfl, rfl, trivial⟩
theorem cs_208 (hd : 5 ≤ d) (hS : mz_extR S 232) (hR : mz_rok R 232)  (v1 : Int32) (N : mz_N) (b : Bool) (hp : cp_208_0 v1 N b) (hq : Q (.inl none) (mz_k S R (cf_208_0 v1 N b) b t)) : mz_Ed (mz_X0 L xs) d 208 [.ref 0, .int v1] (mz_k S R N b t) Q :=
  by
  refine g_in mzq_208 (Nat.le_of_ble_eq_true rfl) (Nat.le_of_ble_eq_true rfl) (Nat.le_trans (Nat.le_of_ble_eq_true rfl) hd) ?_
  refine g_weak ?_ (cg_208_0 (d := d - 1) (by omega) hS hR v1 N b (C0 := fun z => Q (.inl none) (mz_k S R z b t)) (fun _ h => h) hp hq)
  exact ⟨rfl, rfl, trivial⟩
/-! 222 KeptHouse$Plan.hasHeart (I)Z -/
theorem ms_222_0 : mz_sf mk_222 0 = mk_222 := mz_sf_zero _
theorem ms_222_24 : mz_sf mk_222 24 = mt_222_24 := mz_sf_add ms_222_0 (t := 24) rfl rfl
theorem ms_222_25 : mz_sf mk_222 25 = mt_222_25 := mz_sf_add ms_222_24 (t := 1) rfl rfl
set_option maxRecDepth 100000 in
theorem mzq_222 : mz_PG0 222 = some (5, ⟨"KeptHouse$Plan", "hasHeart", "(I)Z"⟩, prog_7_method_35_code, 2, some .boolean, [], mk_222, []) := rfl
theorem cg_222_0 (hd : 0 ≤ d) (hS : mz_extR S 232) (hR : mz_rok R 232)  (v1 : Int32) (N : mz_N) {C0 : (Bool) → Prop} (hr : ∀ (w : Bool), C0 w → Q (.inl (some (.int (mz_b01 w)))) (mz_k S R N b t)) (hp : cp_222_0 v1 N) (hC : C0 (cf_222_0 v1 N)) : mz_G (d, mz_X0 L xs, some .boolean, [], mk_222, 2, Q) 0 mk_222 [(0, .ref 2), (1, .int v1)] [] true (mz_k S R N b t) := by
  unfold cf_222_0 at hC
  unfold cp_222_0 at hp
  refine g_iload_n rfl ?_
  refine g_iflt (tg := 24) rfl ms_222_24 hC (fun h1 hC => ?_) (fun h1 hC => ?_)
  · have hp := hp.1 h1
    refine g_iconst mzi_0 ?_
    exact g_zret (z := false) rfl (hr _ hC)
  · have hp := hp.2 h1
    refine g_iload_n rfl (g_bipush mzb_10 ?_)
    refine g_icge (tg := 24) rfl ms_222_24 hC (fun h2 hC => ?_) (fun h2 hC => ?_)
    · have hp := hp.1 h2
      refine g_aload_n rfl (g_getR (mz_at hS (Nat.le_of_ble_eq_true rfl) mzcS_2) mzcf_5_16 (mz_rb hR (Nat.le_of_ble_eq_true rfl) rfl mzcR_2_16) (g_iload_n rfl ?_))
      have h3 := hp
      refine g_iald hS.1 (mz_at hS (Nat.le_of_ble_eq_true rfl) mzcS_38) h3 (g_iconst mzi_m1 ?_)
      refine g_iceq (tg := 24) rfl ms_222_24 hC (fun h4 hC => ?_) (fun h4 hC => ?_)
      · refine g_iconst mzi_0 ?_
        exact g_zret (z := false) rfl (hr _ hC)
      · refine g_iconst mzi_1 (g_goto (tg := 25) rfl ms_222_25 ?_)
        exact g_zret (z := true) rfl (hr _ hC)
    · have hp := hp.2 h2
      refine g_iconst mzi_0 ?_
      exact g_zret (z := false) rfl (hr _ hC)
theorem cs_222 (hd : 1 ≤ d) (hS : mz_extR S 232) (hR : mz_rok R 232)  (v1 : Int32) (N : mz_N) (hp : cp_222_0 v1 N) (hq : Q (.inl (some (.int (mz_b01 (cf_222_0 v1 N))))) (mz_k S R N b t)) : mz_Ed (mz_X0 L xs) d 222 [.ref 2, .int v1] (mz_k S R N b t) Q :=
  by
  refine g_in mzq_222 (Nat.le_of_ble_eq_true rfl) (Nat.le_of_ble_eq_true rfl) (Nat.le_trans (Nat.le_of_ble_eq_true rfl) hd) ?_
  refine g_weak ?_ (cg_222_0 (d := d - 1) (by omega) hS hR v1 N (C0 := fun z => Q (.inl (some (.int (mz_b01 z)))) (mz_k S R N b t)) (fun _ h => h) hp hq)
  exact ⟨rfl, rfl, trivial⟩
/-! 221 KeptHouse$Plan.present (II)I -/
theorem ms_221_0 : mz_sf mk_221 0 = mk_221 := mz_sf_zero _
theorem ms_221_22 : mz_sf mk_221 22 = mt_221_22 := mz_sf_add ms_221_0 (t := 22) rfl rfl
theorem ms_221_23 : mz_sf mk_221 23 = mt_221_23 := mz_sf_add ms_221_22 (t := 1) rfl rfl
set_option maxRecDepth 100000 in
theorem mzq_221 : mz_PG0 221 = some (5, ⟨"KeptHouse$Plan", "present", "(II)I"⟩, prog_7_method_36_code, 3, some .int, [], mk_221, []) := rfl
theorem cg_221_0 (hd : 1 ≤ d) (hS : mz_extR S 232) (hR : mz_rok R 232)  (v1 : Int32) (v2 : Int32) (N : mz_N) {C0 : (Int32) → Prop} (hr : ∀ (w : Int32), C0 w → Q (.inl (some (.int w))) (mz_k S R N b t)) (hp : cp_221_0 v1 v2 N) (hC : C0 (cf_221_0 v1 v2 N)) : mz_G (d, mz_X0 L xs, some .int, [], mk_221, 3, Q) 0 mk_221 [(0, .ref 2), (1, .int v1), (2, .int v2)] [] true (mz_k S R N b t) := by
  unfold cf_221_0 at hC
  unfold cp_221_0 at hp
  refine g_aload_n rfl (g_iload_n rfl ?_)
  obtain ⟨h1, hp⟩ := hp
  refine g_v2v (Nat.le_of_ble_eq_true rfl) (mz_at hS (Nat.le_of_ble_eq_true rfl) mzcS_2) (fun _ hq => cs_222 (Nat.le_trans (Nat.le_of_ble_eq_true rfl) hd) (hS.le (Nat.le_of_ble_eq_true rfl)) (hR.le (Nat.le_of_ble_eq_true rfl))  v1 N h1 hq) ?_
  refine g_zeq (tg := 22) rfl ms_221_22 hC (fun h2 hC => ?_) (fun h2 hC => ?_)
  · have hp := hp.1 h2
    refine g_aload_n rfl (g_getR (mz_at hS (Nat.le_of_ble_eq_true rfl) mzcS_2) mzcf_5_18 (mz_rb hR (Nat.le_of_ble_eq_true rfl) rfl mzcR_2_18) (g_iload_n rfl (g_bipush mzb_24 (g_imul (g_iload_n rfl (g_iadd ?_))))))
    have h3 := hp
    refine g_iald hS.1 (mz_at hS (Nat.le_of_ble_eq_true rfl) mzcS_40) h3 (g_goto (tg := 23) rfl ms_221_23 ?_)
    exact g_iret rfl (hr _ hC)
  · have hp := hp.2 h2
    refine g_iconst mzi_0 ?_
    exact g_iret rfl (hr _ hC)
theorem cs_221 (hd : 2 ≤ d) (hS : mz_extR S 232) (hR : mz_rok R 232)  (v1 : Int32) (v2 : Int32) (N : mz_N) (hp : cp_221_0 v1 v2 N) (hq : Q (.inl (some (.int (cf_221_0 v1 v2 N)))) (mz_k S R N b t)) : mz_Ed (mz_X0 L xs) d 221 [.ref 2, .int v1, .int v2] (mz_k S R N b t) Q :=
  by
  refine g_in mzq_221 (Nat.le_of_ble_eq_true rfl) (Nat.le_of_ble_eq_true rfl) (Nat.le_trans (Nat.le_of_ble_eq_true rfl) hd) ?_
  refine g_weak ?_ (cg_221_0 (d := d - 1) (by omega) hS hR v1 v2 N (C0 := fun z => Q (.inl (some (.int z))) (mz_k S R N b t)) (fun _ h => h) hp hq)
  exact ⟨rfl, rfl, rfl, trivial⟩
end Fn9
