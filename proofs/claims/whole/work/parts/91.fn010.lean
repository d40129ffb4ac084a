/-! THE FUNCTIONS: written by program: each method comes to its function. -/
section Fn10
variable {L : Nat} {xs : Nat → Int32} {d : Nat} {S : mz_S} {R : Nat → Nat → Option Nat} {Q : mz_Q} {N : mz_N} {b : Bool} {t : Nat}
/-! 228 KeptHouse$Supply.heatCircuit (I)V -/
theorem ms_228_0 : mz_sf mk_228 0 = mk_228 := mz_sf_zero _
theorem ms_228_18 : mz_sf mk_228 18 = mt_228_18 := mz_sf_add ms_228_0 (t := 18) rfl rfl
theorem ms_228_59 : mz_sf mk_228 59 = mt_228_59 := mz_sf_add ms_228_18 (t := 41) rfl rfl
theorem ms_228_62 : mz_sf mk_228 62 = mt_228_62 := mz_sf_add ms_228_59 (t := 3) rfl rfl
theorem ms_228_84 : mz_sf mk_228 84 = mt_228_84 := mz_sf_add ms_228_62 (t := 22) rfl rfl
theorem ms_228_106 : mz_sf mk_228 106 = mt_228_106 := mz_sf_add ms_228_84 (t := 22) rfl rfl
set_option maxRecDepth 100000 in
theorem mzq_228 : mz_PG0 228 = some (9, ⟨"KeptHouse$Supply", "heatCircuit", "(I)V"⟩, prog_11_method_10_code, 3, none, [], mk_228, []) := rfl
theorem cg_228_84 (hd : 0 ≤ d) (hS : mz_ext S 232) (hR : mz_rok R 232)  (v1 : Int32) (N : mz_N) {C0 : (mz_N) → Prop} (hr : ∀ (N2 : mz_N), C0 N2 → Q (.inl none) (mz_k S R N2 b t)) (hp : cp_228_84 v1 N) (hC : C0 (cf_228_84 v1 N)) : mz_G (d, mz_X0 L xs, none, [], mk_228, 3, Q) 84 mt_228_84 [(0, .ref 56), (1, .int v1)] [] false (mz_k S R N b t) := by
  unfold cf_228_84 at hC
  unfold cp_228_84 at hp
  refine g_aload_n rfl (g_getR (mz_at hS (Nat.le_of_ble_eq_true rfl) mzcS_56) mzcf_9_0 (mz_rb hR (Nat.le_of_ble_eq_true rfl) rfl mzcR_56_0) (g_iconst mzi_1 (g_aald4 (m := 59) (mz_at hS (Nat.le_of_ble_eq_true rfl) mzcS_57) (mz_ibd (by decide)) (mz_rb hR (Nat.le_of_ble_eq_true rfl) rfl mzcRr_57_1) (g_iload_n rfl ?_))))
  obtain ⟨h1, hp⟩ := hp
  refine g_iald hS.1 (mz_at hS (Nat.le_of_ble_eq_true rfl) mzcS_59) h1 (g_bipush mzb_50 ?_)
  refine g_iclt (tg := 106) rfl ms_228_106 hC (fun h2 hC => ?_) (fun h2 hC => ?_)
  · have hp := hp.1 h2
    exact g_vret rfl (hr _ hC)
  · have hp := hp.2 h2
    refine g_aload_n rfl (g_getR (mz_at hS (Nat.le_of_ble_eq_true rfl) mzcS_56) mzcf_9_0 (mz_rb hR (Nat.le_of_ble_eq_true rfl) rfl mzcR_56_0) (g_iconst mzi_2 (g_aald4 (m := 60) (mz_at hS (Nat.le_of_ble_eq_true rfl) mzcS_57) (mz_ibd (by decide)) (mz_rb hR (Nat.le_of_ble_eq_true rfl) rfl mzcRr_57_2) (g_iload_n rfl (g_iconst mzi_1 ?_)))))
    have h3 := hp
    refine g_iast (mz_at hS (Nat.le_of_ble_eq_true rfl) mzcS_60) h3 ?_
    exact g_vret rfl (hr _ hC)
theorem cg_228_59 (hd : 0 ≤ d) (hS : mz_ext S 232) (hR : mz_rok R 232)  (v1 : Int32) (N : mz_N) {C0 : (mz_N) → Prop} (hr : ∀ (N2 : mz_N), C0 N2 → Q (.inl none) (mz_k S R N2 b t)) (hp : cp_228_59 v1 N) (hC : C0 (cf_228_59 v1 N)) : mz_G (d, mz_X0 L xs, none, [], mk_228, 3, Q) 59 mt_228_59 [(0, .ref 56), (1, .int v1)] [] false (mz_k S R N b t) := by
  unfold cf_228_59 at hC
  unfold cp_228_59 at hp
  refine g_goto (tg := 84) rfl ms_228_84 ?_
  refine g_weak ?_ (g_cl (cg_228_84 hd hS hR v1 N hr hp hC))
  exact ⟨rfl, rfl, trivial⟩
theorem cg_228_62 (hd : 0 ≤ d) (hS : mz_ext S 232) (hR : mz_rok R 232)  (v1 : Int32) (N : mz_N) {C0 : (mz_N) → Prop} (hr : ∀ (N2 : mz_N), C0 N2 → Q (.inl none) (mz_k S R N2 b t)) (hp : cp_228_62 v1 N) (hC : C0 (cf_228_62 v1 N)) : mz_G (d, mz_X0 L xs, none, [], mk_228, 3, Q) 62 mt_228_62 [(0, .ref 56), (1, .int v1)] [] false (mz_k S R N b t) := by
  unfold cf_228_62 at hC
  unfold cp_228_62 at hp
  refine g_aload_n rfl (g_getR (mz_at hS (Nat.le_of_ble_eq_true rfl) mzcS_56) mzcf_9_0 (mz_rb hR (Nat.le_of_ble_eq_true rfl) rfl mzcR_56_0) (g_iconst mzi_1 (g_aald4 (m := 59) (mz_at hS (Nat.le_of_ble_eq_true rfl) mzcS_57) (mz_ibd (by decide)) (mz_rb hR (Nat.le_of_ble_eq_true rfl) rfl mzcRr_57_1) (g_iload_n rfl (g_iconst mzi_0 (g_aload_n rfl (g_getR (mz_at hS (Nat.le_of_ble_eq_true rfl) mzcS_56) mzcf_9_0 (mz_rb hR (Nat.le_of_ble_eq_true rfl) rfl mzcR_56_0) ?_)))))))
  refine g_iconst mzi_1 (g_aald4 (m := 59) (mz_at hS (Nat.le_of_ble_eq_true rfl) mzcS_57) (mz_ibd (by decide)) (mz_rb hR (Nat.le_of_ble_eq_true rfl) rfl mzcRr_57_1) (g_iload_n rfl ?_))
  obtain ⟨h1, hp⟩ := hp
  refine g_iald hS.1 (mz_at hS (Nat.le_of_ble_eq_true rfl) mzcS_59) h1 (g_iconst mzi_2 (g_isub (g_imax (Nat.le_of_ble_eq_true rfl) ?_)))
  obtain ⟨h2, hp⟩ := hp
  refine g_iast (mz_at hS (Nat.le_of_ble_eq_true rfl) mzcS_59) h2 ?_
  refine g_weak ?_ (g_cl (cg_228_84 hd hS hR v1 (mz_wI N 59 v1 (mz_imax 0 ((mz_gI N 59 v1) - 2))) hr hp hC))
  exact ⟨rfl, rfl, trivial⟩
theorem cg_228_0 (hd : 0 ≤ d) (hS : mz_ext S 232) (hR : mz_rok R 232)  (v1 : Int32) (N : mz_N) {C0 : (mz_N) → Prop} (hr : ∀ (N2 : mz_N), C0 N2 → Q (.inl none) (mz_k S R N2 b t)) (hp : cp_228_0 v1 N) (hC : C0 (cf_228_0 v1 N)) : mz_G (d, mz_X0 L xs, none, [], mk_228, 3, Q) 0 mk_228 [(0, .ref 56), (1, .int v1)] [] true (mz_k S R N b t) := by
  unfold cf_228_0 at hC
  unfold cp_228_0 at hp
  refine g_aload_n rfl (g_getR (mz_at hS (Nat.le_of_ble_eq_true rfl) mzcS_56) mzcf_9_0 (mz_rb hR (Nat.le_of_ble_eq_true rfl) rfl mzcR_56_0) (g_iconst mzi_0 (g_aald4 (m := 58) (mz_at hS (Nat.le_of_ble_eq_true rfl) mzcS_57) (mz_ibd (by decide)) (mz_rb hR (Nat.le_of_ble_eq_true rfl) rfl mzcRr_57_0) (g_iload_n rfl ?_))))
  obtain ⟨h1, hp⟩ := hp
  refine g_iald hS.1 (mz_at hS (Nat.le_of_ble_eq_true rfl) mzcS_58) h1 (g_aload_n rfl (g_getR (mz_at hS (Nat.le_of_ble_eq_true rfl) mzcS_56) mzcf_9_0 (mz_rb hR (Nat.le_of_ble_eq_true rfl) rfl mzcR_56_0) (g_iconst mzi_4 (g_aald4 (m := 62) (mz_at hS (Nat.le_of_ble_eq_true rfl) mzcS_57) (mz_ibd (by decide)) (mz_rb hR (Nat.le_of_ble_eq_true rfl) rfl mzcRr_57_4) (g_iload_n rfl ?_)))))
  obtain ⟨h2, hp⟩ := hp
  refine g_iald hS.1 (mz_at hS (Nat.le_of_ble_eq_true rfl) mzcS_62) h2 (g_isub (g_istore_n (Nat.le_of_ble_eq_true rfl) rfl (g_iload_n rfl ?_)))
  refine g_ifle (tg := 62) rfl ms_228_62 hC (fun h3 hC => ?_) (fun h3 hC => ?_)
  · have hp := hp.1 h3
    refine g_aload_n rfl (g_getR (mz_at hS (Nat.le_of_ble_eq_true rfl) mzcS_56) mzcf_9_0 (mz_rb hR (Nat.le_of_ble_eq_true rfl) rfl mzcR_56_0) (g_iconst mzi_4 (g_aald4 (m := 62) (mz_at hS (Nat.le_of_ble_eq_true rfl) mzcS_57) (mz_ibd (by decide)) (mz_rb hR (Nat.le_of_ble_eq_true rfl) rfl mzcRr_57_4) (g_iload_n rfl ?_))))
    obtain ⟨h4, hp⟩ := hp
    refine g_iald hS.1 (mz_at hS (Nat.le_of_ble_eq_true rfl) mzcS_62) h4 ?_
    refine g_ifle (tg := 62) rfl ms_228_62 hC (fun h5 hC => ?_) (fun h5 hC => ?_)
    · have hp := hp.1 h5
      refine g_aload_n rfl (g_getR (mz_at hS (Nat.le_of_ble_eq_true rfl) mzcS_56) mzcf_9_0 (mz_rb hR (Nat.le_of_ble_eq_true rfl) rfl mzcR_56_0) (g_iconst mzi_1 (g_aald4 (m := 59) (mz_at hS (Nat.le_of_ble_eq_true rfl) mzcS_57) (mz_ibd (by decide)) (mz_rb hR (Nat.le_of_ble_eq_true rfl) rfl mzcRr_57_1) (g_iload_n rfl (g_dup2 rfl rfl ?_)))))
      obtain ⟨h6, hp⟩ := hp
      refine g_iald hS.1 (mz_at hS (Nat.le_of_ble_eq_true rfl) mzcS_59) h6 (g_iconst mzi_1 (g_bipush mzb_10 (g_iload_n rfl (g_imul (g_aload_n rfl (g_getR (mz_at hS (Nat.le_of_ble_eq_true rfl) mzcS_56) mzcf_9_0 (mz_rb hR (Nat.le_of_ble_eq_true rfl) rfl mzcR_56_0) (g_iconst mzi_4 ?_)))))))
      refine g_aald4 (m := 62) (mz_at hS (Nat.le_of_ble_eq_true rfl) mzcS_57) (mz_ibd (by decide)) (mz_rb hR (Nat.le_of_ble_eq_true rfl) rfl mzcRr_57_4) (g_iload_n rfl ?_)
      obtain ⟨h7, hp⟩ := hp
      refine g_iald hS.1 (mz_at hS (Nat.le_of_ble_eq_true rfl) mzcS_62) h7 ?_
      obtain ⟨h8, hp⟩ := hp
      refine g_idiv h8 (g_iadd (g_iadd ?_))
      obtain ⟨h9, hp⟩ := hp
      refine g_iast (mz_at hS (Nat.le_of_ble_eq_true rfl) mzcS_59) h9 ?_
      refine g_weak ?_ (g_cl (cg_228_59 hd hS hR v1 (mz_wI N 59 v1 ((mz_gI N 59 v1) + (1 + ((10 * ((mz_gI N 58 v1) - (mz_gI N 62 v1))) / (mz_gI N 62 v1))))) hr hp hC))
      exact ⟨rfl, rfl, trivial⟩
    · have hp := hp.2 h5
      refine g_weak ?_ (g_cl (cg_228_62 hd hS hR v1 N hr hp hC))
      exact ⟨rfl, rfl, trivial⟩
  · have hp := hp.2 h3
    refine g_weak ?_ (g_cl (cg_228_62 hd hS hR v1 N hr hp hC))
    exact ⟨rfl, rfl, trivial⟩
theorem cs_228 (hd : 1 ≤ d) (hS : mz_ext S 232) (hR : mz_rok R 232)  (v1 : Int32) (N : mz_N) (hp : cp_228_0 v1 N) (hq : Q (.inl none) (mz_k S R (cf_228_0 v1 N) b t)) : mz_Ed (mz_X0 L xs) d 228 [.ref 56, .int v1] (mz_k S R N b t) Q :=
  by
  refine g_in mzq_228 (Nat.le_of_ble_eq_true rfl) (Nat.le_of_ble_eq_true rfl) (Nat.le_trans (Nat.le_of_ble_eq_true rfl) hd) ?_
  refine g_weak ?_ (cg_228_0 (d := d - 1) (by omega) hS hR v1 N (C0 := fun z => Q (.inl none) (mz_k S R z b t)) (fun _ h => h) hp hq)
  exact ⟨rfl, rfl, trivial⟩
/-! 219 KeptHouse.supplyPower (I)V -/
theorem ms_219_0 : mz_sf mk_219 0 = mk_219 := mz_sf_zero _
theorem ms_219_26 : mz_sf mk_219 26 = mt_219_26 := mz_sf_add ms_219_0 (t := 26) rfl rfl
theorem ms_219_36 : mz_sf mk_219 36 = mt_219_36 := mz_sf_add ms_219_26 (t := 10) rfl rfl
theorem ms_219_51 : mz_sf mk_219 51 = mt_219_51 := mz_sf_add ms_219_36 (t := 15) rfl rfl
theorem ms_219_69 : mz_sf mk_219 69 = mt_219_69 := mz_sf_add ms_219_51 (t := 18) rfl rfl
theorem ms_219_108 : mz_sf mk_219 108 = mt_219_108 := mz_sf_add ms_219_69 (t := 39) rfl rfl
theorem ms_219_114 : mz_sf mk_219 114 = mt_219_114 := mz_sf_add ms_219_108 (t := 6) rfl rfl
set_option maxRecDepth 100000 in
theorem mzq_219 : mz_PG0 219 = some (11, ⟨"KeptHouse", "supplyPower", "(I)V"⟩, prog_1_method_77_code, 3, none, [], mk_219, []) := rfl
theorem cg_219_108 (hd : 3 ≤ d) (hS : mz_ext S 232) (hR : mz_rok R 232)  (v2 : Int32) (N : mz_N) {C0 : (mz_N) → Prop} (hr : ∀ (N2 : mz_N), C0 N2 → Q (.inl none) (mz_k S R N2 b t)) {C1 : ((Int32 × mz_N) ⊕ (mz_N)) → Prop} (hc1 : ∀ s2, C1 (.inl s2) → mz_G (d, mz_X0 L xs, none, [], mk_219, 3, Q) 69 mt_219_69 [(0, .ref 0), (2, .int s2.1)] [] false (mz_k S R s2.2 b t)) (hx1 : ∀ z, C1 (.inr z) → C0 z) (hp : cp_219_108 v2 N) (hC : C1 (cf_219_108 v2 N)) : mz_G (d, mz_X0 L xs, none, [], mk_219, 3, Q) 108 mt_219_108 [(0, .ref 0), (2, .int v2)] [] false (mz_k S R N b t) := by
  unfold cf_219_108 at hC
  unfold cp_219_108 at hp
  refine g_iinc rfl mzi_1 (Nat.le_of_ble_eq_true rfl) rfl (g_goto (tg := 69) rfl ms_219_69 ?_)
  refine g_weak ?_ (g_cl (hc1 ((v2 + 1), N) hC))
  exact ⟨rfl, rfl, trivial⟩
theorem cb_219_69 (hd : 3 ≤ d) (hS : mz_ext S 232) (hR : mz_rok R 232)   (s : Int32 × mz_N) {C0 : (mz_N) → Prop} (hr : ∀ (N2 : mz_N), C0 N2 → Q (.inl none) (mz_k S R N2 b t)) {C1 : ((Int32 × mz_N) ⊕ (mz_N)) → Prop} (hc1 : ∀ s2, C1 (.inl s2) → mz_G (d, mz_X0 L xs, none, [], mk_219, 3, Q) 69 mt_219_69 [(0, .ref 0), (2, .int s2.1)] [] false (mz_k S R s2.2 b t)) (hx1 : ∀ z, C1 (.inr z) → C0 z) (hp : cd_219_69  s) (hC : C1 (cq_219_69  s)) : mz_G (d, mz_X0 L xs, none, [], mk_219, 3, Q) 69 mt_219_69 [(0, .ref 0), (2, .int s.1)] [] false (mz_k S R s.2 b t) := by
  unfold cq_219_69 at hC
  unfold cd_219_69 at hp
  refine g_iload_n rfl (g_bipush mzb_11 ?_)
  refine g_icge (tg := 114) rfl ms_219_114 hC (fun h1 hC => ?_) (fun h1 hC => ?_)
  · have hp := hp.1 h1
    refine g_aload_n rfl (g_getR (mz_at hS (Nat.le_of_ble_eq_true rfl) mzcS_0) mzcf_11_3 (mz_rb hR (Nat.le_of_ble_eq_true rfl) rfl mzcR_0_3) (g_iload_n rfl ?_))
    obtain ⟨h2, hp⟩ := hp
    refine g_v2n (Nat.le_of_ble_eq_true rfl) (mz_at hS (Nat.le_of_ble_eq_true rfl) mzcS_56) (fun _ hq => cs_228 (Nat.le_trans (Nat.le_of_ble_eq_true rfl) hd) (hS.le (Nat.le_of_ble_eq_true rfl)) (hR.le (Nat.le_of_ble_eq_true rfl))  s.1 s.2 h2 hq) (g_aload_n rfl (g_getR (mz_at hS (Nat.le_of_ble_eq_true rfl) mzcS_0) mzcf_11_8 (mz_rb hR (Nat.le_of_ble_eq_true rfl) rfl mzcR_0_8) (g_getR (mz_at hS (Nat.le_of_ble_eq_true rfl) mzcS_208) mzcf_1_5 (mz_rb hR (Nat.le_of_ble_eq_true rfl) rfl mzcR_208_5) (g_iconst mzi_1 (g_aald4 (m := 211) (mz_at hS (Nat.le_of_ble_eq_true rfl) mzcS_209) (mz_ibd (by decide)) (mz_rb hR (Nat.le_of_ble_eq_true rfl) rfl mzcRr_209_1) (g_iload_n rfl (g_dup2 rfl rfl ?_)))))))
    obtain ⟨h3, hp⟩ := hp
    refine g_iald hS.1 (mz_at hS (Nat.le_of_ble_eq_true rfl) mzcS_211) h3 (g_aload_n rfl (g_getR (mz_at hS (Nat.le_of_ble_eq_true rfl) mzcS_0) mzcf_11_3 (mz_rb hR (Nat.le_of_ble_eq_true rfl) rfl mzcR_0_3) (g_getR (mz_at hS (Nat.le_of_ble_eq_true rfl) mzcS_56) mzcf_9_0 (mz_rb hR (Nat.le_of_ble_eq_true rfl) rfl mzcR_56_0) (g_iconst mzi_0 (g_aald4 (m := 58) (mz_at hS (Nat.le_of_ble_eq_true rfl) mzcS_57) (mz_ibd (by decide)) (mz_rb hR (Nat.le_of_ble_eq_true rfl) rfl mzcRr_57_0) (g_iload_n rfl ?_))))))
    obtain ⟨h4, hp⟩ := hp
    refine g_iald hS.1 (mz_at hS (Nat.le_of_ble_eq_true rfl) mzcS_58) h4 (g_iadd ?_)
    obtain ⟨h5, hp⟩ := hp
    refine g_iast (mz_at hS (Nat.le_of_ble_eq_true rfl) mzcS_211) h5 ?_
    refine g_weak ?_ (g_cl (cg_219_108 hd hS hR s.1 (mz_wI (cf_228_0 s.1 s.2) 211 s.1 ((mz_gI (cf_228_0 s.1 s.2) 211 s.1) + (mz_gI (cf_228_0 s.1 s.2) 58 s.1))) hr hc1 hx1 hp hC))
    exact ⟨rfl, rfl, trivial⟩
  · have hp := hp.2 h1
    exact g_vret rfl (hr _ (hx1 _ hC))
theorem cg_219_69 (hd : 3 ≤ d) (hS : mz_ext S 232) (hR : mz_rok R 232)  (v2 : Int32) (N : mz_N) {C0 : (mz_N) → Prop} (hr : ∀ (N2 : mz_N), C0 N2 → Q (.inl none) (mz_k S R N2 b t)) (hp : cp_219_69 v2 N) (hC : C0 (cf_219_69 v2 N)) : mz_G (d, mz_X0 L xs, none, [], mk_219, 3, Q) 69 mt_219_69 [(0, .ref 0), (2, .int v2)] [] false (mz_k S R N b t) := by
  obtain ⟨n, hn⟩ := hp
  exact g_loop (G := fun s => mz_G (d, mz_X0 L xs, none, [], mk_219, 3, Q) 69 mt_219_69 [(0, .ref 0), (2, .int s.1)] [] false (mz_k S R s.2 b t)) (C := C0) (fun C2 hc hx s hP hC => cb_219_69 hd hS hR  s hr hc hx hP hC) n (v2, N) hn hC
theorem cg_219_51 (hd : 3 ≤ d) (hS : mz_ext S 232) (hR : mz_rok R 232)  (N : mz_N) {C0 : (mz_N) → Prop} (hr : ∀ (N2 : mz_N), C0 N2 → Q (.inl none) (mz_k S R N2 b t)) (hp : cp_219_51 N) (hC : C0 (cf_219_51 N)) : mz_G (d, mz_X0 L xs, none, [], mk_219, 3, Q) 51 mt_219_51 [(0, .ref 0)] [] false (mz_k S R N b t) := by
  unfold cf_219_51 at hC
  unfold cp_219_51 at hp
  refine g_aload_n rfl (g_getR (mz_at hS (Nat.le_of_ble_eq_true rfl) mzcS_0) mzcf_11_3 (mz_rb hR (Nat.le_of_ble_eq_true rfl) rfl mzcR_0_3) (g_aload_n rfl (g_getR (mz_at hS (Nat.le_of_ble_eq_true rfl) mzcS_0) mzcf_11_3 (mz_rb hR (Nat.le_of_ble_eq_true rfl) rfl mzcR_0_3) (g_bipush mzb_10 ?_))))
  obtain ⟨h1, hp⟩ := hp
  refine g_v2v (Nat.le_of_ble_eq_true rfl) (mz_at hS (Nat.le_of_ble_eq_true rfl) mzcS_56) (fun _ hq => cs_227 (Nat.le_trans (Nat.le_of_ble_eq_true rfl) hd) (hS.le (Nat.le_of_ble_eq_true rfl)) (hR.le (Nat.le_of_ble_eq_true rfl))  10 N h1 hq) (g_putZ (z := (cf_227_0 10 N)) (mz_at hS (Nat.le_of_ble_eq_true rfl) mzcS_56) mzcf_9_6 (g_iconst mzi_0 (g_istore_n (Nat.le_of_ble_eq_true rfl) rfl ?_)))
  refine g_weak ?_ (g_cl (cg_219_69 hd hS hR 0 (mz_pI N 56 6 (mz_b01 (cf_227_0 10 N))) hr hp hC))
  exact ⟨rfl, rfl, trivial⟩
theorem cg_219_0 (hd : 3 ≤ d) (hS : mz_ext S 232) (hR : mz_rok R 232)  (v1 : Int32) (N : mz_N) {C0 : (mz_N) → Prop} (hr : ∀ (N2 : mz_N), C0 N2 → Q (.inl none) (mz_k S R N2 b t)) (hp : cp_219_0 v1 N) (hC : C0 (cf_219_0 v1 N)) : mz_G (d, mz_X0 L xs, none, [], mk_219, 3, Q) 0 mk_219 [(0, .ref 0), (1, .int v1)] [] true (mz_k S R N b t) := by
  unfold cf_219_0 at hC
  unfold cp_219_0 at hp
  refine g_aload_n rfl (g_getR (mz_at hS (Nat.le_of_ble_eq_true rfl) mzcS_0) mzcf_11_3 (mz_rb hR (Nat.le_of_ble_eq_true rfl) rfl mzcR_0_3) (g_aload_n rfl (g_getR (mz_at hS (Nat.le_of_ble_eq_true rfl) mzcS_0) mzcf_11_1 (mz_rb hR (Nat.le_of_ble_eq_true rfl) rfl mzcR_0_1) (g_aload_n rfl (g_getR (mz_at hS (Nat.le_of_ble_eq_true rfl) mzcS_0) mzcf_11_10 (mz_rb hR (Nat.le_of_ble_eq_true rfl) rfl mzcR_0_10) (g_iload_n rfl ?_))))))
  obtain ⟨h1, hp⟩ := hp
  refine g_v4n (Nat.le_of_ble_eq_true rfl) (mz_at hS (Nat.le_of_ble_eq_true rfl) mzcS_56) (fun _ hq => cs_220 (Nat.le_trans (Nat.le_of_ble_eq_true rfl) hd) (hS.le (Nat.le_of_ble_eq_true rfl)) (hR.le (Nat.le_of_ble_eq_true rfl))  v1 N h1 hq) (g_aload_n rfl (g_getR (mz_at hS (Nat.le_of_ble_eq_true rfl) mzcS_0) mzcf_11_3 (mz_rb hR (Nat.le_of_ble_eq_true rfl) rfl mzcR_0_3) ?_))
  obtain ⟨h2, hp⟩ := hp
  refine g_getZ (mz_at hS (Nat.le_of_ble_eq_true rfl) mzcS_56) mzcf_9_4 h2 ?_
  refine g_zeq (tg := 36) rfl ms_219_36 hC (fun h3 hC => ?_) (fun h3 hC => ?_)
  · have hp := hp.1 h3
    refine g_aload_n rfl (g_getR (mz_at hS (Nat.le_of_ble_eq_true rfl) mzcS_0) mzcf_11_3 (mz_rb hR (Nat.le_of_ble_eq_true rfl) rfl mzcR_0_3) ?_)
    obtain ⟨h4, hp⟩ := hp
    refine g_v1n (Nat.le_of_ble_eq_true rfl) (mz_at hS (Nat.le_of_ble_eq_true rfl) mzcS_56) (fun _ hq => cs_223 (Nat.le_trans (Nat.le_of_ble_eq_true rfl) hd) (hS.le (Nat.le_of_ble_eq_true rfl)) (hR.le (Nat.le_of_ble_eq_true rfl))  (cf_220_0 v1 N) h4 hq) (g_goto (tg := 51) rfl ms_219_51 ?_)
    refine g_weak ?_ (g_cl (cg_219_51 hd hS hR (cf_223_0 (cf_220_0 v1 N)) hr hp hC))
    exact ⟨rfl, trivial⟩
  · have hp := hp.2 h3
    refine g_aload_n rfl (g_getR (mz_at hS (Nat.le_of_ble_eq_true rfl) mzcS_0) mzcf_11_3 (mz_rb hR (Nat.le_of_ble_eq_true rfl) rfl mzcR_0_3) (g_aload_n rfl (g_getR (mz_at hS (Nat.le_of_ble_eq_true rfl) mzcS_0) mzcf_11_7 (mz_rb hR (Nat.le_of_ble_eq_true rfl) rfl mzcR_0_7) (g_iconst mzi_2 ?_))))
    obtain ⟨h5, hp⟩ := hp
    refine g_v2v (Nat.le_of_ble_eq_true rfl) (mz_at hS (Nat.le_of_ble_eq_true rfl) mzcS_115) (fun _ hq => cs_224 (Nat.le_trans (Nat.le_of_ble_eq_true rfl) hd) (hS.le (Nat.le_of_ble_eq_true rfl)) (hR.le (Nat.le_of_ble_eq_true rfl))  2 (cf_220_0 v1 N) h5 hq) ?_
    obtain ⟨h6, hp⟩ := hp
    refine g_v2n (Nat.le_of_ble_eq_true rfl) (mz_at hS (Nat.le_of_ble_eq_true rfl) mzcS_56) (fun _ hq => cs_225 (Nat.le_trans (Nat.le_of_ble_eq_true rfl) hd) (hS.le (Nat.le_of_ble_eq_true rfl)) (hR.le (Nat.le_of_ble_eq_true rfl))  (cf_224_0 2 (cf_220_0 v1 N)) (cf_220_0 v1 N) h6 hq) ?_
    refine g_weak ?_ (g_cl (cg_219_51 hd hS hR (cf_225_0 (cf_224_0 2 (cf_220_0 v1 N)) (cf_220_0 v1 N)) hr hp hC))
    exact ⟨rfl, trivial⟩
theorem cs_219 (hd : 4 ≤ d) (hS : mz_ext S 232) (hR : mz_rok R 232)  (v1 : Int32) (N : mz_N) (hp : cp_219_0 v1 N) (hq : Q (.inl none) (mz_k S R (cf_219_0 v1 N) b t)) : mz_Ed (mz_X0 L xs) d 219 [.ref 0, .int v1] (mz_k S R N b t) Q :=
  by
  refine g_in mzq_219 (Nat.le_of_ble_eq_true rfl) (Nat.le_of_ble_eq_true rfl) (Nat.le_trans (Nat.le_of_ble_eq_true rfl) hd) ?_
  refine g_weak ?_ (cg_219_0 (d := d - 1) (by omega) hS hR v1 N (C0 := fun z => Q (.inl none) (mz_k S R z b t)) (fun _ h => h) hp hq)
  exact ⟨rfl, rfl, trivial⟩
/-! 231 KeptHouse$Supply.lot (II)I -/
theorem ms_231_0 : mz_sf mk_231 0 = mk_231 := mz_sf_zero _
theorem ms_231_21 : mz_sf mk_231 21 = mt_231_21 := mz_sf_add ms_231_0 (t := 21) rfl rfl
theorem ms_231_43 : mz_sf mk_231 43 = mt_231_43 := mz_sf_add ms_231_21 (t := 22) rfl rfl
set_option maxRecDepth 100000 in
theorem mzq_231 : mz_PG0 231 = some (9, ⟨"KeptHouse$Supply", "lot", "(II)I"⟩, prog_11_method_12_code, 5, some .int, [], mk_231, []) := rfl
theorem cg_231_0 (hd : 0 ≤ d) (hS : mz_ext S 232) (hR : mz_rok R 232)  (v1 : Int32) (v2 : Int32) (N : mz_N) {C0 : (Int32) → Prop} (hr : ∀ (w : Int32), C0 w → Q (.inl (some (.int w))) (mz_k S R N b t)) (hp : cp_231_0 v1 v2 N) (hC : C0 (cf_231_0 v1 v2 N)) : mz_G (d, mz_X0 L xs, some .int, [], mk_231, 5, Q) 0 mk_231 [(0, .ref 56), (1, .int v1), (2, .int v2)] [] true (mz_k S R N b t) := by
  unfold cf_231_0 at hC
  unfold cp_231_0 at hp
  refine g_aload_n rfl (g_getL (mz_at hS (Nat.le_of_ble_eq_true rfl) mzcS_56) mzcf_9_15 (g_con3 (g_con3 (g_iload_n rfl (g_i2l (g_lmul (g_iload_n rfl ?_)))))))
  refine g_i2l (g_ladd (g_lconst mzl_1 (g_ladd (g_lmul (g_ladd (g_lstore_n (Nat.le_of_ble_eq_true rfl) rfl rfl (g_lload_n rfl ?_)))))))
  refine g_lload_n rfl (g_bipush mzb_30 (g_lushr (g_lxor (g_con3 (g_lmul (g_lstore_n (Nat.le_of_ble_eq_true rfl) rfl rfl (g_lload_n rfl ?_)))))))
  refine g_lload_n rfl (g_bipush mzb_27 (g_lushr (g_lxor (g_con3 (g_lmul (g_lstore_n (Nat.le_of_ble_eq_true rfl) rfl rfl (g_lload_n rfl ?_)))))))
  refine g_lload_n rfl (g_bipush mzb_31 (g_lushr (g_lxor (g_lstore_n (Nat.le_of_ble_eq_true rfl) rfl rfl (g_lload_n rfl (g_bipush mzb_33 (g_lushr ?_)))))))
  refine g_con3 (g_lrem (by decide) (g_l2i ?_))
  exact g_iret rfl (hr _ hC)
theorem cs_231 (hd : 1 ≤ d) (hS : mz_ext S 232) (hR : mz_rok R 232)  (v1 : Int32) (v2 : Int32) (N : mz_N) (hp : cp_231_0 v1 v2 N) (hq : Q (.inl (some (.int (cf_231_0 v1 v2 N)))) (mz_k S R N b t)) : mz_Ed (mz_X0 L xs) d 231 [.ref 56, .int v1, .int v2] (mz_k S R N b t) Q :=
  by
  refine g_in mzq_231 (Nat.le_of_ble_eq_true rfl) (Nat.le_of_ble_eq_true rfl) (Nat.le_trans (Nat.le_of_ble_eq_true rfl) hd) ?_
  refine g_weak ?_ (cg_231_0 (d := d - 1) (by omega) hS hR v1 v2 N (C0 := fun z => Q (.inl (some (.int z))) (mz_k S R N b t)) (fun _ h => h) hp hq)
  exact ⟨rfl, rfl, rfl, trivial⟩
/-! 230 KeptHouse$Supply.drawWater (III)I -/
theorem ms_230_0 : mz_sf mk_230 0 = mk_230 := mz_sf_zero _
theorem ms_230_23 : mz_sf mk_230 23 = mt_230_23 := mz_sf_add ms_230_0 (t := 23) rfl rfl
theorem ms_230_25 : mz_sf mk_230 25 = mt_230_25 := mz_sf_add ms_230_23 (t := 2) rfl rfl
theorem ms_230_53 : mz_sf mk_230 53 = mt_230_53 := mz_sf_add ms_230_25 (t := 28) rfl rfl
theorem ms_230_79 : mz_sf mk_230 79 = mt_230_79 := mz_sf_add ms_230_53 (t := 26) rfl rfl
theorem ms_230_83 : mz_sf mk_230 83 = mt_230_83 := mz_sf_add ms_230_79 (t := 4) rfl rfl
theorem ms_230_84 : mz_sf mk_230 84 = mt_230_84 := mz_sf_add ms_230_83 (t := 1) rfl rfl
theorem ms_230_120 : mz_sf mk_230 120 = mt_230_120 := mz_sf_add ms_230_84 (t := 36) rfl rfl
set_option maxRecDepth 100000 in
theorem mzq_230 : mz_PG0 230 = some (9, ⟨"KeptHouse$Supply", "drawWater", "(III)I"⟩, prog_11_method_13_code, 6, some .int, [], mk_230, []) := rfl
theorem cg_230_120 (hd : 1 ≤ d) (hS : mz_ext S 232) (hR : mz_rok R 232)  (v5 : Int32) (N : mz_N) {C0 : (Int32 × mz_N) → Prop} (hr : ∀ (w : Int32) (N2 : mz_N), C0 (w, N2) → Q (.inl (some (.int w))) (mz_k S R N2 b t)) (hp : cp_230_120 v5 N) (hC : C0 (cf_230_120 v5 N)) : mz_G (d, mz_X0 L xs, some .int, [], mk_230, 6, Q) 120 mt_230_120 [(5, .int v5)] [] false (mz_k S R N b t) := by
  unfold cf_230_120 at hC
  unfold cp_230_120 at hp
  refine g_iload rfl ?_
  exact g_iret rfl (hr _ _ hC)
theorem cg_230_84 (hd : 1 ≤ d) (hS : mz_ext S 232) (hR : mz_rok R 232)  (s1 : Bool) (v1 : Int32) (v5 : Int32) (N : mz_N) {C0 : (Int32 × mz_N) → Prop} (hr : ∀ (w : Int32) (N2 : mz_N), C0 (w, N2) → Q (.inl (some (.int w))) (mz_k S R N2 b t)) (hp : cp_230_84 s1 v1 v5 N) (hC : C0 (cf_230_84 s1 v1 v5 N)) : mz_G (d, mz_X0 L xs, some .int, [], mk_230, 6, Q) 84 mt_230_84 [(0, .ref 56), (1, .int v1), (5, .int v5)] [.int (mz_b01 s1), .ref 56] false (mz_k S R N b t) := by
  unfold cf_230_84 at hC
  unfold cp_230_84 at hp
  refine g_putZ (z := s1) (mz_at hS (Nat.le_of_ble_eq_true rfl) mzcS_56) mzcf_9_10 (g_aload_n rfl (g_dup rfl (g_getI (mz_at hS (Nat.le_of_ble_eq_true rfl) mzcS_56) mzcf_9_7 (g_iload rfl (g_isub (g_putI (mz_at hS (Nat.le_of_ble_eq_true rfl) mzcS_56) mzcf_9_7 (g_aload_n rfl ?_)))))))
  refine g_iconst mzi_0 (g_aload_n rfl (g_getI (mz_at hS (Nat.le_of_ble_eq_true rfl) mzcS_56) mzcf_9_11 (g_bipush mzb_40 (g_aload_n rfl (g_getR (mz_at hS (Nat.le_of_ble_eq_true rfl) mzcS_56) mzcf_9_14 (mz_rb hR (Nat.le_of_ble_eq_true rfl) rfl mzcR_56_14) (g_iload_n rfl ?_))))))
  obtain ⟨h1, hp⟩ := hp
  refine g_iald hS.1 (mz_at hS (Nat.le_of_ble_eq_true rfl) mzcS_64) h1 (g_imul (g_isub (g_imax (Nat.le_of_ble_eq_true rfl) (g_putI (mz_at hS (Nat.le_of_ble_eq_true rfl) mzcS_56) mzcf_9_11 ?_))))
  refine g_weak ?_ (g_cl (cg_230_120 hd hS hR v5 (mz_pI (mz_pI (mz_pI N 56 10 (mz_b01 s1)) 56 7 (((mz_pI N 56 10 (mz_b01 s1)).1 56 7) - v5)) 56 11 (mz_imax 0 (((mz_pI (mz_pI N 56 10 (mz_b01 s1)) 56 7 (((mz_pI N 56 10 (mz_b01 s1)).1 56 7) - v5)).1 56 11) - (40 * (mz_gI (mz_pI (mz_pI N 56 10 (mz_b01 s1)) 56 7 (((mz_pI N 56 10 (mz_b01 s1)).1 56 7) - v5)) 64 v1))))) hr hp hC))
  exact ⟨rfl, trivial⟩
theorem cg_230_79 (hd : 1 ≤ d) (hS : mz_ext S 232) (hR : mz_rok R 232)  (v1 : Int32) (v5 : Int32) (N : mz_N) {C0 : (Int32 × mz_N) → Prop} (hr : ∀ (w : Int32) (N2 : mz_N), C0 (w, N2) → Q (.inl (some (.int w))) (mz_k S R N2 b t)) (hp : cp_230_79 v1 v5 N) (hC : C0 (cf_230_79 v1 v5 N)) : mz_G (d, mz_X0 L xs, some .int, [], mk_230, 6, Q) 79 mt_230_79 [(0, .ref 56), (1, .int v1), (5, .int v5)] [.ref 56] false (mz_k S R N b t) := by
  unfold cf_230_79 at hC
  unfold cp_230_79 at hp
  refine g_iconst mzi_1 (g_goto (tg := 84) rfl ms_230_84 ?_)
  refine g_weak ?_ (g_cl (cg_230_84 hd hS hR true v1 v5 N hr hp hC))
  exact ⟨rfl, rfl, rfl, trivial⟩
theorem cg_230_53 (hd : 1 ≤ d) (hS : mz_ext S 232) (hR : mz_rok R 232)  (v1 : Int32) (v4 : Int32) (N : mz_N) {C0 : (Int32 × mz_N) → Prop} (hr : ∀ (w : Int32) (N2 : mz_N), C0 (w, N2) → Q (.inl (some (.int w))) (mz_k S R N2 b t)) (hp : cp_230_53 v1 v4 N) (hC : C0 (cf_230_53 v1 v4 N)) : mz_G (d, mz_X0 L xs, some .int, [], mk_230, 6, Q) 53 mt_230_53 [(0, .ref 56), (1, .int v1), (4, .int v4)] [] false (mz_k S R N b t) := by
  unfold cf_230_53 at hC
  unfold cp_230_53 at hp
  refine g_iload rfl (g_aload_n rfl (g_getR (mz_at hS (Nat.le_of_ble_eq_true rfl) mzcS_56) mzcf_9_14 (mz_rb hR (Nat.le_of_ble_eq_true rfl) rfl mzcR_56_14) (g_iload_n rfl ?_)))
  obtain ⟨h1, hp⟩ := hp
  refine g_iald hS.1 (mz_at hS (Nat.le_of_ble_eq_true rfl) mzcS_64) h1 (g_iadd (g_istore (Nat.le_of_ble_eq_true rfl) rfl (g_aload_n rfl (g_aload_n rfl ?_))))
  obtain ⟨h2, hp⟩ := hp
  refine g_getZ (mz_at hS (Nat.le_of_ble_eq_true rfl) mzcS_56) mzcf_9_10 h2 ?_
  refine g_zne (tg := 79) rfl ms_230_79 hC (fun h3 hC => ?_) (fun h3 hC => ?_)
  · have hp := hp.1 h3
    refine g_weak ?_ (g_cl (cg_230_79 hd hS hR v1 (v4 + (mz_gI N 64 v1)) N hr hp hC))
    exact ⟨rfl, rfl, rfl, trivial⟩
  · have hp := hp.2 h3
    refine g_iload rfl (g_bipush mzb_10 ?_)
    refine g_icge (tg := 83) rfl ms_230_83 hC (fun h4 hC => ?_) (fun h4 hC => ?_)
    · have hp := hp.1 h4
      refine g_weak ?_ (g_cl (cg_230_79 hd hS hR v1 (v4 + (mz_gI N 64 v1)) N hr hp hC))
      exact ⟨rfl, rfl, rfl, trivial⟩
    · have hp := hp.2 h4
      refine g_iconst mzi_0 ?_
      refine g_weak ?_ (g_cl (cg_230_84 hd hS hR false v1 (v4 + (mz_gI N 64 v1)) N hr hp hC))
      exact ⟨rfl, rfl, rfl, trivial⟩
theorem cg_230_0 (hd : 1 ≤ d) (hS : mz_ext S 232) (hR : mz_rok R 232)  (v1 : Int32) (v2 : Int32) (v3 : Int32) (N : mz_N) {C0 : (Int32 × mz_N) → Prop} (hr : ∀ (w : Int32) (N2 : mz_N), C0 (w, N2) → Q (.inl (some (.int w))) (mz_k S R N2 b t)) (hp : cp_230_0 v1 v2 v3 N) (hC : C0 (cf_230_0 v1 v2 v3 N)) : mz_G (d, mz_X0 L xs, some .int, [], mk_230, 6, Q) 0 mk_230 [(0, .ref 56), (1, .int v1), (2, .int v2), (3, .int v3)] [] true (mz_k S R N b t) := by
  unfold cf_230_0 at hC
  unfold cp_230_0 at hp
  refine g_aload_n rfl (g_getR (mz_at hS (Nat.le_of_ble_eq_true rfl) mzcS_56) mzcf_9_14 (mz_rb hR (Nat.le_of_ble_eq_true rfl) rfl mzcR_56_14) (g_iload_n rfl (g_iconst mzi_0 ?_)))
  obtain ⟨h1, hp⟩ := hp
  refine g_iast (mz_at hS (Nat.le_of_ble_eq_true rfl) mzcS_64) h1 (g_iload_n rfl ?_)
  refine g_ifeq (tg := 23) rfl ms_230_23 hC (fun h2 hC => ?_) (fun h2 hC => ?_)
  · have hp := hp.1 h2
    refine g_iconst mzi_0 ?_
    exact g_iret rfl (hr _ _ hC)
  · have hp := hp.2 h2
    refine g_aload_n rfl (g_iload_n rfl (g_iload_n rfl ?_))
    refine g_v3v (Nat.le_of_ble_eq_true rfl) (mz_at hS (Nat.le_of_ble_eq_true rfl) mzcS_56) (fun _ hq => cs_231 (Nat.le_trans (Nat.le_of_ble_eq_true rfl) hd) (hS.le (Nat.le_of_ble_eq_true rfl)) (hR.le (Nat.le_of_ble_eq_true rfl))  v3 v1 (mz_wI N 64 v1 0) trivial hq) (g_iconst mzi_4 (g_iload_n rfl (g_imul ?_)))
    refine g_iclt (tg := 25) rfl ms_230_25 hC (fun h4 hC => ?_) (fun h4 hC => ?_)
    · have hp := hp.1 h4
      refine g_bipush mzb_6 (g_aload_n rfl (g_getI (mz_at hS (Nat.le_of_ble_eq_true rfl) mzcS_56) mzcf_9_7 (g_imin (Nat.le_of_ble_eq_true rfl) (g_istore (Nat.le_of_ble_eq_true rfl) rfl (g_aload_n rfl (g_getR (mz_at hS (Nat.le_of_ble_eq_true rfl) mzcS_56) mzcf_9_14 (mz_rb hR (Nat.le_of_ble_eq_true rfl) rfl mzcR_56_14) (g_iload_n rfl ?_)))))))
      refine g_iconst mzi_4 (g_aload_n rfl (g_getI (mz_at hS (Nat.le_of_ble_eq_true rfl) mzcS_56) mzcf_9_7 (g_iload rfl (g_isub (g_imin (Nat.le_of_ble_eq_true rfl) ?_)))))
      obtain ⟨h5, hp⟩ := hp
      refine g_iast (mz_at hS (Nat.le_of_ble_eq_true rfl) mzcS_64) h5 ?_
      refine g_weak ?_ (g_cl (cg_230_53 hd hS hR v1 (mz_imin 6 ((mz_wI N 64 v1 0).1 56 7)) (mz_wI (mz_wI N 64 v1 0) 64 v1 (mz_imin 4 (((mz_wI N 64 v1 0).1 56 7) - (mz_imin 6 ((mz_wI N 64 v1 0).1 56 7))))) hr hp hC))
      exact ⟨rfl, rfl, rfl, trivial⟩
    · have hp := hp.2 h4
      refine g_iconst mzi_0 ?_
      exact g_iret rfl (hr _ _ hC)
theorem cs_230 (hd : 2 ≤ d) (hS : mz_ext S 232) (hR : mz_rok R 232)  (v1 : Int32) (v2 : Int32) (v3 : Int32) (N : mz_N) (hp : cp_230_0 v1 v2 v3 N) (hq : Q (.inl (some (.int ((cf_230_0 v1 v2 v3 N).1)))) (mz_k S R ((cf_230_0 v1 v2 v3 N).2) b t)) : mz_Ed (mz_X0 L xs) d 230 [.ref 56, .int v1, .int v2, .int v3] (mz_k S R N b t) Q :=
  by
  refine g_in mzq_230 (Nat.le_of_ble_eq_true rfl) (Nat.le_of_ble_eq_true rfl) (Nat.le_trans (Nat.le_of_ble_eq_true rfl) hd) ?_
  refine g_weak ?_ (cg_230_0 (d := d - 1) (by omega) hS hR v1 v2 v3 N (C0 := fun z => Q (.inl (some (.int z.1))) (mz_k S R z.2 b t)) (fun _ _ h => h) hp hq)
  exact ⟨rfl, rfl, rfl, rfl, trivial⟩
/-! 232 KeptHouse$Supply.pumpUp (Z)V -/
theorem ms_232_0 : mz_sf mk_232 0 = mk_232 := mz_sf_zero _
theorem ms_232_18 : mz_sf mk_232 18 = mt_232_18 := mz_sf_add ms_232_0 (t := 18) rfl rfl
theorem ms_232_22 : mz_sf mk_232 22 = mt_232_22 := mz_sf_add ms_232_18 (t := 4) rfl rfl
theorem ms_232_23 : mz_sf mk_232 23 = mt_232_23 := mz_sf_add ms_232_22 (t := 1) rfl rfl
theorem ms_232_49 : mz_sf mk_232 49 = mt_232_49 := mz_sf_add ms_232_23 (t := 26) rfl rfl
theorem ms_232_50 : mz_sf mk_232 50 = mt_232_50 := mz_sf_add ms_232_49 (t := 1) rfl rfl
theorem ms_232_77 : mz_sf mk_232 77 = mt_232_77 := mz_sf_add ms_232_50 (t := 27) rfl rfl
theorem ms_232_92 : mz_sf mk_232 92 = mt_232_92 := mz_sf_add ms_232_77 (t := 15) rfl rfl
theorem ms_232_93 : mz_sf mk_232 93 = mt_232_93 := mz_sf_add ms_232_92 (t := 1) rfl rfl
theorem ms_232_96 : mz_sf mk_232 96 = mt_232_96 := mz_sf_add ms_232_93 (t := 3) rfl rfl
set_option maxRecDepth 100000 in
theorem mzq_232 : mz_PG0 232 = some (9, ⟨"KeptHouse$Supply", "pumpUp", "(Z)V"⟩, prog_11_method_14_code, 2, none, [], mk_232, []) := rfl
theorem cg_232_93 (hd : 0 ≤ d) (hS : mz_ext S 232) (hR : mz_rok R 232)  (s1 : Bool) (N : mz_N) {C0 : (mz_N) → Prop} (hr : ∀ (N2 : mz_N), C0 N2 → Q (.inl none) (mz_k S R N2 b t)) (hp : cp_232_93 s1 N) (hC : C0 (cf_232_93 s1 N)) : mz_G (d, mz_X0 L xs, none, [], mk_232, 2, Q) 93 mt_232_93 [] [.int (mz_b01 s1), .ref 56] false (mz_k S R N b t) := by
  unfold cf_232_93 at hC
  unfold cp_232_93 at hp
  refine g_putZ (z := s1) (mz_at hS (Nat.le_of_ble_eq_true rfl) mzcS_56) mzcf_9_8 ?_
  exact g_vret rfl (hr _ hC)
theorem cg_232_77 (hd : 0 ≤ d) (hS : mz_ext S 232) (hR : mz_rok R 232)  (N : mz_N) {C0 : (mz_N) → Prop} (hr : ∀ (N2 : mz_N), C0 N2 → Q (.inl none) (mz_k S R N2 b t)) (hp : cp_232_77 N) (hC : C0 (cf_232_77 N)) : mz_G (d, mz_X0 L xs, none, [], mk_232, 2, Q) 77 mt_232_77 [(0, .ref 56)] [] false (mz_k S R N b t) := by
  unfold cf_232_77 at hC
  unfold cp_232_77 at hp
  refine g_aload_n rfl (g_aload_n rfl (g_getI (mz_at hS (Nat.le_of_ble_eq_true rfl) mzcS_56) mzcf_9_7 (g_sipush mzs_2000 ?_)))
  refine g_icge (tg := 92) rfl ms_232_92 hC (fun h1 hC => ?_) (fun h1 hC => ?_)
  · have hp := hp.1 h1
    refine g_iconst mzi_1 (g_goto (tg := 93) rfl ms_232_93 ?_)
    refine g_weak ?_ (g_cl (cg_232_93 hd hS hR true N hr hp hC))
    exact trivial
  · have hp := hp.2 h1
    refine g_iconst mzi_0 ?_
    refine g_weak ?_ (g_cl (cg_232_93 hd hS hR false N hr hp hC))
    exact trivial
theorem cg_232_50 (hd : 0 ≤ d) (hS : mz_ext S 232) (hR : mz_rok R 232)  (s1 : Bool) (N : mz_N) {C0 : (mz_N) → Prop} (hr : ∀ (N2 : mz_N), C0 N2 → Q (.inl none) (mz_k S R N2 b t)) (hp : cp_232_50 s1 N) (hC : C0 (cf_232_50 s1 N)) : mz_G (d, mz_X0 L xs, none, [], mk_232, 2, Q) 50 mt_232_50 [(0, .ref 56)] [.int (mz_b01 s1), .ref 56] false (mz_k S R N b t) := by
  unfold cf_232_50 at hC
  unfold cp_232_50 at hp
  refine g_putZ (z := s1) (mz_at hS (Nat.le_of_ble_eq_true rfl) mzcS_56) mzcf_9_9 (g_aload_n rfl ?_)
  obtain ⟨h1, hp⟩ := hp
  refine g_getZ (mz_at hS (Nat.le_of_ble_eq_true rfl) mzcS_56) mzcf_9_9 h1 ?_
  refine g_zeq (tg := 96) rfl ms_232_96 hC (fun h2 hC => ?_) (fun h2 hC => ?_)
  · have hp := hp.1 h2
    refine g_aload_n rfl (g_sipush mzs_2000 (g_aload_n rfl (g_getI (mz_at hS (Nat.le_of_ble_eq_true rfl) mzcS_56) mzcf_9_7 (g_bipush mzb_60 (g_iadd (g_imin (Nat.le_of_ble_eq_true rfl) (g_putI (mz_at hS (Nat.le_of_ble_eq_true rfl) mzcS_56) mzcf_9_7 ?_)))))))
    refine g_weak ?_ (g_cl (cg_232_77 hd hS hR (mz_pI (mz_pI N 56 9 (mz_b01 s1)) 56 7 (mz_imin 2000 (((mz_pI N 56 9 (mz_b01 s1)).1 56 7) + 60))) hr hp hC))
    exact ⟨rfl, trivial⟩
  · have hp := hp.2 h2
    exact g_vret rfl (hr _ hC)
theorem cg_232_49 (hd : 0 ≤ d) (hS : mz_ext S 232) (hR : mz_rok R 232)  (N : mz_N) {C0 : (mz_N) → Prop} (hr : ∀ (N2 : mz_N), C0 N2 → Q (.inl none) (mz_k S R N2 b t)) (hp : cp_232_49 N) (hC : C0 (cf_232_49 N)) : mz_G (d, mz_X0 L xs, none, [], mk_232, 2, Q) 49 mt_232_49 [(0, .ref 56)] [.ref 56] false (mz_k S R N b t) := by
  unfold cf_232_49 at hC
  unfold cp_232_49 at hp
  refine g_iconst mzi_0 ?_
  refine g_weak ?_ (g_cl (cg_232_50 hd hS hR false N hr hp hC))
  exact ⟨rfl, trivial⟩
theorem cg_232_23 (hd : 0 ≤ d) (hS : mz_ext S 232) (hR : mz_rok R 232)  (s1 : Bool) (v1 : Bool) (N : mz_N) {C0 : (mz_N) → Prop} (hr : ∀ (N2 : mz_N), C0 N2 → Q (.inl none) (mz_k S R N2 b t)) (hp : cp_232_23 s1 v1 N) (hC : C0 (cf_232_23 s1 v1 N)) : mz_G (d, mz_X0 L xs, none, [], mk_232, 2, Q) 23 mt_232_23 [(0, .ref 56), (1, .int (mz_b01 v1))] [.int (mz_b01 s1), .ref 56] false (mz_k S R N b t) := by
  unfold cf_232_23 at hC
  unfold cp_232_23 at hp
  refine g_putZ (z := s1) (mz_at hS (Nat.le_of_ble_eq_true rfl) mzcS_56) mzcf_9_8 (g_aload_n rfl (g_aload_n rfl ?_))
  obtain ⟨h1, hp⟩ := hp
  refine g_getZ (mz_at hS (Nat.le_of_ble_eq_true rfl) mzcS_56) mzcf_9_8 h1 ?_
  refine g_zeq (tg := 49) rfl ms_232_49 hC (fun h2 hC => ?_) (fun h2 hC => ?_)
  · have hp := hp.1 h2
    refine g_iload_n rfl ?_
    refine g_zeq (tg := 49) rfl ms_232_49 hC (fun h3 hC => ?_) (fun h3 hC => ?_)
    · have hp := hp.1 h3
      refine g_aload_n rfl ?_
      obtain ⟨h4, hp⟩ := hp
      refine g_getZ (mz_at hS (Nat.le_of_ble_eq_true rfl) mzcS_56) mzcf_9_6 h4 ?_
      refine g_zeq (tg := 49) rfl ms_232_49 hC (fun h5 hC => ?_) (fun h5 hC => ?_)
      · have hp := hp.1 h5
        refine g_iconst mzi_1 (g_goto (tg := 50) rfl ms_232_50 ?_)
        refine g_weak ?_ (g_cl (cg_232_50 hd hS hR true (mz_pI N 56 8 (mz_b01 s1)) hr hp hC))
        exact ⟨rfl, trivial⟩
      · have hp := hp.2 h5
        refine g_weak ?_ (g_cl (cg_232_49 hd hS hR (mz_pI N 56 8 (mz_b01 s1)) hr hp hC))
        exact ⟨rfl, trivial⟩
    · have hp := hp.2 h3
      refine g_weak ?_ (g_cl (cg_232_49 hd hS hR (mz_pI N 56 8 (mz_b01 s1)) hr hp hC))
      exact ⟨rfl, trivial⟩
  · have hp := hp.2 h2
    refine g_weak ?_ (g_cl (cg_232_49 hd hS hR (mz_pI N 56 8 (mz_b01 s1)) hr hp hC))
    exact ⟨rfl, trivial⟩
theorem cg_232_18 (hd : 0 ≤ d) (hS : mz_ext S 232) (hR : mz_rok R 232)  (v1 : Bool) (N : mz_N) {C0 : (mz_N) → Prop} (hr : ∀ (N2 : mz_N), C0 N2 → Q (.inl none) (mz_k S R N2 b t)) (hp : cp_232_18 v1 N) (hC : C0 (cf_232_18 v1 N)) : mz_G (d, mz_X0 L xs, none, [], mk_232, 2, Q) 18 mt_232_18 [(0, .ref 56), (1, .int (mz_b01 v1))] [.ref 56] false (mz_k S R N b t) := by
  unfold cf_232_18 at hC
  unfold cp_232_18 at hp
  refine g_iconst mzi_1 (g_goto (tg := 23) rfl ms_232_23 ?_)
  refine g_weak ?_ (g_cl (cg_232_23 hd hS hR true v1 N hr hp hC))
  exact ⟨rfl, rfl, trivial⟩
theorem cg_232_0 (hd : 0 ≤ d) (hS : mz_ext S 232) (hR : mz_rok R 232)  (v1 : Bool) (N : mz_N) {C0 : (mz_N) → Prop} (hr : ∀ (N2 : mz_N), C0 N2 → Q (.inl none) (mz_k S R N2 b t)) (hp : cp_232_0 v1 N) (hC : C0 (cf_232_0 v1 N)) : mz_G (d, mz_X0 L xs, none, [], mk_232, 2, Q) 0 mk_232 [(0, .ref 56), (1, .int (mz_b01 v1))] [] true (mz_k S R N b t) := by
  unfold cf_232_0 at hC
  unfold cp_232_0 at hp
  refine g_aload_n rfl (g_aload_n rfl ?_)
  obtain ⟨h1, hp⟩ := hp
  refine g_getZ (mz_at hS (Nat.le_of_ble_eq_true rfl) mzcS_56) mzcf_9_8 h1 ?_
  refine g_zne (tg := 18) rfl ms_232_18 hC (fun h2 hC => ?_) (fun h2 hC => ?_)
  · have hp := hp.1 h2
    refine g_weak ?_ (g_cl (cg_232_18 hd hS hR v1 N hr hp hC))
    exact ⟨rfl, rfl, trivial⟩
  · have hp := hp.2 h2
    refine g_aload_n rfl (g_getI (mz_at hS (Nat.le_of_ble_eq_true rfl) mzcS_56) mzcf_9_7 (g_sipush mzs_500 ?_))
    refine g_icge (tg := 22) rfl ms_232_22 hC (fun h3 hC => ?_) (fun h3 hC => ?_)
    · have hp := hp.1 h3
      refine g_weak ?_ (g_cl (cg_232_18 hd hS hR v1 N hr hp hC))
      exact ⟨rfl, rfl, trivial⟩
    · have hp := hp.2 h3
      refine g_iconst mzi_0 ?_
      refine g_weak ?_ (g_cl (cg_232_23 hd hS hR false v1 N hr hp hC))
      exact ⟨rfl, rfl, trivial⟩
theorem cs_232 (hd : 1 ≤ d) (hS : mz_ext S 232) (hR : mz_rok R 232)  (v1 : Bool) (N : mz_N) (hp : cp_232_0 v1 N) (hq : Q (.inl none) (mz_k S R (cf_232_0 v1 N) b t)) : mz_Ed (mz_X0 L xs) d 232 [.ref 56, .int (mz_b01 v1)] (mz_k S R N b t) Q :=
  by
  refine g_in mzq_232 (Nat.le_of_ble_eq_true rfl) (Nat.le_of_ble_eq_true rfl) (Nat.le_trans (Nat.le_of_ble_eq_true rfl) hd) ?_
  refine g_weak ?_ (cg_232_0 (d := d - 1) (by omega) hS hR v1 N (C0 := fun z => Q (.inl none) (mz_k S R z b t)) (fun _ h => h) hp hq)
  exact ⟨rfl, rfl, trivial⟩
/-! 229 KeptHouse.supplyWater (I)V -/
theorem ms_229_0 : mz_sf mk_229 0 = mk_229 := mz_sf_zero _
theorem ms_229_10 : mz_sf mk_229 10 = mt_229_10 := mz_sf_add ms_229_0 (t := 10) rfl rfl
theorem ms_229_54 : mz_sf mk_229 54 = mt_229_54 := mz_sf_add ms_229_10 (t := 44) rfl rfl
theorem ms_229_60 : mz_sf mk_229 60 = mt_229_60 := mz_sf_add ms_229_54 (t := 6) rfl rfl
theorem ms_229_90 : mz_sf mk_229 90 = mt_229_90 := mz_sf_add ms_229_60 (t := 30) rfl rfl
theorem ms_229_91 : mz_sf mk_229 91 = mt_229_91 := mz_sf_add ms_229_90 (t := 1) rfl rfl
theorem ms_229_123 : mz_sf mk_229 123 = mt_229_123 := mz_sf_add ms_229_91 (t := 32) rfl rfl
theorem ms_229_124 : mz_sf mk_229 124 = mt_229_124 := mz_sf_add ms_229_123 (t := 1) rfl rfl
set_option maxRecDepth 100000 in
theorem mzq_229 : mz_PG0 229 = some (11, ⟨"KeptHouse", "supplyWater", "(I)V"⟩, prog_1_method_78_code, 3, none, [], mk_229, []) := rfl
theorem cg_229_124 (hd : 2 ≤ d) (hS : mz_ext S 232) (hR : mz_rok R 232)  (s1 : Int32) (N : mz_N) {C0 : (mz_N) → Prop} (hr : ∀ (N2 : mz_N), C0 N2 → Q (.inl none) (mz_k S R N2 b t)) (hp : cp_229_124 s1 N) (hC : C0 (cf_229_124 s1 N)) : mz_G (d, mz_X0 L xs, none, [], mk_229, 3, Q) 124 mt_229_124 [] [.int s1, .ref 56] false (mz_k S R N b t) := by
  unfold cf_229_124 at hC
  unfold cp_229_124 at hp
  refine g_putI (mz_at hS (Nat.le_of_ble_eq_true rfl) mzcS_56) mzcf_9_12 ?_
  exact g_vret rfl (hr _ hC)
theorem cg_229_91 (hd : 2 ≤ d) (hS : mz_ext S 232) (hR : mz_rok R 232)  (s1 : Bool) (N : mz_N) {C0 : (mz_N) → Prop} (hr : ∀ (N2 : mz_N), C0 N2 → Q (.inl none) (mz_k S R N2 b t)) (hp : cp_229_91 s1 N) (hC : C0 (cf_229_91 s1 N)) : mz_G (d, mz_X0 L xs, none, [], mk_229, 3, Q) 91 mt_229_91 [(0, .ref 0)] [.int (mz_b01 s1), .ref 56] false (mz_k S R N b t) := by
  unfold cf_229_91 at hC
  unfold cp_229_91 at hp
  obtain ⟨h1, hp⟩ := hp
  refine g_v2n (Nat.le_of_ble_eq_true rfl) (mz_at hS (Nat.le_of_ble_eq_true rfl) mzcS_56) (fun _ hq => cs_232 (Nat.le_trans (Nat.le_of_ble_eq_true rfl) hd) (hS.le (Nat.le_of_ble_eq_true rfl)) (hR.le (Nat.le_of_ble_eq_true rfl))  s1 N h1 hq) (g_aload_n rfl (g_getR (mz_at hS (Nat.le_of_ble_eq_true rfl) mzcS_0) mzcf_11_3 (mz_rb hR (Nat.le_of_ble_eq_true rfl) rfl mzcR_0_3) (g_aload_n rfl (g_getR (mz_at hS (Nat.le_of_ble_eq_true rfl) mzcS_0) mzcf_11_3 (mz_rb hR (Nat.le_of_ble_eq_true rfl) rfl mzcR_0_3) (g_getI (mz_at hS (Nat.le_of_ble_eq_true rfl) mzcS_56) mzcf_9_11 (g_sipush mzs_5000 ?_))))))
  refine g_icge (tg := 123) rfl ms_229_123 hC (fun h2 hC => ?_) (fun h2 hC => ?_)
  · have hp := hp.1 h2
    refine g_aload_n rfl (g_getR (mz_at hS (Nat.le_of_ble_eq_true rfl) mzcS_0) mzcf_11_3 (mz_rb hR (Nat.le_of_ble_eq_true rfl) rfl mzcR_0_3) (g_getI (mz_at hS (Nat.le_of_ble_eq_true rfl) mzcS_56) mzcf_9_12 (g_iconst mzi_1 (g_iadd (g_goto (tg := 124) rfl ms_229_124 ?_)))))
    refine g_weak ?_ (g_cl (cg_229_124 hd hS hR (((cf_232_0 s1 N).1 56 12) + 1) (cf_232_0 s1 N) hr hp hC))
    exact trivial
  · have hp := hp.2 h2
    refine g_iconst mzi_0 ?_
    refine g_weak ?_ (g_cl (cg_229_124 hd hS hR 0 (cf_232_0 s1 N) hr hp hC))
    exact trivial
theorem cg_229_90 (hd : 2 ≤ d) (hS : mz_ext S 232) (hR : mz_rok R 232)  (N : mz_N) {C0 : (mz_N) → Prop} (hr : ∀ (N2 : mz_N), C0 N2 → Q (.inl none) (mz_k S R N2 b t)) (hp : cp_229_90 N) (hC : C0 (cf_229_90 N)) : mz_G (d, mz_X0 L xs, none, [], mk_229, 3, Q) 90 mt_229_90 [(0, .ref 0)] [.ref 56] false (mz_k S R N b t) := by
  unfold cf_229_90 at hC
  unfold cp_229_90 at hp
  refine g_iconst mzi_0 ?_
  refine g_weak ?_ (g_cl (cg_229_91 hd hS hR false N hr hp hC))
  exact ⟨rfl, trivial⟩
theorem cg_229_54 (hd : 2 ≤ d) (hS : mz_ext S 232) (hR : mz_rok R 232)  (v1 : Int32) (v2 : Int32) (N : mz_N) {C0 : (mz_N) → Prop} (hr : ∀ (N2 : mz_N), C0 N2 → Q (.inl none) (mz_k S R N2 b t)) {C1 : ((Int32 × mz_N) ⊕ (mz_N)) → Prop} (hc1 : ∀ s2, C1 (.inl s2) → mz_G (d, mz_X0 L xs, none, [], mk_229, 3, Q) 10 mt_229_10 [(0, .ref 0), (1, .int v1), (2, .int s2.1)] [] false (mz_k S R s2.2 b t)) (hx1 : ∀ z, C1 (.inr z) → C0 z) (hp : cp_229_54 v1 v2 N) (hC : C1 (cf_229_54 v1 v2 N)) : mz_G (d, mz_X0 L xs, none, [], mk_229, 3, Q) 54 mt_229_54 [(0, .ref 0), (1, .int v1), (2, .int v2)] [] false (mz_k S R N b t) := by
  unfold cf_229_54 at hC
  unfold cp_229_54 at hp
  refine g_iinc rfl mzi_1 (Nat.le_of_ble_eq_true rfl) rfl (g_goto (tg := 10) rfl ms_229_10 ?_)
  refine g_weak ?_ (g_cl (hc1 ((v2 + 1), N) hC))
  exact ⟨rfl, rfl, rfl, trivial⟩
theorem cb_229_10 (hd : 2 ≤ d) (hS : mz_ext S 232) (hR : mz_rok R 232)  (v1 : Int32) (s : Int32 × mz_N) {C0 : (mz_N) → Prop} (hr : ∀ (N2 : mz_N), C0 N2 → Q (.inl none) (mz_k S R N2 b t)) {C1 : ((Int32 × mz_N) ⊕ (mz_N)) → Prop} (hc1 : ∀ s2, C1 (.inl s2) → mz_G (d, mz_X0 L xs, none, [], mk_229, 3, Q) 10 mt_229_10 [(0, .ref 0), (1, .int v1), (2, .int s2.1)] [] false (mz_k S R s2.2 b t)) (hx1 : ∀ z, C1 (.inr z) → C0 z) (hp : cd_229_10 v1 s) (hC : C1 (cq_229_10 v1 s)) : mz_G (d, mz_X0 L xs, none, [], mk_229, 3, Q) 10 mt_229_10 [(0, .ref 0), (1, .int v1), (2, .int s.1)] [] false (mz_k S R s.2 b t) := by
  unfold cq_229_10 at hC
  unfold cd_229_10 at hp
  refine g_iload_n rfl (g_bipush mzb_10 ?_)
  refine g_icge (tg := 60) rfl ms_229_60 hC (fun h1 hC => ?_) (fun h1 hC => ?_)
  · have hp := hp.1 h1
    refine g_aload_n rfl (g_getR (mz_at hS (Nat.le_of_ble_eq_true rfl) mzcS_0) mzcf_11_8 (mz_rb hR (Nat.le_of_ble_eq_true rfl) rfl mzcR_0_8) (g_getR (mz_at hS (Nat.le_of_ble_eq_true rfl) mzcS_208) mzcf_1_5 (mz_rb hR (Nat.le_of_ble_eq_true rfl) rfl mzcR_208_5) (g_iconst mzi_2 (g_aald4 (m := 212) (mz_at hS (Nat.le_of_ble_eq_true rfl) mzcS_209) (mz_ibd (by decide)) (mz_rb hR (Nat.le_of_ble_eq_true rfl) rfl mzcRr_209_2) (g_iload_n rfl (g_dup2 rfl rfl ?_))))))
    obtain ⟨h2, hp⟩ := hp
    refine g_iald hS.1 (mz_at hS (Nat.le_of_ble_eq_true rfl) mzcS_212) h2 (g_aload_n rfl (g_getR (mz_at hS (Nat.le_of_ble_eq_true rfl) mzcS_0) mzcf_11_3 (mz_rb hR (Nat.le_of_ble_eq_true rfl) rfl mzcR_0_3) (g_iload_n rfl (g_aload_n rfl (g_getR (mz_at hS (Nat.le_of_ble_eq_true rfl) mzcS_0) mzcf_11_1 (mz_rb hR (Nat.le_of_ble_eq_true rfl) rfl mzcR_0_1) (g_iload_n rfl (g_iload_n rfl ?_)))))))
    obtain ⟨h3, hp⟩ := hp
    refine g_v3v (Nat.le_of_ble_eq_true rfl) (mz_at hS (Nat.le_of_ble_eq_true rfl) mzcS_2) (fun _ hq => cs_221 (Nat.le_trans (Nat.le_of_ble_eq_true rfl) hd) (hS.le (Nat.le_of_ble_eq_true rfl)) (hR.le (Nat.le_of_ble_eq_true rfl))  s.1 v1 s.2 h3 hq) (g_aload_n rfl (g_getR (mz_at hS (Nat.le_of_ble_eq_true rfl) mzcS_0) mzcf_11_8 (mz_rb hR (Nat.le_of_ble_eq_true rfl) rfl mzcR_0_8) (g_getI (mz_at hS (Nat.le_of_ble_eq_true rfl) mzcS_208) mzcf_1_0 ?_)))
    obtain ⟨h4, hp⟩ := hp
    refine g_v4v (Nat.le_of_ble_eq_true rfl) (mz_at hS (Nat.le_of_ble_eq_true rfl) mzcS_56) (fun _ hq => cs_230 (Nat.le_trans (Nat.le_of_ble_eq_true rfl) hd) (hS.le (Nat.le_of_ble_eq_true rfl)) (hR.le (Nat.le_of_ble_eq_true rfl))  s.1 (cf_221_0 s.1 v1 s.2) (s.2.1 208 0) s.2 h4 hq) (g_iadd ?_)
    obtain ⟨h5, hp⟩ := hp
    refine g_iast (mz_at hS (Nat.le_of_ble_eq_true rfl) mzcS_212) h5 ?_
    refine g_weak ?_ (g_cl (cg_229_54 hd hS hR v1 s.1 (mz_wI ((cf_230_0 s.1 (cf_221_0 s.1 v1 s.2) (s.2.1 208 0) s.2).2) 212 s.1 ((mz_gI s.2 212 s.1) + ((cf_230_0 s.1 (cf_221_0 s.1 v1 s.2) (s.2.1 208 0) s.2).1))) hr hc1 hx1 hp hC))
    exact ⟨rfl, rfl, rfl, trivial⟩
  · have hp := hp.2 h1
    refine g_aload_n rfl (g_getR (mz_at hS (Nat.le_of_ble_eq_true rfl) mzcS_0) mzcf_11_3 (mz_rb hR (Nat.le_of_ble_eq_true rfl) rfl mzcR_0_3) (g_aload_n rfl (g_getR (mz_at hS (Nat.le_of_ble_eq_true rfl) mzcS_0) mzcf_11_10 (mz_rb hR (Nat.le_of_ble_eq_true rfl) rfl mzcR_0_10) (g_bipush mzb_12 (g_iald hS.1 (mz_at hS (Nat.le_of_ble_eq_true rfl) mzcS_53) (mz_ibd (by decide)) (g_iconst mzi_1 ?_))))))
    refine g_icne (tg := 90) rfl ms_229_90 hC (fun h6 hC => ?_) (fun h6 hC => ?_)
    · have hp := hp.1 h6
      refine g_aload_n rfl (g_getR (mz_at hS (Nat.le_of_ble_eq_true rfl) mzcS_0) mzcf_11_7 (mz_rb hR (Nat.le_of_ble_eq_true rfl) rfl mzcR_0_7) (g_iconst mzi_1 ?_))
      obtain ⟨h7, hp⟩ := hp
      refine g_v2v (Nat.le_of_ble_eq_true rfl) (mz_at hS (Nat.le_of_ble_eq_true rfl) mzcS_115) (fun _ hq => cs_224 (Nat.le_trans (Nat.le_of_ble_eq_true rfl) hd) (hS.le (Nat.le_of_ble_eq_true rfl)) (hR.le (Nat.le_of_ble_eq_true rfl))  1 s.2 h7 hq) ?_
      refine g_zeq (tg := 90) rfl ms_229_90 hC (fun h8 hC => ?_) (fun h8 hC => ?_)
      · have hp := hp.1 h8
        refine g_iconst mzi_1 (g_goto (tg := 91) rfl ms_229_91 ?_)
        refine g_weak ?_ (g_cl (cg_229_91 hd hS hR true s.2 hr hp (hx1 _ hC)))
        exact ⟨rfl, trivial⟩
      · have hp := hp.2 h8
        refine g_weak ?_ (g_cl (cg_229_90 hd hS hR s.2 hr hp (hx1 _ hC)))
        exact ⟨rfl, trivial⟩
    · have hp := hp.2 h6
      refine g_weak ?_ (g_cl (cg_229_90 hd hS hR s.2 hr hp (hx1 _ hC)))
      exact ⟨rfl, trivial⟩
theorem cg_229_10 (hd : 2 ≤ d) (hS : mz_ext S 232) (hR : mz_rok R 232)  (v1 : Int32) (v2 : Int32) (N : mz_N) {C0 : (mz_N) → Prop} (hr : ∀ (N2 : mz_N), C0 N2 → Q (.inl none) (mz_k S R N2 b t)) (hp : cp_229_10 v1 v2 N) (hC : C0 (cf_229_10 v1 v2 N)) : mz_G (d, mz_X0 L xs, none, [], mk_229, 3, Q) 10 mt_229_10 [(0, .ref 0), (1, .int v1), (2, .int v2)] [] false (mz_k S R N b t) := by
  obtain ⟨n, hn⟩ := hp
  exact g_loop (G := fun s => mz_G (d, mz_X0 L xs, none, [], mk_229, 3, Q) 10 mt_229_10 [(0, .ref 0), (1, .int v1), (2, .int s.1)] [] false (mz_k S R s.2 b t)) (C := C0) (fun C2 hc hx s hP hC => cb_229_10 hd hS hR v1 s hr hc hx hP hC) n (v2, N) hn hC
theorem cg_229_0 (hd : 2 ≤ d) (hS : mz_ext S 232) (hR : mz_rok R 232)  (v1 : Int32) (N : mz_N) {C0 : (mz_N) → Prop} (hr : ∀ (N2 : mz_N), C0 N2 → Q (.inl none) (mz_k S R N2 b t)) (hp : cp_229_0 v1 N) (hC : C0 (cf_229_0 v1 N)) : mz_G (d, mz_X0 L xs, none, [], mk_229, 3, Q) 0 mk_229 [(0, .ref 0), (1, .int v1)] [] true (mz_k S R N b t) := by
  unfold cf_229_0 at hC
  unfold cp_229_0 at hp
  refine g_aload_n rfl (g_getR (mz_at hS (Nat.le_of_ble_eq_true rfl) mzcS_0) mzcf_11_3 (mz_rb hR (Nat.le_of_ble_eq_true rfl) rfl mzcR_0_3) (g_iconst mzi_0 (g_putZ (z := false) (mz_at hS (Nat.le_of_ble_eq_true rfl) mzcS_56) mzcf_9_10 (g_iconst mzi_0 (g_istore_n (Nat.le_of_ble_eq_true rfl) rfl ?_)))))
  refine g_weak ?_ (g_cl (cg_229_10 hd hS hR v1 0 (mz_pI N 56 10 (mz_b01 false)) hr hp hC))
  exact ⟨rfl, rfl, rfl, trivial⟩
theorem cs_229 (hd : 3 ≤ d) (hS : mz_ext S 232) (hR : mz_rok R 232)  (v1 : Int32) (N : mz_N) (hp : cp_229_0 v1 N) (hq : Q (.inl none) (mz_k S R (cf_229_0 v1 N) b t)) : mz_Ed (mz_X0 L xs) d 229 [.ref 0, .int v1] (mz_k S R N b t) Q :=
  by
  refine g_in mzq_229 (Nat.le_of_ble_eq_true rfl) (Nat.le_of_ble_eq_true rfl) (Nat.le_trans (Nat.le_of_ble_eq_true rfl) hd) ?_
  refine g_weak ?_ (cg_229_0 (d := d - 1) (by omega) hS hR v1 N (C0 := fun z => Q (.inl none) (mz_k S R z b t)) (fun _ h => h) hp hq)
  exact ⟨rfl, rfl, trivial⟩
/-! 235 KeptHouse$Climate.gather (LKeptHouse$Plan;[J)V -/
theorem ms_235_0 : mz_sf mk_235 0 = mk_235 := mz_sf_zero _
theorem ms_235_2 : mz_sf mk_235 2 = mt_235_2 := mz_sf_add ms_235_0 (t := 2) rfl rfl
theorem ms_235_23 : mz_sf mk_235 23 = mt_235_23 := mz_sf_add ms_235_2 (t := 21) rfl rfl
theorem ms_235_29 : mz_sf mk_235 29 = mt_235_29 := mz_sf_add ms_235_23 (t := 6) rfl rfl
set_option maxRecDepth 100000 in
theorem mzq_235 : mz_PG0 235 = some (3, ⟨"KeptHouse$Climate", "gather", "(LKeptHouse$Plan;[J)V"⟩, prog_5_method_11_code, 4, none, [], mk_235, []) := rfl
theorem cb_235_2 (hd : 1 ≤ d) (hS : mz_ext S 232) (hR : mz_rok R 232) (a2 : Nat) (hs2 : S[a2]? = some (1, 240, []))  (s : Int32 × mz_N) {C0 : (mz_N) → Prop} (hr : ∀ (N2 : mz_N), C0 N2 → Q (.inl none) (mz_k S R N2 b t)) {C1 : ((Int32 × mz_N) ⊕ (mz_N)) → Prop} (hc1 : ∀ s2, C1 (.inl s2) → mz_G (d, mz_X0 L xs, none, [], mk_235, 4, Q) 2 mt_235_2 [(0, .ref 65), (1, .ref 2), (2, .ref a2), (3, .int s2.1)] [] false (mz_k S R s2.2 b t)) (hx1 : ∀ z, C1 (.inr z) → C0 z) (hp : cd_235_2 a2 s) (hC : C1 (cq_235_2 a2 s)) : mz_G (d, mz_X0 L xs, none, [], mk_235, 4, Q) 2 mt_235_2 [(0, .ref 65), (1, .ref 2), (2, .ref a2), (3, .int s.1)] [] false (mz_k S R s.2 b t) := by
  unfold cq_235_2 at hC
  unfold cd_235_2 at hp
  refine g_iload_n rfl (g_aload_n rfl (g_getI (mz_at hS (Nat.le_of_ble_eq_true rfl) mzcS_2) mzcf_5_7 ?_))
  refine g_icge (tg := 29) rfl ms_235_29 hC (fun h1 hC => ?_) (fun h1 hC => ?_)
  · have hp := hp.1 h1
    refine g_aload_n rfl (g_getR (mz_at hS (Nat.le_of_ble_eq_true rfl) mzcS_65) mzcf_3_9 (mz_rb hR (Nat.le_of_ble_eq_true rfl) rfl mzcR_65_9) (g_iload_n rfl (g_aload_n rfl (g_aload_n rfl (g_aload_n rfl (g_iload_n rfl ?_))))))
    obtain ⟨h2, hp⟩ := hp
    refine g_v4v (Nat.le_of_ble_eq_true rfl) (mz_at hS (Nat.le_of_ble_eq_true rfl) mzcS_65) (fun _ hq => cs_158 (Nat.le_trans (Nat.le_of_ble_eq_true rfl) hd) (hS.le (Nat.le_of_ble_eq_true rfl)) (hR.le (Nat.le_of_ble_eq_true rfl)) a2 hs2 s.1 s.2 h2 hq) ?_
    have h3 := hp
    refine g_last (mz_at hS (Nat.le_of_ble_eq_true rfl) mzcS_74) h3 (g_iinc rfl mzi_1 (Nat.le_of_ble_eq_true rfl) rfl (g_goto (tg := 2) rfl ms_235_2 ?_))
    refine g_weak ?_ (g_cl (hc1 ((s.1 + 1), mz_wL s.2 74 s.1 (cf_158_0 a2 s.1 s.2)) hC))
    exact ⟨rfl, rfl, rfl, rfl, trivial⟩
  · have hp := hp.2 h1
    exact g_vret rfl (hr _ (hx1 _ hC))
theorem cg_235_2 (hd : 1 ≤ d) (hS : mz_ext S 232) (hR : mz_rok R 232) (a2 : Nat) (hs2 : S[a2]? = some (1, 240, [])) (v3 : Int32) (N : mz_N) {C0 : (mz_N) → Prop} (hr : ∀ (N2 : mz_N), C0 N2 → Q (.inl none) (mz_k S R N2 b t)) (hp : cp_235_2 a2 v3 N) (hC : C0 (cf_235_2 a2 v3 N)) : mz_G (d, mz_X0 L xs, none, [], mk_235, 4, Q) 2 mt_235_2 [(0, .ref 65), (1, .ref 2), (2, .ref a2), (3, .int v3)] [] false (mz_k S R N b t) := by
  obtain ⟨n, hn⟩ := hp
  exact g_loop (G := fun s => mz_G (d, mz_X0 L xs, none, [], mk_235, 4, Q) 2 mt_235_2 [(0, .ref 65), (1, .ref 2), (2, .ref a2), (3, .int s.1)] [] false (mz_k S R s.2 b t)) (C := C0) (fun C2 hc hx s hP hC => cb_235_2 hd hS hR a2 hs2 s hr hc hx hP hC) n (v3, N) hn hC
theorem cg_235_0 (hd : 1 ≤ d) (hS : mz_ext S 232) (hR : mz_rok R 232) (a2 : Nat) (hs2 : S[a2]? = some (1, 240, [])) (N : mz_N) {C0 : (mz_N) → Prop} (hr : ∀ (N2 : mz_N), C0 N2 → Q (.inl none) (mz_k S R N2 b t)) (hp : cp_235_0 a2 N) (hC : C0 (cf_235_0 a2 N)) : mz_G (d, mz_X0 L xs, none, [], mk_235, 4, Q) 0 mk_235 [(0, .ref 65), (1, .ref 2), (2, .ref a2)] [] true (mz_k S R N b t) := by
  unfold cf_235_0 at hC
  unfold cp_235_0 at hp
  refine g_iconst mzi_0 (g_istore_n (Nat.le_of_ble_eq_true rfl) rfl ?_)
  refine g_weak ?_ (g_cl (cg_235_2 hd hS hR a2 hs2 0 N hr hp hC))
  exact ⟨rfl, rfl, rfl, rfl, trivial⟩
theorem cs_235 (hd : 2 ≤ d) (hS : mz_ext S 232) (hR : mz_rok R 232) (a2 : Nat) (hs2 : S[a2]? = some (1, 240, [])) (N : mz_N) (hp : cp_235_0 a2 N) (hq : Q (.inl none) (mz_k S R (cf_235_0 a2 N) b t)) : mz_Ed (mz_X0 L xs) d 235 [.ref 65, .ref 2, .ref a2] (mz_k S R N b t) Q :=
  by
  refine g_in mzq_235 (Nat.le_of_ble_eq_true rfl) (Nat.le_of_ble_eq_true rfl) (Nat.le_trans (Nat.le_of_ble_eq_true rfl) hd) ?_
  refine g_weak ?_ (cg_235_0 (d := d - 1) (by omega) hS hR a2 hs2 N (C0 := fun z => Q (.inl none) (mz_k S R z b t)) (fun _ h => h) hp hq)
  exact ⟨rfl, rfl, rfl, trivial⟩
/-! 236 KeptHouse$Climate.measureWarmths (LKeptHouse$Plan;)V -/
theorem ms_236_0 : mz_sf mk_236 0 = mk_236 := mz_sf_zero _
theorem ms_236_2 : mz_sf mk_236 2 = mt_236_2 := mz_sf_add ms_236_0 (t := 2) rfl rfl
theorem ms_236_35 : mz_sf mk_236 35 = mt_236_35 := mz_sf_add ms_236_2 (t := 33) rfl rfl
theorem ms_236_41 : mz_sf mk_236 41 = mt_236_41 := mz_sf_add ms_236_35 (t := 6) rfl rfl
set_option maxRecDepth 100000 in
theorem mzq_236 : mz_PG0 236 = some (3, ⟨"KeptHouse$Climate", "measureWarmths", "(LKeptHouse$Plan;)V"⟩, prog_5_method_13_code, 3, none, [], mk_236, []) := rfl
theorem cb_236_2 (hd : 2 ≤ d) (hS : mz_ext S 232) (hR : mz_rok R 232)   (s : Int32 × mz_N) {C0 : (mz_N) → Prop} (hr : ∀ (N2 : mz_N), C0 N2 → Q (.inl none) (mz_k S R N2 b t)) {C1 : ((Int32 × mz_N) ⊕ (mz_N)) → Prop} (hc1 : ∀ s2, C1 (.inl s2) → mz_G (d, mz_X0 L xs, none, [], mk_236, 3, Q) 2 mt_236_2 [(0, .ref 65), (1, .ref 2), (2, .int s2.1)] [] false (mz_k S R s2.2 b t)) (hx1 : ∀ z, C1 (.inr z) → C0 z) (hp : cd_236_2  s) (hC : C1 (cq_236_2  s)) : mz_G (d, mz_X0 L xs, none, [], mk_236, 3, Q) 2 mt_236_2 [(0, .ref 65), (1, .ref 2), (2, .int s.1)] [] false (mz_k S R s.2 b t) := by
  unfold cq_236_2 at hC
  unfold cd_236_2 at hp
  refine g_iload_n rfl (g_aload_n rfl (g_getI (mz_at hS (Nat.le_of_ble_eq_true rfl) mzcS_2) mzcf_5_7 ?_))
  refine g_icge (tg := 41) rfl ms_236_41 hC (fun h1 hC => ?_) (fun h1 hC => ?_)
  · have hp := hp.1 h1
    refine g_aload_n rfl (g_getR (mz_at hS (Nat.le_of_ble_eq_true rfl) mzcS_65) mzcf_3_10 (mz_rb hR (Nat.le_of_ble_eq_true rfl) rfl mzcR_65_10) (g_iload_n rfl (g_aload_n rfl (g_getR (mz_at hS (Nat.le_of_ble_eq_true rfl) mzcS_65) mzcf_3_9 (mz_rb hR (Nat.le_of_ble_eq_true rfl) rfl mzcR_65_9) (g_iload_n rfl ?_)))))
    obtain ⟨h2, hp⟩ := hp
    refine g_lald (mz_at hS (Nat.le_of_ble_eq_true rfl) mzcS_74) h2 (g_bipush mzb_100 (g_aload_n rfl (g_getR (mz_at hS (Nat.le_of_ble_eq_true rfl) mzcS_2) mzcf_5_9 (mz_rb hR (Nat.le_of_ble_eq_true rfl) rfl mzcR_2_9) (g_iconst mzi_2 (g_aald4 (m := 19) (mz_at hS (Nat.le_of_ble_eq_true rfl) mzcS_16) (mz_ibd (by decide)) (mz_rb hR (Nat.le_of_ble_eq_true rfl) rfl mzcRr_16_2) (g_iload_n rfl ?_))))))
    obtain ⟨h3, hp⟩ := hp
    refine g_iald hS.1 (mz_at hS (Nat.le_of_ble_eq_true rfl) mzcS_19) h3 ?_
    obtain ⟨h4, hp⟩ := hp
    refine g_s3v (Nat.le_of_ble_eq_true rfl) (fun _ hq => cs_159 (Nat.le_trans (Nat.le_of_ble_eq_true rfl) hd) (hS.le (Nat.le_of_ble_eq_true rfl)) (hR.le (Nat.le_of_ble_eq_true rfl))  (mz_gL s.2 74 s.1) 100 (mz_gI s.2 19 s.1) h4 hq) ?_
    have h5 := hp
    refine g_last (mz_at hS (Nat.le_of_ble_eq_true rfl) mzcS_75) h5 (g_iinc rfl mzi_1 (Nat.le_of_ble_eq_true rfl) rfl (g_goto (tg := 2) rfl ms_236_2 ?_))
    refine g_weak ?_ (g_cl (hc1 ((s.1 + 1), mz_wL s.2 75 s.1 (cf_159_0 (mz_gL s.2 74 s.1) 100 (mz_gI s.2 19 s.1))) hC))
    exact ⟨rfl, rfl, rfl, trivial⟩
  · have hp := hp.2 h1
    exact g_vret rfl (hr _ (hx1 _ hC))
theorem cg_236_2 (hd : 2 ≤ d) (hS : mz_ext S 232) (hR : mz_rok R 232)  (v2 : Int32) (N : mz_N) {C0 : (mz_N) → Prop} (hr : ∀ (N2 : mz_N), C0 N2 → Q (.inl none) (mz_k S R N2 b t)) (hp : cp_236_2 v2 N) (hC : C0 (cf_236_2 v2 N)) : mz_G (d, mz_X0 L xs, none, [], mk_236, 3, Q) 2 mt_236_2 [(0, .ref 65), (1, .ref 2), (2, .int v2)] [] false (mz_k S R N b t) := by
  obtain ⟨n, hn⟩ := hp
  exact g_loop (G := fun s => mz_G (d, mz_X0 L xs, none, [], mk_236, 3, Q) 2 mt_236_2 [(0, .ref 65), (1, .ref 2), (2, .int s.1)] [] false (mz_k S R s.2 b t)) (C := C0) (fun C2 hc hx s hP hC => cb_236_2 hd hS hR  s hr hc hx hP hC) n (v2, N) hn hC
theorem cg_236_0 (hd : 2 ≤ d) (hS : mz_ext S 232) (hR : mz_rok R 232)  (N : mz_N) {C0 : (mz_N) → Prop} (hr : ∀ (N2 : mz_N), C0 N2 → Q (.inl none) (mz_k S R N2 b t)) (hp : cp_236_0 N) (hC : C0 (cf_236_0 N)) : mz_G (d, mz_X0 L xs, none, [], mk_236, 3, Q) 0 mk_236 [(0, .ref 65), (1, .ref 2)] [] true (mz_k S R N b t) := by
  unfold cf_236_0 at hC
  unfold cp_236_0 at hp
  refine g_iconst mzi_0 (g_istore_n (Nat.le_of_ble_eq_true rfl) rfl ?_)
  refine g_weak ?_ (g_cl (cg_236_2 hd hS hR 0 N hr hp hC))
  exact ⟨rfl, rfl, rfl, trivial⟩
theorem cs_236 (hd : 3 ≤ d) (hS : mz_ext S 232) (hR : mz_rok R 232)  (N : mz_N) (hp : cp_236_0 N) (hq : Q (.inl none) (mz_k S R (cf_236_0 N) b t)) : mz_Ed (mz_X0 L xs) d 236 [.ref 65, .ref 2] (mz_k S R N b t) Q :=
  by
  refine g_in mzq_236 (Nat.le_of_ble_eq_true rfl) (Nat.le_of_ble_eq_true rfl) (Nat.le_trans (Nat.le_of_ble_eq_true rfl) hd) ?_
  refine g_weak ?_ (cg_236_0 (d := d - 1) (by omega) hS hR N (C0 := fun z => Q (.inl none) (mz_k S R z b t)) (fun _ h => h) hp hq)
  exact ⟨rfl, rfl, trivial⟩
/-! 234 KeptHouse$Climate.flow (LKeptHouse$Plan;I)V -/
theorem ms_234_0 : mz_sf mk_234 0 = mk_234 := mz_sf_zero _
theorem ms_234_16 : mz_sf mk_234 16 = mt_234_16 := mz_sf_add ms_234_0 (t := 16) rfl rfl
theorem ms_234_44 : mz_sf mk_234 44 = mt_234_44 := mz_sf_add ms_234_16 (t := 28) rfl rfl
theorem ms_234_75 : mz_sf mk_234 75 = mt_234_75 := mz_sf_add ms_234_44 (t := 31) rfl rfl
theorem ms_234_99 : mz_sf mk_234 99 = mt_234_99 := mz_sf_add ms_234_75 (t := 24) rfl rfl
theorem ms_234_105 : mz_sf mk_234 105 = mt_234_105 := mz_sf_add ms_234_99 (t := 6) rfl rfl
theorem ms_234_107 : mz_sf mk_234 107 = mt_234_107 := mz_sf_add ms_234_105 (t := 2) rfl rfl
theorem ms_234_153 : mz_sf mk_234 153 = mt_234_153 := mz_sf_add ms_234_107 (t := 46) rfl rfl
theorem ms_234_156 : mz_sf mk_234 156 = mt_234_156 := mz_sf_add ms_234_153 (t := 3) rfl rfl
theorem ms_234_200 : mz_sf mk_234 200 = mt_234_200 := mz_sf_add ms_234_156 (t := 44) rfl rfl
theorem ms_234_206 : mz_sf mk_234 206 = mt_234_206 := mz_sf_add ms_234_200 (t := 6) rfl rfl
theorem ms_234_212 : mz_sf mk_234 212 = mt_234_212 := mz_sf_add ms_234_206 (t := 6) rfl rfl
set_option maxRecDepth 100000 in
theorem mzq_234 : mz_PG0 234 = some (3, ⟨"KeptHouse$Climate", "flow", "(LKeptHouse$Plan;I)V"⟩, prog_5_method_14_code, 8, none, [], mk_234, []) := rfl
theorem cg_234_99 (hd : 3 ≤ d) (hS : mz_ext S 232) (hR : mz_rok R 232)  (v2 : Int32) (v3 : Int32) (N : mz_N) {C0 : (mz_N) → Prop} (hr : ∀ (N2 : mz_N), C0 N2 → Q (.inl none) (mz_k S R N2 b t)) {C1 : ((Int32 × mz_N) ⊕ (mz_N)) → Prop} (hc1 : ∀ s2, C1 (.inl s2) → mz_G (d, mz_X0 L xs, none, [], mk_234, 8, Q) 16 mt_234_16 [(0, .ref 65), (1, .ref 2), (2, .int v2), (3, .int s2.1)] [] false (mz_k S R s2.2 b t)) (hx1 : ∀ z, C1 (.inr z) → C0 z) (hp : cp_234_99 v2 v3 N) (hC : C1 (cf_234_99 v2 v3 N)) : mz_G (d, mz_X0 L xs, none, [], mk_234, 8, Q) 99 mt_234_99 [(0, .ref 65), (1, .ref 2), (2, .int v2), (3, .int v3)] [] false (mz_k S R N b t) := by
  unfold cf_234_99 at hC
  unfold cp_234_99 at hp
  refine g_iinc rfl mzi_1 (Nat.le_of_ble_eq_true rfl) rfl (g_goto (tg := 16) rfl ms_234_16 ?_)
  refine g_weak ?_ (g_cl (hc1 ((v3 + 1), N) hC))
  exact ⟨rfl, rfl, rfl, rfl, trivial⟩
theorem cg_234_200 (hd : 3 ≤ d) (hS : mz_ext S 232) (hR : mz_rok R 232)  (v2 : Int32) (v3 : Int32) (v4 : Int32) (N : mz_N) {C0 : (mz_N) → Prop} (hr : ∀ (N2 : mz_N), C0 N2 → Q (.inl none) (mz_k S R N2 b t)) {C1 : ((Int32 × mz_N) ⊕ (mz_N)) → Prop} (hc1 : ∀ s2, C1 (.inl s2) → mz_G (d, mz_X0 L xs, none, [], mk_234, 8, Q) 107 mt_234_107 [(0, .ref 65), (1, .ref 2), (2, .int v2), (3, .int s2.1)] [] false (mz_k S R s2.2 b t)) (hx1 : ∀ z, C1 (.inr z) → C0 z) {C2 : ((Int32 × mz_N) ⊕ ((Int32 × mz_N) ⊕ (mz_N))) → Prop} (hc2 : ∀ s2, C2 (.inl s2) → mz_G (d, mz_X0 L xs, none, [], mk_234, 8, Q) 156 mt_234_156 [(0, .ref 65), (1, .ref 2), (2, .int v2), (3, .int v3), (4, .int s2.1)] [] false (mz_k S R s2.2 b t)) (hx2 : ∀ z, C2 (.inr z) → C1 z) (hp : cp_234_200 v2 v3 v4 N) (hC : C2 (cf_234_200 v2 v3 v4 N)) : mz_G (d, mz_X0 L xs, none, [], mk_234, 8, Q) 200 mt_234_200 [(0, .ref 65), (1, .ref 2), (2, .int v2), (3, .int v3), (4, .int v4)] [] false (mz_k S R N b t) := by
  unfold cf_234_200 at hC
  unfold cp_234_200 at hp
  refine g_iinc rfl mzi_1 (Nat.le_of_ble_eq_true rfl) rfl (g_goto (tg := 156) rfl ms_234_156 ?_)
  refine g_weak ?_ (g_cl (hc2 ((v4 + 1), N) hC))
  exact ⟨rfl, rfl, rfl, rfl, rfl, trivial⟩
theorem cb_234_156 (hd : 3 ≤ d) (hS : mz_ext S 232) (hR : mz_rok R 232)  (v2 : Int32) (v3 : Int32) (s : Int32 × mz_N) {C0 : (mz_N) → Prop} (hr : ∀ (N2 : mz_N), C0 N2 → Q (.inl none) (mz_k S R N2 b t)) {C1 : ((Int32 × mz_N) ⊕ (mz_N)) → Prop} (hc1 : ∀ s2, C1 (.inl s2) → mz_G (d, mz_X0 L xs, none, [], mk_234, 8, Q) 107 mt_234_107 [(0, .ref 65), (1, .ref 2), (2, .int v2), (3, .int s2.1)] [] false (mz_k S R s2.2 b t)) (hx1 : ∀ z, C1 (.inr z) → C0 z) {C2 : ((Int32 × mz_N) ⊕ ((Int32 × mz_N) ⊕ (mz_N))) → Prop} (hc2 : ∀ s2, C2 (.inl s2) → mz_G (d, mz_X0 L xs, none, [], mk_234, 8, Q) 156 mt_234_156 [(0, .ref 65), (1, .ref 2), (2, .int v2), (3, .int v3), (4, .int s2.1)] [] false (mz_k S R s2.2 b t)) (hx2 : ∀ z, C2 (.inr z) → C1 z) (hp : cd_234_156 v2 v3 s) (hC : C2 (cq_234_156 v2 v3 s)) : mz_G (d, mz_X0 L xs, none, [], mk_234, 8, Q) 156 mt_234_156 [(0, .ref 65), (1, .ref 2), (2, .int v2), (3, .int v3), (4, .int s.1)] [] false (mz_k S R s.2 b t) := by
  unfold cq_234_156 at hC
  unfold cd_234_156 at hp
  refine g_iload rfl (g_iconst mzi_4 ?_)
  refine g_icge (tg := 206) rfl ms_234_206 hC (fun h1 hC => ?_) (fun h1 hC => ?_)
  · have hp := hp.1 h1
    refine g_aload_n rfl (g_getR (mz_at hS (Nat.le_of_ble_eq_true rfl) mzcS_65) mzcf_3_9 (mz_rb hR (Nat.le_of_ble_eq_true rfl) rfl mzcR_65_9) (g_iload_n rfl (g_dup2 rfl rfl ?_)))
    obtain ⟨h2, hp⟩ := hp
    refine g_lald (mz_at hS (Nat.le_of_ble_eq_true rfl) mzcS_74) h2 (g_aload_n rfl (g_getR (mz_at hS (Nat.le_of_ble_eq_true rfl) mzcS_2) mzcf_5_9 (mz_rb hR (Nat.le_of_ble_eq_true rfl) rfl mzcR_2_9) (g_bipush mzb_6 (g_iload rfl (g_iadd ?_)))))
    obtain ⟨h3, hp⟩ := hp
    refine g_aald4 (mz_at hS (Nat.le_of_ble_eq_true rfl) mzcS_16) h3 (mz_rb hR (Nat.le_of_ble_eq_true rfl) rfl (mzcR2_16 h3)) (g_iload_n rfl ?_)
    obtain ⟨h4, hp⟩ := hp
    refine g_iald hS.1 (mz_at hS (mzcL2_16 h3 (Nat.le_of_ble_eq_true rfl)) (mzcS2_16 h3)) h4 (g_aload_n rfl (g_getR (mz_at hS (Nat.le_of_ble_eq_true rfl) mzcS_65) mzcf_3_1 (mz_rb hR (Nat.le_of_ble_eq_true rfl) rfl mzcR_65_1) (g_iload rfl (g_bipush mzb_24 (g_imul (g_iload_n rfl (g_iadd ?_)))))))
    obtain ⟨h5, hp⟩ := hp
    refine g_iald hS.1 (mz_at hS (Nat.le_of_ble_eq_true rfl) mzcS_67) h5 (g_bipush mzb_10 (g_idiv (by decide) (g_imul (g_i2l (g_ladd ?_)))))
    obtain ⟨h6, hp⟩ := hp
    refine g_last (mz_at hS (Nat.le_of_ble_eq_true rfl) mzcS_74) h6 ?_
    refine g_weak ?_ (g_cl (cg_234_200 hd hS hR v2 v3 s.1 (mz_wL s.2 74 v3 ((mz_gL s.2 74 v3) + (((mz_gI s.2 (17 + (6 + s.1).toNatClampNeg) v3) * ((mz_gI s.2 67 ((s.1 * 24) + v2)) / 10)).toInt64))) hr hc1 hx1 hc2 hx2 hp hC))
    exact ⟨rfl, rfl, rfl, rfl, rfl, trivial⟩
  · have hp := hp.2 h1
    refine g_iinc rfl mzi_1 (Nat.le_of_ble_eq_true rfl) rfl (g_goto (tg := 107) rfl ms_234_107 ?_)
    refine g_weak ?_ (g_cl (hc1 ((v3 + 1), s.2) (hx2 _ hC)))
    exact ⟨rfl, rfl, rfl, rfl, trivial⟩
theorem cg_234_156 (hd : 3 ≤ d) (hS : mz_ext S 232) (hR : mz_rok R 232)  (v2 : Int32) (v3 : Int32) (v4 : Int32) (N : mz_N) {C0 : (mz_N) → Prop} (hr : ∀ (N2 : mz_N), C0 N2 → Q (.inl none) (mz_k S R N2 b t)) {C1 : ((Int32 × mz_N) ⊕ (mz_N)) → Prop} (hc1 : ∀ s2, C1 (.inl s2) → mz_G (d, mz_X0 L xs, none, [], mk_234, 8, Q) 107 mt_234_107 [(0, .ref 65), (1, .ref 2), (2, .int v2), (3, .int s2.1)] [] false (mz_k S R s2.2 b t)) (hx1 : ∀ z, C1 (.inr z) → C0 z) (hp : cp_234_156 v2 v3 v4 N) (hC : C1 (cf_234_156 v2 v3 v4 N)) : mz_G (d, mz_X0 L xs, none, [], mk_234, 8, Q) 156 mt_234_156 [(0, .ref 65), (1, .ref 2), (2, .int v2), (3, .int v3), (4, .int v4)] [] false (mz_k S R N b t) := by
  obtain ⟨n, hn⟩ := hp
  exact g_loop (G := fun s => mz_G (d, mz_X0 L xs, none, [], mk_234, 8, Q) 156 mt_234_156 [(0, .ref 65), (1, .ref 2), (2, .int v2), (3, .int v3), (4, .int s.1)] [] false (mz_k S R s.2 b t)) (C := C1) (fun C2 hc hx s hP hC => cb_234_156 hd hS hR v2 v3 s hr hc1 hx1 hc hx hP hC) n (v4, N) hn hC
theorem cg_234_153 (hd : 3 ≤ d) (hS : mz_ext S 232) (hR : mz_rok R 232)  (v2 : Int32) (v3 : Int32) (N : mz_N) {C0 : (mz_N) → Prop} (hr : ∀ (N2 : mz_N), C0 N2 → Q (.inl none) (mz_k S R N2 b t)) {C1 : ((Int32 × mz_N) ⊕ (mz_N)) → Prop} (hc1 : ∀ s2, C1 (.inl s2) → mz_G (d, mz_X0 L xs, none, [], mk_234, 8, Q) 107 mt_234_107 [(0, .ref 65), (1, .ref 2), (2, .int v2), (3, .int s2.1)] [] false (mz_k S R s2.2 b t)) (hx1 : ∀ z, C1 (.inr z) → C0 z) (hp : cp_234_153 v2 v3 N) (hC : C1 (cf_234_153 v2 v3 N)) : mz_G (d, mz_X0 L xs, none, [], mk_234, 8, Q) 153 mt_234_153 [(0, .ref 65), (1, .ref 2), (2, .int v2), (3, .int v3)] [] false (mz_k S R N b t) := by
  unfold cf_234_153 at hC
  unfold cp_234_153 at hp
  refine g_iconst mzi_0 (g_istore (Nat.le_of_ble_eq_true rfl) rfl ?_)
  refine g_weak ?_ (g_cl (cg_234_156 hd hS hR v2 v3 0 N hr hc1 hx1 hp hC))
  exact ⟨rfl, rfl, rfl, rfl, rfl, trivial⟩
theorem cb_234_107 (hd : 3 ≤ d) (hS : mz_ext S 232) (hR : mz_rok R 232)  (v2 : Int32) (s : Int32 × mz_N) {C0 : (mz_N) → Prop} (hr : ∀ (N2 : mz_N), C0 N2 → Q (.inl none) (mz_k S R N2 b t)) {C1 : ((Int32 × mz_N) ⊕ (mz_N)) → Prop} (hc1 : ∀ s2, C1 (.inl s2) → mz_G (d, mz_X0 L xs, none, [], mk_234, 8, Q) 107 mt_234_107 [(0, .ref 65), (1, .ref 2), (2, .int v2), (3, .int s2.1)] [] false (mz_k S R s2.2 b t)) (hx1 : ∀ z, C1 (.inr z) → C0 z) (hp : cd_234_107 v2 s) (hC : C1 (cq_234_107 v2 s)) : mz_G (d, mz_X0 L xs, none, [], mk_234, 8, Q) 107 mt_234_107 [(0, .ref 65), (1, .ref 2), (2, .int v2), (3, .int s.1)] [] false (mz_k S R s.2 b t) := by
  unfold cq_234_107 at hC
  unfold cd_234_107 at hp
  refine g_iload_n rfl (g_aload_n rfl (g_getI (mz_at hS (Nat.le_of_ble_eq_true rfl) mzcS_2) mzcf_5_7 ?_))
  refine g_icge (tg := 212) rfl ms_234_212 hC (fun h1 hC => ?_) (fun h1 hC => ?_)
  · have hp := hp.1 h1
    refine g_aload_n rfl (g_getR (mz_at hS (Nat.le_of_ble_eq_true rfl) mzcS_65) mzcf_3_9 (mz_rb hR (Nat.le_of_ble_eq_true rfl) rfl mzcR_65_9) (g_iload_n rfl (g_dup2 rfl rfl ?_)))
    obtain ⟨h2, hp⟩ := hp
    refine g_lald (mz_at hS (Nat.le_of_ble_eq_true rfl) mzcS_74) h2 (g_aload_n rfl (g_getR (mz_at hS (Nat.le_of_ble_eq_true rfl) mzcS_65) mzcf_3_10 (mz_rb hR (Nat.le_of_ble_eq_true rfl) rfl mzcR_65_10) (g_iload_n rfl ?_)))
    obtain ⟨h3, hp⟩ := hp
    refine g_lald (mz_at hS (Nat.le_of_ble_eq_true rfl) mzcS_75) h3 (g_aload_n rfl (g_getR (mz_at hS (Nat.le_of_ble_eq_true rfl) mzcS_65) mzcf_3_0 (mz_rb hR (Nat.le_of_ble_eq_true rfl) rfl mzcR_65_0) (g_iload_n rfl ?_)))
    obtain ⟨h4, hp⟩ := hp
    refine g_iald hS.1 (mz_at hS (Nat.le_of_ble_eq_true rfl) mzcS_66) h4 (g_i2l (g_lsub (g_aload_n rfl (g_getR (mz_at hS (Nat.le_of_ble_eq_true rfl) mzcS_2) mzcf_5_9 (mz_rb hR (Nat.le_of_ble_eq_true rfl) rfl mzcR_2_9) (g_bipush mzb_10 (g_aald4 (m := 27) (mz_at hS (Nat.le_of_ble_eq_true rfl) mzcS_16) (mz_ibd (by decide)) (mz_rb hR (Nat.le_of_ble_eq_true rfl) rfl mzcRr_16_10) (g_iload_n rfl ?_)))))))
    obtain ⟨h5, hp⟩ := hp
    refine g_iald hS.1 (mz_at hS (Nat.le_of_ble_eq_true rfl) mzcS_27) h5 (g_i2l (g_lmul (g_con3 (g_ldiv (by decide) (g_lsub ?_)))))
    obtain ⟨h6, hp⟩ := hp
    refine g_last (mz_at hS (Nat.le_of_ble_eq_true rfl) mzcS_74) h6 ?_
    refine g_weak ?_ (g_cl (cg_234_153 hd hS hR v2 s.1 (mz_wL s.2 74 s.1 ((mz_gL s.2 74 s.1) - ((((mz_gL s.2 75 s.1) - ((mz_gI s.2 66 v2).toInt64)) * ((mz_gI s.2 27 s.1).toInt64)) / 10))) hr hc1 hx1 hp hC))
    exact ⟨rfl, rfl, rfl, rfl, trivial⟩
  · have hp := hp.2 h1
    exact g_vret rfl (hr _ (hx1 _ hC))
theorem cg_234_107 (hd : 3 ≤ d) (hS : mz_ext S 232) (hR : mz_rok R 232)  (v2 : Int32) (v3 : Int32) (N : mz_N) {C0 : (mz_N) → Prop} (hr : ∀ (N2 : mz_N), C0 N2 → Q (.inl none) (mz_k S R N2 b t)) (hp : cp_234_107 v2 v3 N) (hC : C0 (cf_234_107 v2 v3 N)) : mz_G (d, mz_X0 L xs, none, [], mk_234, 8, Q) 107 mt_234_107 [(0, .ref 65), (1, .ref 2), (2, .int v2), (3, .int v3)] [] false (mz_k S R N b t) := by
  obtain ⟨n, hn⟩ := hp
  exact g_loop (G := fun s => mz_G (d, mz_X0 L xs, none, [], mk_234, 8, Q) 107 mt_234_107 [(0, .ref 65), (1, .ref 2), (2, .int v2), (3, .int s.1)] [] false (mz_k S R s.2 b t)) (C := C0) (fun C2 hc hx s hP hC => cb_234_107 hd hS hR v2 s hr hc hx hP hC) n (v3, N) hn hC
theorem cb_234_16 (hd : 3 ≤ d) (hS : mz_ext S 232) (hR : mz_rok R 232)  (v2 : Int32) (s : Int32 × mz_N) {C0 : (mz_N) → Prop} (hr : ∀ (N2 : mz_N), C0 N2 → Q (.inl none) (mz_k S R N2 b t)) {C1 : ((Int32 × mz_N) ⊕ (mz_N)) → Prop} (hc1 : ∀ s2, C1 (.inl s2) → mz_G (d, mz_X0 L xs, none, [], mk_234, 8, Q) 16 mt_234_16 [(0, .ref 65), (1, .ref 2), (2, .int v2), (3, .int s2.1)] [] false (mz_k S R s2.2 b t)) (hx1 : ∀ z, C1 (.inr z) → C0 z) (hp : cd_234_16 v2 s) (hC : C1 (cq_234_16 v2 s)) : mz_G (d, mz_X0 L xs, none, [], mk_234, 8, Q) 16 mt_234_16 [(0, .ref 65), (1, .ref 2), (2, .int v2), (3, .int s.1)] [] false (mz_k S R s.2 b t) := by
  unfold cq_234_16 at hC
  unfold cd_234_16 at hp
  refine g_iload_n rfl (g_aload_n rfl (g_getI (mz_at hS (Nat.le_of_ble_eq_true rfl) mzcS_2) mzcf_5_13 ?_))
  refine g_icge (tg := 105) rfl ms_234_105 hC (fun h1 hC => ?_) (fun h1 hC => ?_)
  · have hp := hp.1 h1
    refine g_aload_n rfl (g_getR (mz_at hS (Nat.le_of_ble_eq_true rfl) mzcS_2) mzcf_5_12 (mz_rb hR (Nat.le_of_ble_eq_true rfl) rfl mzcR_2_12) (g_iconst mzi_0 (g_aald4 (m := 33) (mz_at hS (Nat.le_of_ble_eq_true rfl) mzcS_32) (mz_ibd (by decide)) (mz_rb hR (Nat.le_of_ble_eq_true rfl) rfl mzcRr_32_0) (g_iload_n rfl ?_))))
    obtain ⟨h2, hp⟩ := hp
    refine g_iald hS.1 (mz_at hS (Nat.le_of_ble_eq_true rfl) mzcS_33) h2 (g_istore (Nat.le_of_ble_eq_true rfl) rfl (g_aload_n rfl (g_getR (mz_at hS (Nat.le_of_ble_eq_true rfl) mzcS_2) mzcf_5_12 (mz_rb hR (Nat.le_of_ble_eq_true rfl) rfl mzcR_2_12) (g_iconst mzi_1 (g_aald4 (m := 34) (mz_at hS (Nat.le_of_ble_eq_true rfl) mzcS_32) (mz_ibd (by decide)) (mz_rb hR (Nat.le_of_ble_eq_true rfl) rfl mzcRr_32_1) (g_iload_n rfl ?_))))))
    obtain ⟨h3, hp⟩ := hp
    refine g_iald hS.1 (mz_at hS (Nat.le_of_ble_eq_true rfl) mzcS_34) h3 (g_istore (Nat.le_of_ble_eq_true rfl) rfl (g_aload_n rfl (g_getR (mz_at hS (Nat.le_of_ble_eq_true rfl) mzcS_65) mzcf_3_10 (mz_rb hR (Nat.le_of_ble_eq_true rfl) rfl mzcR_65_10) (g_iload rfl ?_))))
    obtain ⟨h4, hp⟩ := hp
    refine g_lald (mz_at hS (Nat.le_of_ble_eq_true rfl) mzcS_75) h4 (g_aload_n rfl (g_getR (mz_at hS (Nat.le_of_ble_eq_true rfl) mzcS_65) mzcf_3_10 (mz_rb hR (Nat.le_of_ble_eq_true rfl) rfl mzcR_65_10) (g_iload rfl ?_)))
    obtain ⟨h5, hp⟩ := hp
    refine g_lald (mz_at hS (Nat.le_of_ble_eq_true rfl) mzcS_75) h5 (g_lsub (g_aload_n rfl (g_getR (mz_at hS (Nat.le_of_ble_eq_true rfl) mzcS_2) mzcf_5_12 (mz_rb hR (Nat.le_of_ble_eq_true rfl) rfl mzcR_2_12) (g_iconst mzi_2 (g_aald4 (m := 35) (mz_at hS (Nat.le_of_ble_eq_true rfl) mzcS_32) (mz_ibd (by decide)) (mz_rb hR (Nat.le_of_ble_eq_true rfl) rfl mzcRr_32_2) (g_iload_n rfl ?_))))))
    obtain ⟨h6, hp⟩ := hp
    refine g_iald hS.1 (mz_at hS (Nat.le_of_ble_eq_true rfl) mzcS_35) h6 (g_i2l (g_lmul (g_con3 (g_ldiv (by decide) (g_lstore (Nat.le_of_ble_eq_true rfl) rfl rfl (g_aload_n rfl (g_getR (mz_at hS (Nat.le_of_ble_eq_true rfl) mzcS_65) mzcf_3_9 (mz_rb hR (Nat.le_of_ble_eq_true rfl) rfl mzcR_65_9) ?_)))))))
    refine g_iload rfl (g_dup2 rfl rfl ?_)
    obtain ⟨h7, hp⟩ := hp
    refine g_lald (mz_at hS (Nat.le_of_ble_eq_true rfl) mzcS_74) h7 (g_lload rfl (g_lsub ?_))
    obtain ⟨h8, hp⟩ := hp
    refine g_last (mz_at hS (Nat.le_of_ble_eq_true rfl) mzcS_74) h8 (g_aload_n rfl (g_getR (mz_at hS (Nat.le_of_ble_eq_true rfl) mzcS_65) mzcf_3_9 (mz_rb hR (Nat.le_of_ble_eq_true rfl) rfl mzcR_65_9) (g_iload rfl (g_dup2 rfl rfl ?_))))
    obtain ⟨h9, hp⟩ := hp
    refine g_lald (mz_at hS (Nat.le_of_ble_eq_true rfl) mzcS_74) h9 (g_lload rfl (g_ladd ?_))
    obtain ⟨h10, hp⟩ := hp
    refine g_last (mz_at hS (Nat.le_of_ble_eq_true rfl) mzcS_74) h10 ?_
    refine g_weak ?_ (g_cl (cg_234_99 hd hS hR v2 s.1 (mz_wL (mz_wL s.2 74 (mz_gI s.2 33 s.1) ((mz_gL s.2 74 (mz_gI s.2 33 s.1)) - ((((mz_gL s.2 75 (mz_gI s.2 33 s.1)) - (mz_gL s.2 75 (mz_gI s.2 34 s.1))) * ((mz_gI s.2 35 s.1).toInt64)) / 10))) 74 (mz_gI s.2 34 s.1) ((mz_gL (mz_wL s.2 74 (mz_gI s.2 33 s.1) ((mz_gL s.2 74 (mz_gI s.2 33 s.1)) - ((((mz_gL s.2 75 (mz_gI s.2 33 s.1)) - (mz_gL s.2 75 (mz_gI s.2 34 s.1))) * ((mz_gI s.2 35 s.1).toInt64)) / 10))) 74 (mz_gI s.2 34 s.1)) + ((((mz_gL s.2 75 (mz_gI s.2 33 s.1)) - (mz_gL s.2 75 (mz_gI s.2 34 s.1))) * ((mz_gI s.2 35 s.1).toInt64)) / 10))) hr hc1 hx1 hp hC))
    exact ⟨rfl, rfl, rfl, rfl, trivial⟩
  · have hp := hp.2 h1
    refine g_iconst mzi_0 (g_istore_n (Nat.le_of_ble_eq_true rfl) rfl ?_)
    refine g_weak ?_ (g_cl (cg_234_107 hd hS hR v2 0 s.2 hr hp (hx1 _ hC)))
    exact ⟨rfl, rfl, rfl, rfl, trivial⟩
theorem cg_234_16 (hd : 3 ≤ d) (hS : mz_ext S 232) (hR : mz_rok R 232)  (v2 : Int32) (v3 : Int32) (N : mz_N) {C0 : (mz_N) → Prop} (hr : ∀ (N2 : mz_N), C0 N2 → Q (.inl none) (mz_k S R N2 b t)) (hp : cp_234_16 v2 v3 N) (hC : C0 (cf_234_16 v2 v3 N)) : mz_G (d, mz_X0 L xs, none, [], mk_234, 8, Q) 16 mt_234_16 [(0, .ref 65), (1, .ref 2), (2, .int v2), (3, .int v3)] [] false (mz_k S R N b t) := by
  obtain ⟨n, hn⟩ := hp
  exact g_loop (G := fun s => mz_G (d, mz_X0 L xs, none, [], mk_234, 8, Q) 16 mt_234_16 [(0, .ref 65), (1, .ref 2), (2, .int v2), (3, .int s.1)] [] false (mz_k S R s.2 b t)) (C := C0) (fun C2 hc hx s hP hC => cb_234_16 hd hS hR v2 s hr hc hx hP hC) n (v3, N) hn hC
theorem cg_234_0 (hd : 3 ≤ d) (hS : mz_ext S 232) (hR : mz_rok R 232)  (v2 : Int32) (N : mz_N) {C0 : (mz_N) → Prop} (hr : ∀ (N2 : mz_N), C0 N2 → Q (.inl none) (mz_k S R N2 b t)) (hp : cp_234_0 v2 N) (hC : C0 (cf_234_0 v2 N)) : mz_G (d, mz_X0 L xs, none, [], mk_234, 8, Q) 0 mk_234 [(0, .ref 65), (1, .ref 2), (2, .int v2)] [] true (mz_k S R N b t) := by
  unfold cf_234_0 at hC
  unfold cp_234_0 at hp
  refine g_aload_n rfl (g_aload_n rfl (g_aload_n rfl (g_getR (mz_at hS (Nat.le_of_ble_eq_true rfl) mzcS_65) mzcf_3_2 (mz_rb hR (Nat.le_of_ble_eq_true rfl) rfl mzcR_65_2) ?_)))
  obtain ⟨h1, hp⟩ := hp
  refine g_v3n (Nat.le_of_ble_eq_true rfl) (mz_at hS (Nat.le_of_ble_eq_true rfl) mzcS_65) (fun _ hq => cs_235 (Nat.le_trans (Nat.le_of_ble_eq_true rfl) hd) (hS.le (Nat.le_of_ble_eq_true rfl)) (hR.le (Nat.le_of_ble_eq_true rfl)) 68 (mz_at hS (Nat.le_of_ble_eq_true rfl) mzcS_68) N h1 hq) (g_aload_n rfl (g_aload_n rfl ?_))
  obtain ⟨h2, hp⟩ := hp
  refine g_v2n (Nat.le_of_ble_eq_true rfl) (mz_at hS (Nat.le_of_ble_eq_true rfl) mzcS_65) (fun _ hq => cs_236 (Nat.le_trans (Nat.le_of_ble_eq_true rfl) hd) (hS.le (Nat.le_of_ble_eq_true rfl)) (hR.le (Nat.le_of_ble_eq_true rfl))  (cf_235_0 68 N) h2 hq) (g_iconst mzi_0 (g_istore_n (Nat.le_of_ble_eq_true rfl) rfl ?_))
  refine g_weak ?_ (g_cl (cg_234_16 hd hS hR v2 0 (cf_236_0 (cf_235_0 68 N)) hr hp hC))
  exact ⟨rfl, rfl, rfl, rfl, trivial⟩
theorem cs_234 (hd : 4 ≤ d) (hS : mz_ext S 232) (hR : mz_rok R 232)  (v2 : Int32) (N : mz_N) (hp : cp_234_0 v2 N) (hq : Q (.inl none) (mz_k S R (cf_234_0 v2 N) b t)) : mz_Ed (mz_X0 L xs) d 234 [.ref 65, .ref 2, .int v2] (mz_k S R N b t) Q :=
  by
  refine g_in mzq_234 (Nat.le_of_ble_eq_true rfl) (Nat.le_of_ble_eq_true rfl) (Nat.le_trans (Nat.le_of_ble_eq_true rfl) hd) ?_
  refine g_weak ?_ (cg_234_0 (d := d - 1) (by omega) hS hR v2 N (C0 := fun z => Q (.inl none) (mz_k S R z b t)) (fun _ h => h) hp hq)
  exact ⟨rfl, rfl, rfl, trivial⟩
/-! 238 KeptHouse$Supply.loadOf (I)I -/
theorem ms_238_0 : mz_sf mk_238 0 = mk_238 := mz_sf_zero _
theorem ms_238_21 : mz_sf mk_238 21 = mt_238_21 := mz_sf_add ms_238_0 (t := 21) rfl rfl
theorem ms_238_22 : mz_sf mk_238 22 = mt_238_22 := mz_sf_add ms_238_21 (t := 1) rfl rfl
set_option maxRecDepth 100000 in
theorem mzq_238 : mz_PG0 238 = some (9, ⟨"KeptHouse$Supply", "loadOf", "(I)I"⟩, prog_11_method_4_code, 2, some .int, [], mk_238, []) := rfl
theorem cg_238_0 (hd : 0 ≤ d) (hS : mz_ext S 232) (hR : mz_rok R 232)  (v1 : Int32) (N : mz_N) {C0 : (Int32) → Prop} (hr : ∀ (w : Int32), C0 w → Q (.inl (some (.int w))) (mz_k S R N b t)) (hp : cp_238_0 v1 N) (hC : C0 (cf_238_0 v1 N)) : mz_G (d, mz_X0 L xs, some .int, [], mk_238, 2, Q) 0 mk_238 [(0, .ref 56), (1, .int v1)] [] true (mz_k S R N b t) := by
  unfold cf_238_0 at hC
  unfold cp_238_0 at hp
  refine g_iload_n rfl ?_
  refine g_iflt (tg := 21) rfl ms_238_21 hC (fun h1 hC => ?_) (fun h1 hC => ?_)
  · have hp := hp.1 h1
    refine g_iconst mzi_0 ?_
    exact g_iret rfl (hr _ hC)
  · have hp := hp.2 h1
    refine g_iload_n rfl (g_bipush mzb_11 ?_)
    refine g_icge (tg := 21) rfl ms_238_21 hC (fun h2 hC => ?_) (fun h2 hC => ?_)
    · have hp := hp.1 h2
      refine g_aload_n rfl (g_getR (mz_at hS (Nat.le_of_ble_eq_true rfl) mzcS_56) mzcf_9_0 (mz_rb hR (Nat.le_of_ble_eq_true rfl) rfl mzcR_56_0) (g_iconst mzi_0 (g_aald4 (m := 58) (mz_at hS (Nat.le_of_ble_eq_true rfl) mzcS_57) (mz_ibd (by decide)) (mz_rb hR (Nat.le_of_ble_eq_true rfl) rfl mzcRr_57_0) (g_iload_n rfl ?_))))
      have h3 := hp
      refine g_iald hS.1 (mz_at hS (Nat.le_of_ble_eq_true rfl) mzcS_58) h3 (g_goto (tg := 22) rfl ms_238_22 ?_)
      exact g_iret rfl (hr _ hC)
    · have hp := hp.2 h2
      refine g_iconst mzi_0 ?_
      exact g_iret rfl (hr _ hC)
theorem cs_238 (hd : 1 ≤ d) (hS : mz_ext S 232) (hR : mz_rok R 232)  (v1 : Int32) (N : mz_N) (hp : cp_238_0 v1 N) (hq : Q (.inl (some (.int (cf_238_0 v1 N)))) (mz_k S R N b t)) : mz_Ed (mz_X0 L xs) d 238 [.ref 56, .int v1] (mz_k S R N b t) Q :=
  by
  refine g_in mzq_238 (Nat.le_of_ble_eq_true rfl) (Nat.le_of_ble_eq_true rfl) (Nat.le_trans (Nat.le_of_ble_eq_true rfl) hd) ?_
  refine g_weak ?_ (cg_238_0 (d := d - 1) (by omega) hS hR v1 N (C0 := fun z => Q (.inl (some (.int z))) (mz_k S R N b t)) (fun _ h => h) hp hq)
  exact ⟨rfl, rfl, trivial⟩
/-! 237 KeptHouse$Climate.warmHearts (LKeptHouse$Plan;LKeptHouse$Supply;I)V -/
theorem ms_237_0 : mz_sf mk_237 0 = mk_237 := mz_sf_zero _
theorem ms_237_3 : mz_sf mk_237 3 = mt_237_3 := mz_sf_add ms_237_0 (t := 3) rfl rfl
theorem ms_237_55 : mz_sf mk_237 55 = mt_237_55 := mz_sf_add ms_237_3 (t := 52) rfl rfl
theorem ms_237_61 : mz_sf mk_237 61 = mt_237_61 := mz_sf_add ms_237_55 (t := 6) rfl rfl
set_option maxRecDepth 100000 in
theorem mzq_237 : mz_PG0 237 = some (3, ⟨"KeptHouse$Climate", "warmHearts", "(LKeptHouse$Plan;LKeptHouse$Supply;I)V"⟩, prog_5_method_15_code, 6, none, [], mk_237, []) := rfl
theorem cg_237_55 (hd : 2 ≤ d) (hS : mz_ext S 232) (hR : mz_rok R 232)  (v3 : Int32) (v4 : Int32) (N : mz_N) {C0 : (mz_N) → Prop} (hr : ∀ (N2 : mz_N), C0 N2 → Q (.inl none) (mz_k S R N2 b t)) {C1 : ((Int32 × mz_N) ⊕ (mz_N)) → Prop} (hc1 : ∀ s2, C1 (.inl s2) → mz_G (d, mz_X0 L xs, none, [], mk_237, 6, Q) 3 mt_237_3 [(0, .ref 65), (1, .ref 2), (2, .ref 56), (3, .int v3), (4, .int s2.1)] [] false (mz_k S R s2.2 b t)) (hx1 : ∀ z, C1 (.inr z) → C0 z) (hp : cp_237_55 v3 v4 N) (hC : C1 (cf_237_55 v3 v4 N)) : mz_G (d, mz_X0 L xs, none, [], mk_237, 6, Q) 55 mt_237_55 [(0, .ref 65), (1, .ref 2), (2, .ref 56), (3, .int v3), (4, .int v4)] [] false (mz_k S R N b t) := by
  unfold cf_237_55 at hC
  unfold cp_237_55 at hp
  refine g_iinc rfl mzi_1 (Nat.le_of_ble_eq_true rfl) rfl (g_goto (tg := 3) rfl ms_237_3 ?_)
  refine g_weak ?_ (g_cl (hc1 ((v4 + 1), N) hC))
  exact ⟨rfl, rfl, rfl, rfl, rfl, trivial⟩
theorem cb_237_3 (hd : 2 ≤ d) (hS : mz_ext S 232) (hR : mz_rok R 232)  (v3 : Int32) (s : Int32 × mz_N) {C0 : (mz_N) → Prop} (hr : ∀ (N2 : mz_N), C0 N2 → Q (.inl none) (mz_k S R N2 b t)) {C1 : ((Int32 × mz_N) ⊕ (mz_N)) → Prop} (hc1 : ∀ s2, C1 (.inl s2) → mz_G (d, mz_X0 L xs, none, [], mk_237, 6, Q) 3 mt_237_3 [(0, .ref 65), (1, .ref 2), (2, .ref 56), (3, .int v3), (4, .int s2.1)] [] false (mz_k S R s2.2 b t)) (hx1 : ∀ z, C1 (.inr z) → C0 z) (hp : cd_237_3 v3 s) (hC : C1 (cq_237_3 v3 s)) : mz_G (d, mz_X0 L xs, none, [], mk_237, 6, Q) 3 mt_237_3 [(0, .ref 65), (1, .ref 2), (2, .ref 56), (3, .int v3), (4, .int s.1)] [] false (mz_k S R s.2 b t) := by
  unfold cq_237_3 at hC
  unfold cd_237_3 at hp
  refine g_iload rfl (g_bipush mzb_10 ?_)
  refine g_icge (tg := 61) rfl ms_237_61 hC (fun h1 hC => ?_) (fun h1 hC => ?_)
  · have hp := hp.1 h1
    refine g_aload_n rfl (g_getR (mz_at hS (Nat.le_of_ble_eq_true rfl) mzcS_2) mzcf_5_16 (mz_rb hR (Nat.le_of_ble_eq_true rfl) rfl mzcR_2_16) (g_iload rfl ?_))
    obtain ⟨h2, hp⟩ := hp
    refine g_iald hS.1 (mz_at hS (Nat.le_of_ble_eq_true rfl) mzcS_38) h2 (g_istore (Nat.le_of_ble_eq_true rfl) rfl (g_iload rfl (g_iconst mzi_m1 ?_)))
    refine g_iceq (tg := 55) rfl ms_237_55 hC (fun h3 hC => ?_) (fun h3 hC => ?_)
    · have hp := hp.1 h3
      refine g_weak ?_ (g_cl (cg_237_55 hd hS hR v3 s.1 s.2 hr hc1 hx1 hp hC))
      exact ⟨rfl, rfl, rfl, rfl, rfl, trivial⟩
    · have hp := hp.2 h3
      refine g_aload_n rfl (g_getR (mz_at hS (Nat.le_of_ble_eq_true rfl) mzcS_65) mzcf_3_9 (mz_rb hR (Nat.le_of_ble_eq_true rfl) rfl mzcR_65_9) (g_iload rfl (g_dup2 rfl rfl ?_)))
      obtain ⟨h4, hp⟩ := hp
      refine g_lald (mz_at hS (Nat.le_of_ble_eq_true rfl) mzcS_74) h4 (g_bipush mzb_8 (g_aload_n rfl (g_iload rfl (g_iload_n rfl ?_))))
      obtain ⟨h5, hp⟩ := hp
      refine g_v3v (Nat.le_of_ble_eq_true rfl) (mz_at hS (Nat.le_of_ble_eq_true rfl) mzcS_2) (fun _ hq => cs_221 (Nat.le_trans (Nat.le_of_ble_eq_true rfl) hd) (hS.le (Nat.le_of_ble_eq_true rfl)) (hR.le (Nat.le_of_ble_eq_true rfl))  s.1 v3 s.2 h5 hq) (g_imul (g_iconst mzi_3 (g_aload_n rfl (g_iload rfl ?_))))
      obtain ⟨h6, hp⟩ := hp
      refine g_v2v (Nat.le_of_ble_eq_true rfl) (mz_at hS (Nat.le_of_ble_eq_true rfl) mzcS_56) (fun _ hq => cs_238 (Nat.le_trans (Nat.le_of_ble_eq_true rfl) hd) (hS.le (Nat.le_of_ble_eq_true rfl)) (hR.le (Nat.le_of_ble_eq_true rfl))  s.1 s.2 h6 hq) (g_imul (g_iadd (g_i2l (g_ladd ?_))))
      obtain ⟨h7, hp⟩ := hp
      refine g_last (mz_at hS (Nat.le_of_ble_eq_true rfl) mzcS_74) h7 ?_
      refine g_weak ?_ (g_cl (cg_237_55 hd hS hR v3 s.1 (mz_wL s.2 74 (mz_gI s.2 38 s.1) ((mz_gL s.2 74 (mz_gI s.2 38 s.1)) + (((8 * (cf_221_0 s.1 v3 s.2)) + (3 * (cf_238_0 s.1 s.2))).toInt64))) hr hc1 hx1 hp hC))
      exact ⟨rfl, rfl, rfl, rfl, rfl, trivial⟩
  · have hp := hp.2 h1
    exact g_vret rfl (hr _ (hx1 _ hC))
theorem cg_237_3 (hd : 2 ≤ d) (hS : mz_ext S 232) (hR : mz_rok R 232)  (v3 : Int32) (v4 : Int32) (N : mz_N) {C0 : (mz_N) → Prop} (hr : ∀ (N2 : mz_N), C0 N2 → Q (.inl none) (mz_k S R N2 b t)) (hp : cp_237_3 v3 v4 N) (hC : C0 (cf_237_3 v3 v4 N)) : mz_G (d, mz_X0 L xs, none, [], mk_237, 6, Q) 3 mt_237_3 [(0, .ref 65), (1, .ref 2), (2, .ref 56), (3, .int v3), (4, .int v4)] [] false (mz_k S R N b t) := by
  obtain ⟨n, hn⟩ := hp
  exact g_loop (G := fun s => mz_G (d, mz_X0 L xs, none, [], mk_237, 6, Q) 3 mt_237_3 [(0, .ref 65), (1, .ref 2), (2, .ref 56), (3, .int v3), (4, .int s.1)] [] false (mz_k S R s.2 b t)) (C := C0) (fun C2 hc hx s hP hC => cb_237_3 hd hS hR v3 s hr hc hx hP hC) n (v4, N) hn hC
theorem cg_237_0 (hd : 2 ≤ d) (hS : mz_ext S 232) (hR : mz_rok R 232)  (v3 : Int32) (N : mz_N) {C0 : (mz_N) → Prop} (hr : ∀ (N2 : mz_N), C0 N2 → Q (.inl none) (mz_k S R N2 b t)) (hp : cp_237_0 v3 N) (hC : C0 (cf_237_0 v3 N)) : mz_G (d, mz_X0 L xs, none, [], mk_237, 6, Q) 0 mk_237 [(0, .ref 65), (1, .ref 2), (2, .ref 56), (3, .int v3)] [] true (mz_k S R N b t) := by
  unfold cf_237_0 at hC
  unfold cp_237_0 at hp
  refine g_iconst mzi_0 (g_istore (Nat.le_of_ble_eq_true rfl) rfl ?_)
  refine g_weak ?_ (g_cl (cg_237_3 hd hS hR v3 0 N hr hp hC))
  exact ⟨rfl, rfl, rfl, rfl, rfl, trivial⟩
theorem cs_237 (hd : 3 ≤ d) (hS : mz_ext S 232) (hR : mz_rok R 232)  (v3 : Int32) (N : mz_N) (hp : cp_237_0 v3 N) (hq : Q (.inl none) (mz_k S R (cf_237_0 v3 N) b t)) : mz_Ed (mz_X0 L xs) d 237 [.ref 65, .ref 2, .ref 56, .int v3] (mz_k S R N b t) Q :=
  by
  refine g_in mzq_237 (Nat.le_of_ble_eq_true rfl) (Nat.le_of_ble_eq_true rfl) (Nat.le_trans (Nat.le_of_ble_eq_true rfl) hd) ?_
  refine g_weak ?_ (cg_237_0 (d := d - 1) (by omega) hS hR v3 N (C0 := fun z => Q (.inl none) (mz_k S R z b t)) (fun _ h => h) hp hq)
  exact ⟨rfl, rfl, rfl, rfl, trivial⟩
/-! 241 KeptHouse$Books.greatest ([JI)I -/
theorem ms_241_0 : mz_sf mk_241 0 = mk_241 := mz_sf_zero _
theorem ms_241_4 : mz_sf mk_241 4 = mt_241_4 := mz_sf_add ms_241_0 (t := 4) rfl rfl
theorem ms_241_21 : mz_sf mk_241 21 = mt_241_21 := mz_sf_add ms_241_4 (t := 17) rfl rfl
theorem ms_241_27 : mz_sf mk_241 27 = mt_241_27 := mz_sf_add ms_241_21 (t := 6) rfl rfl
set_option maxRecDepth 100000 in
theorem mzq_241 : mz_PG0 241 = some (1, ⟨"KeptHouse$Books", "greatest", "([JI)I"⟩, prog_3_method_7_code, 4, some .int, [], mk_241, []) := rfl
theorem cg_241_21 (hd : 0 ≤ d) (hS : mz_ext S 232) (hR : mz_rok R 232) (a0 : Nat) (n0 : Nat) (hs0 : S[a0]? = some (1, n0, [])) (v1 : Int32) (v2 : Int32) (v3 : Int32) (N : mz_N) {C0 : (Int32) → Prop} (hr : ∀ (w : Int32), C0 w → Q (.inl (some (.int w))) (mz_k S R N b t)) {C1 : ((Int32 × Int32) ⊕ (Int32)) → Prop} (hc1 : ∀ s2, C1 (.inl s2) → mz_G (d, mz_X0 L xs, some .int, [], mk_241, 4, Q) 4 mt_241_4 [(0, .ref a0), (1, .int v1), (2, .int s2.1), (3, .int s2.2)] [] false (mz_k S R N b t)) (hx1 : ∀ z, C1 (.inr z) → C0 z) (hp : cp_241_21 a0 n0 v1 v2 v3 N) (hC : C1 (cf_241_21 a0 n0 v1 v2 v3 N)) : mz_G (d, mz_X0 L xs, some .int, [], mk_241, 4, Q) 21 mt_241_21 [(0, .ref a0), (1, .int v1), (2, .int v2), (3, .int v3)] [] false (mz_k S R N b t) := by
  unfold cf_241_21 at hC
  unfold cp_241_21 at hp
  refine g_iinc rfl mzi_1 (Nat.le_of_ble_eq_true rfl) rfl (g_goto (tg := 4) rfl ms_241_4 ?_)
  refine g_weak ?_ (g_cl (hc1 (v2, (v3 + 1)) hC))
  exact ⟨rfl, rfl, rfl, rfl, trivial⟩
theorem cb_241_4 (hd : 0 ≤ d) (hS : mz_ext S 232) (hR : mz_rok R 232) (a0 : Nat) (n0 : Nat) (hs0 : S[a0]? = some (1, n0, [])) (v1 : Int32) (N : mz_N) (s : Int32 × Int32) {C0 : (Int32) → Prop} (hr : ∀ (w : Int32), C0 w → Q (.inl (some (.int w))) (mz_k S R N b t)) {C1 : ((Int32 × Int32) ⊕ (Int32)) → Prop} (hc1 : ∀ s2, C1 (.inl s2) → mz_G (d, mz_X0 L xs, some .int, [], mk_241, 4, Q) 4 mt_241_4 [(0, .ref a0), (1, .int v1), (2, .int s2.1), (3, .int s2.2)] [] false (mz_k S R N b t)) (hx1 : ∀ z, C1 (.inr z) → C0 z) (hp : cd_241_4 a0 n0 v1 N s) (hC : C1 (cq_241_4 a0 n0 v1 N s)) : mz_G (d, mz_X0 L xs, some .int, [], mk_241, 4, Q) 4 mt_241_4 [(0, .ref a0), (1, .int v1), (2, .int s.1), (3, .int s.2)] [] false (mz_k S R N b t) := by
  unfold cq_241_4 at hC
  unfold cd_241_4 at hp
  refine g_iload_n rfl (g_iload_n rfl ?_)
  refine g_icge (tg := 27) rfl ms_241_27 hC (fun h1 hC => ?_) (fun h1 hC => ?_)
  · have hp := hp.1 h1
    refine g_aload_n rfl (g_iload_n rfl ?_)
    obtain ⟨h2, hp⟩ := hp
    refine g_lald hs0 h2 (g_aload_n rfl (g_iload_n rfl ?_))
    obtain ⟨h3, hp⟩ := hp
    refine g_lald hs0 h3 (g_lcmp ?_)
    refine g_lle (tg := 21) rfl ms_241_21 hC (fun h4 hC => ?_) (fun h4 hC => ?_)
    · have hp := hp.1 h4
      refine g_iload_n rfl (g_istore_n (Nat.le_of_ble_eq_true rfl) rfl ?_)
      refine g_weak ?_ (g_cl (cg_241_21 hd hS hR a0 n0 hs0 v1 s.2 s.2 N hr hc1 hx1 hp hC))
      exact ⟨rfl, rfl, rfl, rfl, trivial⟩
    · have hp := hp.2 h4
      refine g_weak ?_ (g_cl (cg_241_21 hd hS hR a0 n0 hs0 v1 s.1 s.2 N hr hc1 hx1 hp hC))
      exact ⟨rfl, rfl, rfl, rfl, trivial⟩
  · have hp := hp.2 h1
    refine g_iload_n rfl ?_
    exact g_iret rfl (hr _ (hx1 _ hC))
theorem cg_241_4 (hd : 0 ≤ d) (hS : mz_ext S 232) (hR : mz_rok R 232) (a0 : Nat) (n0 : Nat) (hs0 : S[a0]? = some (1, n0, [])) (v1 : Int32) (v2 : Int32) (v3 : Int32) (N : mz_N) {C0 : (Int32) → Prop} (hr : ∀ (w : Int32), C0 w → Q (.inl (some (.int w))) (mz_k S R N b t)) (hp : cp_241_4 a0 n0 v1 v2 v3 N) (hC : C0 (cf_241_4 a0 n0 v1 v2 v3 N)) : mz_G (d, mz_X0 L xs, some .int, [], mk_241, 4, Q) 4 mt_241_4 [(0, .ref a0), (1, .int v1), (2, .int v2), (3, .int v3)] [] false (mz_k S R N b t) := by
  obtain ⟨n, hn⟩ := hp
  exact g_loop (G := fun s => mz_G (d, mz_X0 L xs, some .int, [], mk_241, 4, Q) 4 mt_241_4 [(0, .ref a0), (1, .int v1), (2, .int s.1), (3, .int s.2)] [] false (mz_k S R N b t)) (C := C0) (fun C2 hc hx s hP hC => cb_241_4 hd hS hR a0 n0 hs0 v1 N s hr hc hx hP hC) n (v2, v3) hn hC
theorem cg_241_0 (hd : 0 ≤ d) (hS : mz_ext S 232) (hR : mz_rok R 232) (a0 : Nat) (n0 : Nat) (hs0 : S[a0]? = some (1, n0, [])) (v1 : Int32) (N : mz_N) {C0 : (Int32) → Prop} (hr : ∀ (w : Int32), C0 w → Q (.inl (some (.int w))) (mz_k S R N b t)) (hp : cp_241_0 a0 n0 v1 N) (hC : C0 (cf_241_0 a0 n0 v1 N)) : mz_G (d, mz_X0 L xs, some .int, [], mk_241, 4, Q) 0 mk_241 [(0, .ref a0), (1, .int v1)] [] true (mz_k S R N b t) := by
  unfold cf_241_0 at hC
  unfold cp_241_0 at hp
  refine g_iconst mzi_0 (g_istore_n (Nat.le_of_ble_eq_true rfl) rfl (g_iconst mzi_1 (g_istore_n (Nat.le_of_ble_eq_true rfl) rfl ?_)))
  refine g_weak ?_ (g_cl (cg_241_4 hd hS hR a0 n0 hs0 v1 0 1 N hr hp hC))
  exact ⟨rfl, rfl, rfl, rfl, trivial⟩
theorem cs_241 (hd : 1 ≤ d) (hS : mz_ext S 232) (hR : mz_rok R 232) (a0 : Nat) (n0 : Nat) (hs0 : S[a0]? = some (1, n0, [])) (v1 : Int32) (N : mz_N) (hp : cp_241_0 a0 n0 v1 N) (hq : Q (.inl (some (.int (cf_241_0 a0 n0 v1 N)))) (mz_k S R N b t)) : mz_Ed (mz_X0 L xs) d 241 [.ref a0, .int v1] (mz_k S R N b t) Q :=
  by
  refine g_in mzq_241 (Nat.le_of_ble_eq_true rfl) (Nat.le_of_ble_eq_true rfl) (Nat.le_trans (Nat.le_of_ble_eq_true rfl) hd) ?_
  refine g_weak ?_ (cg_241_0 (d := d - 1) (by omega) hS hR a0 n0 hs0 v1 N (C0 := fun z => Q (.inl (some (.int z))) (mz_k S R N b t)) (fun _ h => h) hp hq)
  exact ⟨rfl, rfl, trivial⟩
/-! 240 KeptHouse$Books.share (J[JI[J[J)Z -/
theorem ms_240_0 : mz_sf mk_240 0 = mk_240 := mz_sf_zero _
theorem ms_240_6 : mz_sf mk_240 6 = mt_240_6 := mz_sf_add ms_240_0 (t := 6) rfl rfl
theorem ms_240_27 : mz_sf mk_240 27 = mt_240_27 := mz_sf_add ms_240_6 (t := 21) rfl rfl
theorem ms_240_33 : mz_sf mk_240 33 = mt_240_33 := mz_sf_add ms_240_27 (t := 6) rfl rfl
theorem ms_240_42 : mz_sf mk_240 42 = mt_240_42 := mz_sf_add ms_240_33 (t := 9) rfl rfl
theorem ms_240_48 : mz_sf mk_240 48 = mt_240_48 := mz_sf_add ms_240_42 (t := 6) rfl rfl
theorem ms_240_68 : mz_sf mk_240 68 = mt_240_68 := mz_sf_add ms_240_48 (t := 20) rfl rfl
theorem ms_240_92 : mz_sf mk_240 92 = mt_240_92 := mz_sf_add ms_240_68 (t := 24) rfl rfl
theorem ms_240_98 : mz_sf mk_240 98 = mt_240_98 := mz_sf_add ms_240_92 (t := 6) rfl rfl
theorem ms_240_101 : mz_sf mk_240 101 = mt_240_101 := mz_sf_add ms_240_98 (t := 3) rfl rfl
theorem ms_240_131 : mz_sf mk_240 131 = mt_240_131 := mz_sf_add ms_240_101 (t := 30) rfl rfl
theorem ms_240_151 : mz_sf mk_240 151 = mt_240_151 := mz_sf_add ms_240_131 (t := 20) rfl rfl
set_option maxRecDepth 100000 in
theorem mzq_240 : mz_PG0 240 = some (1, ⟨"KeptHouse$Books", "share", "(J[JI[J[J)Z"⟩, prog_3_method_6_code, 12, some .boolean, [], mk_240, []) := rfl
theorem cg_240_92 (hd : 1 ≤ d) (hS : mz_ext S 232) (hR : mz_rok R 232) (a1 : Nat) (n1 : Nat) (a3 : Nat) (n3 : Nat) (a4 : Nat) (n4 : Nat) (hs1 : S[a1]? = some (1, n1, [])) (hs3 : S[a3]? = some (1, n3, [])) (hs4 : S[a4]? = some (1, n4, [])) (v0 : Int64) (v3 : Int32) (v6 : Int64) (v8 : Int64) (v10 : Int32) (N : mz_N) {C0 : (Bool × mz_N) → Prop} (hr : ∀ (w : Bool) (N2 : mz_N), C0 (w, N2) → Q (.inl (some (.int (mz_b01 w)))) (mz_k S R N2 b t)) {C1 : ((Int64 × Int32 × mz_N) ⊕ (Bool × mz_N)) → Prop} (hc1 : ∀ s2, C1 (.inl s2) → mz_G (d, mz_X0 L xs, some .boolean, [], mk_240, 12, Q) 48 mt_240_48 [(0, .long v0), (2, .ref a1), (3, .int v3), (4, .ref a3), (5, .ref a4), (6, .long v6), (8, .long s2.1), (10, .int s2.2.1)] [] false (mz_k S R s2.2.2 b t)) (hx1 : ∀ z, C1 (.inr z) → C0 z) (hp : cp_240_92 a1 n1 a3 n3 a4 n4 v0 v3 v6 v8 v10 N) (hC : C1 (cf_240_92 a1 n1 a3 n3 a4 n4 v0 v3 v6 v8 v10 N)) : mz_G (d, mz_X0 L xs, some .boolean, [], mk_240, 12, Q) 92 mt_240_92 [(0, .long v0), (2, .ref a1), (3, .int v3), (4, .ref a3), (5, .ref a4), (6, .long v6), (8, .long v8), (10, .int v10)] [] false (mz_k S R N b t) := by
  unfold cf_240_92 at hC
  unfold cp_240_92 at hp
  refine g_iinc rfl mzi_1 (Nat.le_of_ble_eq_true rfl) rfl (g_goto (tg := 48) rfl ms_240_48 ?_)
  refine g_weak ?_ (g_cl (hc1 (v8, (v10 + 1), N) hC))
  exact ⟨rfl, rfl, rfl, rfl, rfl, rfl, rfl, rfl, trivial⟩
theorem cg_240_131 (hd : 1 ≤ d) (hS : mz_ext S 232) (hR : mz_rok R 232) (a1 : Nat) (n1 : Nat) (a3 : Nat) (n3 : Nat) (a4 : Nat) (n4 : Nat) (hs1 : S[a1]? = some (1, n1, [])) (hs3 : S[a3]? = some (1, n3, [])) (hs4 : S[a4]? = some (1, n4, [])) (v3 : Int32) (v8 : Int64) (v10 : Int32) (v11 : Int32) (N : mz_N) {C0 : (Bool × mz_N) → Prop} (hr : ∀ (w : Bool) (N2 : mz_N), C0 (w, N2) → Q (.inl (some (.int (mz_b01 w)))) (mz_k S R N2 b t)) {C1 : ((Int64 × Int32 × mz_N) ⊕ (Bool × mz_N)) → Prop} (hc1 : ∀ s2, C1 (.inl s2) → mz_G (d, mz_X0 L xs, some .boolean, [], mk_240, 12, Q) 101 mt_240_101 [(3, .int v3), (4, .ref a3), (5, .ref a4), (8, .long s2.1), (10, .int s2.2.1)] [] false (mz_k S R s2.2.2 b t)) (hx1 : ∀ z, C1 (.inr z) → C0 z) (hp : cp_240_131 a1 n1 a3 n3 a4 n4 v3 v8 v10 v11 N) (hC : C1 (cf_240_131 a1 n1 a3 n3 a4 n4 v3 v8 v10 v11 N)) : mz_G (d, mz_X0 L xs, some .boolean, [], mk_240, 12, Q) 131 mt_240_131 [(3, .int v3), (4, .ref a3), (5, .ref a4), (8, .long v8), (10, .int v10), (11, .int v11)] [] false (mz_k S R N b t) := by
  unfold cf_240_131 at hC
  unfold cp_240_131 at hp
  refine g_aload rfl (g_iload rfl (g_con3 ?_))
  have h1 := hp
  refine g_last hs4 h1 (g_lload rfl (g_lconst mzl_1 (g_lsub (g_lstore (Nat.le_of_ble_eq_true rfl) rfl rfl (g_iinc rfl mzi_1 (Nat.le_of_ble_eq_true rfl) rfl (g_goto (tg := 101) rfl ms_240_101 ?_))))))
  refine g_weak ?_ (g_cl (hc1 ((v8 - 1), (v10 + 1), mz_wL N a4 v11 (-1)) hC))
  exact ⟨rfl, rfl, rfl, rfl, rfl, trivial⟩
theorem cb_240_101 (hd : 1 ≤ d) (hS : mz_ext S 232) (hR : mz_rok R 232) (a1 : Nat) (n1 : Nat) (a3 : Nat) (n3 : Nat) (a4 : Nat) (n4 : Nat) (hs1 : S[a1]? = some (1, n1, [])) (hs3 : S[a3]? = some (1, n3, [])) (hs4 : S[a4]? = some (1, n4, [])) (v3 : Int32) (s : Int64 × Int32 × mz_N) {C0 : (Bool × mz_N) → Prop} (hr : ∀ (w : Bool) (N2 : mz_N), C0 (w, N2) → Q (.inl (some (.int (mz_b01 w)))) (mz_k S R N2 b t)) {C1 : ((Int64 × Int32 × mz_N) ⊕ (Bool × mz_N)) → Prop} (hc1 : ∀ s2, C1 (.inl s2) → mz_G (d, mz_X0 L xs, some .boolean, [], mk_240, 12, Q) 101 mt_240_101 [(3, .int v3), (4, .ref a3), (5, .ref a4), (8, .long s2.1), (10, .int s2.2.1)] [] false (mz_k S R s2.2.2 b t)) (hx1 : ∀ z, C1 (.inr z) → C0 z) (hp : cd_240_101 a1 n1 a3 n3 a4 n4 v3 s) (hC : C1 (cq_240_101 a1 n1 a3 n3 a4 n4 v3 s)) : mz_G (d, mz_X0 L xs, some .boolean, [], mk_240, 12, Q) 101 mt_240_101 [(3, .int v3), (4, .ref a3), (5, .ref a4), (8, .long s.1), (10, .int s.2.1)] [] false (mz_k S R s.2.2 b t) := by
  unfold cq_240_101 at hC
  unfold cd_240_101 at hp
  refine g_iload rfl (g_iload_n rfl ?_)
  refine g_icge (tg := 151) rfl ms_240_151 hC (fun h1 hC => ?_) (fun h1 hC => ?_)
  · have hp := hp.1 h1
    refine g_lload rfl (g_lconst mzl_0 (g_lcmp ?_))
    refine g_lle (tg := 151) rfl ms_240_151 hC (fun h2 hC => ?_) (fun h2 hC => ?_)
    · have hp := hp.1 h2
      refine g_aload rfl (g_iload_n rfl ?_)
      obtain ⟨h3, hp⟩ := hp
      refine g_s2v (Nat.le_of_ble_eq_true rfl) (fun _ hq => cs_241 (Nat.le_trans (Nat.le_of_ble_eq_true rfl) hd) (hS.le (Nat.le_of_ble_eq_true rfl)) (hR.le (Nat.le_of_ble_eq_true rfl)) a4 n4 hs4 v3 s.2.2 h3 hq) (g_istore (Nat.le_of_ble_eq_true rfl) rfl (g_aload rfl (g_iload rfl (g_dup2 rfl rfl ?_))))
      obtain ⟨h4, hp⟩ := hp
      refine g_lald hs3 h4 (g_lconst mzl_1 (g_ladd ?_))
      obtain ⟨h5, hp⟩ := hp
      refine g_last hs3 h5 ?_
      refine g_weak ?_ (g_cl (cg_240_131 hd hS hR a1 n1 a3 n3 a4 n4 hs1 hs3 hs4 v3 s.1 s.2.1 (cf_241_0 a4 n4 v3 s.2.2) (mz_wL s.2.2 a3 (cf_241_0 a4 n4 v3 s.2.2) ((mz_gL s.2.2 a3 (cf_241_0 a4 n4 v3 s.2.2)) + 1)) hr hc1 hx1 hp hC))
      exact ⟨rfl, rfl, rfl, rfl, rfl, rfl, trivial⟩
    · have hp := hp.2 h2
      refine g_iconst mzi_1 ?_
      exact g_zret (z := true) rfl (hr _ _ (hx1 _ hC))
  · have hp := hp.2 h1
    refine g_iconst mzi_1 ?_
    exact g_zret (z := true) rfl (hr _ _ (hx1 _ hC))
theorem cg_240_101 (hd : 1 ≤ d) (hS : mz_ext S 232) (hR : mz_rok R 232) (a1 : Nat) (n1 : Nat) (a3 : Nat) (n3 : Nat) (a4 : Nat) (n4 : Nat) (hs1 : S[a1]? = some (1, n1, [])) (hs3 : S[a3]? = some (1, n3, [])) (hs4 : S[a4]? = some (1, n4, [])) (v3 : Int32) (v8 : Int64) (v10 : Int32) (N : mz_N) {C0 : (Bool × mz_N) → Prop} (hr : ∀ (w : Bool) (N2 : mz_N), C0 (w, N2) → Q (.inl (some (.int (mz_b01 w)))) (mz_k S R N2 b t)) (hp : cp_240_101 a1 n1 a3 n3 a4 n4 v3 v8 v10 N) (hC : C0 (cf_240_101 a1 n1 a3 n3 a4 n4 v3 v8 v10 N)) : mz_G (d, mz_X0 L xs, some .boolean, [], mk_240, 12, Q) 101 mt_240_101 [(3, .int v3), (4, .ref a3), (5, .ref a4), (8, .long v8), (10, .int v10)] [] false (mz_k S R N b t) := by
  obtain ⟨n, hn⟩ := hp
  exact g_loop (G := fun s => mz_G (d, mz_X0 L xs, some .boolean, [], mk_240, 12, Q) 101 mt_240_101 [(3, .int v3), (4, .ref a3), (5, .ref a4), (8, .long s.1), (10, .int s.2.1)] [] false (mz_k S R s.2.2 b t)) (C := C0) (fun C2 hc hx s hP hC => cb_240_101 hd hS hR a1 n1 a3 n3 a4 n4 hs1 hs3 hs4 v3 s hr hc hx hP hC) n (v8, v10, N) hn hC
theorem cb_240_48 (hd : 1 ≤ d) (hS : mz_ext S 232) (hR : mz_rok R 232) (a1 : Nat) (n1 : Nat) (a3 : Nat) (n3 : Nat) (a4 : Nat) (n4 : Nat) (hs1 : S[a1]? = some (1, n1, [])) (hs3 : S[a3]? = some (1, n3, [])) (hs4 : S[a4]? = some (1, n4, [])) (v0 : Int64) (v3 : Int32) (v6 : Int64) (s : Int64 × Int32 × mz_N) {C0 : (Bool × mz_N) → Prop} (hr : ∀ (w : Bool) (N2 : mz_N), C0 (w, N2) → Q (.inl (some (.int (mz_b01 w)))) (mz_k S R N2 b t)) {C1 : ((Int64 × Int32 × mz_N) ⊕ (Bool × mz_N)) → Prop} (hc1 : ∀ s2, C1 (.inl s2) → mz_G (d, mz_X0 L xs, some .boolean, [], mk_240, 12, Q) 48 mt_240_48 [(0, .long v0), (2, .ref a1), (3, .int v3), (4, .ref a3), (5, .ref a4), (6, .long v6), (8, .long s2.1), (10, .int s2.2.1)] [] false (mz_k S R s2.2.2 b t)) (hx1 : ∀ z, C1 (.inr z) → C0 z) (hp : cd_240_48 a1 n1 a3 n3 a4 n4 v0 v3 v6 s) (hC : C1 (cq_240_48 a1 n1 a3 n3 a4 n4 v0 v3 v6 s)) : mz_G (d, mz_X0 L xs, some .boolean, [], mk_240, 12, Q) 48 mt_240_48 [(0, .long v0), (2, .ref a1), (3, .int v3), (4, .ref a3), (5, .ref a4), (6, .long v6), (8, .long s.1), (10, .int s.2.1)] [] false (mz_k S R s.2.2 b t) := by
  unfold cq_240_48 at hC
  unfold cd_240_48 at hp
  refine g_iload rfl (g_iload_n rfl ?_)
  refine g_icge (tg := 98) rfl ms_240_98 hC (fun h1 hC => ?_) (fun h1 hC => ?_)
  · have hp := hp.1 h1
    refine g_aload rfl (g_iload rfl (g_lload_n rfl (g_aload_n rfl (g_iload rfl ?_))))
    obtain ⟨h2, hp⟩ := hp
    refine g_lald hs1 h2 (g_lmul (g_lload rfl ?_))
    obtain ⟨h3, hp⟩ := hp
    refine g_ldiv h3 ?_
    obtain ⟨h4, hp⟩ := hp
    refine g_last hs3 h4 (g_aload rfl (g_iload rfl (g_lload_n rfl (g_aload_n rfl (g_iload rfl ?_)))))
    obtain ⟨h5, hp⟩ := hp
    refine g_lald hs1 h5 (g_lmul (g_lload rfl ?_))
    obtain ⟨h6, hp⟩ := hp
    refine g_lrem h6 ?_
    obtain ⟨h7, hp⟩ := hp
    refine g_last hs4 h7 (g_lload rfl (g_aload rfl (g_iload rfl ?_)))
    obtain ⟨h8, hp⟩ := hp
    refine g_lald hs3 h8 (g_lsub (g_lstore (Nat.le_of_ble_eq_true rfl) rfl rfl ?_))
    refine g_weak ?_ (g_cl (cg_240_92 hd hS hR a1 n1 a3 n3 a4 n4 hs1 hs3 hs4 v0 v3 v6 (s.1 - (mz_gL (mz_wL (mz_wL s.2.2 a3 s.2.1 ((v0 * (mz_gL s.2.2 a1 s.2.1)) / v6)) a4 s.2.1 (mz_lrem (v0 * (mz_gL (mz_wL s.2.2 a3 s.2.1 ((v0 * (mz_gL s.2.2 a1 s.2.1)) / v6)) a1 s.2.1)) v6)) a3 s.2.1)) s.2.1 (mz_wL (mz_wL s.2.2 a3 s.2.1 ((v0 * (mz_gL s.2.2 a1 s.2.1)) / v6)) a4 s.2.1 (mz_lrem (v0 * (mz_gL (mz_wL s.2.2 a3 s.2.1 ((v0 * (mz_gL s.2.2 a1 s.2.1)) / v6)) a1 s.2.1)) v6)) hr hc1 hx1 hp hC))
    exact ⟨rfl, rfl, rfl, rfl, rfl, rfl, rfl, rfl, trivial⟩
  · have hp := hp.2 h1
    refine g_iconst mzi_0 (g_istore (Nat.le_of_ble_eq_true rfl) rfl ?_)
    refine g_weak ?_ (g_cl (cg_240_101 hd hS hR a1 n1 a3 n3 a4 n4 hs1 hs3 hs4 v3 s.1 0 s.2.2 hr hp (hx1 _ hC)))
    exact ⟨rfl, rfl, rfl, rfl, rfl, trivial⟩
theorem cg_240_48 (hd : 1 ≤ d) (hS : mz_ext S 232) (hR : mz_rok R 232) (a1 : Nat) (n1 : Nat) (a3 : Nat) (n3 : Nat) (a4 : Nat) (n4 : Nat) (hs1 : S[a1]? = some (1, n1, [])) (hs3 : S[a3]? = some (1, n3, [])) (hs4 : S[a4]? = some (1, n4, [])) (v0 : Int64) (v3 : Int32) (v6 : Int64) (v8 : Int64) (v10 : Int32) (N : mz_N) {C0 : (Bool × mz_N) → Prop} (hr : ∀ (w : Bool) (N2 : mz_N), C0 (w, N2) → Q (.inl (some (.int (mz_b01 w)))) (mz_k S R N2 b t)) (hp : cp_240_48 a1 n1 a3 n3 a4 n4 v0 v3 v6 v8 v10 N) (hC : C0 (cf_240_48 a1 n1 a3 n3 a4 n4 v0 v3 v6 v8 v10 N)) : mz_G (d, mz_X0 L xs, some .boolean, [], mk_240, 12, Q) 48 mt_240_48 [(0, .long v0), (2, .ref a1), (3, .int v3), (4, .ref a3), (5, .ref a4), (6, .long v6), (8, .long v8), (10, .int v10)] [] false (mz_k S R N b t) := by
  obtain ⟨n, hn⟩ := hp
  exact g_loop (G := fun s => mz_G (d, mz_X0 L xs, some .boolean, [], mk_240, 12, Q) 48 mt_240_48 [(0, .long v0), (2, .ref a1), (3, .int v3), (4, .ref a3), (5, .ref a4), (6, .long v6), (8, .long s.1), (10, .int s.2.1)] [] false (mz_k S R s.2.2 b t)) (C := C0) (fun C2 hc hx s hP hC => cb_240_48 hd hS hR a1 n1 a3 n3 a4 n4 hs1 hs3 hs4 v0 v3 v6 s hr hc hx hP hC) n (v8, v10, N) hn hC
theorem cb_240_6 (hd : 1 ≤ d) (hS : mz_ext S 232) (hR : mz_rok R 232) (a1 : Nat) (n1 : Nat) (a3 : Nat) (n3 : Nat) (a4 : Nat) (n4 : Nat) (hs1 : S[a1]? = some (1, n1, [])) (hs3 : S[a3]? = some (1, n3, [])) (hs4 : S[a4]? = some (1, n4, [])) (v0 : Int64) (v3 : Int32) (s : Int64 × Int32 × mz_N) {C0 : (Bool × mz_N) → Prop} (hr : ∀ (w : Bool) (N2 : mz_N), C0 (w, N2) → Q (.inl (some (.int (mz_b01 w)))) (mz_k S R N2 b t)) {C1 : ((Int64 × Int32 × mz_N) ⊕ (Bool × mz_N)) → Prop} (hc1 : ∀ s2, C1 (.inl s2) → mz_G (d, mz_X0 L xs, some .boolean, [], mk_240, 12, Q) 6 mt_240_6 [(0, .long v0), (2, .ref a1), (3, .int v3), (4, .ref a3), (5, .ref a4), (6, .long s2.1), (8, .int s2.2.1)] [] false (mz_k S R s2.2.2 b t)) (hx1 : ∀ z, C1 (.inr z) → C0 z) (hp : cd_240_6 a1 n1 a3 n3 a4 n4 v0 v3 s) (hC : C1 (cq_240_6 a1 n1 a3 n3 a4 n4 v0 v3 s)) : mz_G (d, mz_X0 L xs, some .boolean, [], mk_240, 12, Q) 6 mt_240_6 [(0, .long v0), (2, .ref a1), (3, .int v3), (4, .ref a3), (5, .ref a4), (6, .long s.1), (8, .int s.2.1)] [] false (mz_k S R s.2.2 b t) := by
  unfold cq_240_6 at hC
  unfold cd_240_6 at hp
  refine g_iload rfl (g_iload_n rfl ?_)
  refine g_icge (tg := 33) rfl ms_240_33 hC (fun h1 hC => ?_) (fun h1 hC => ?_)
  · have hp := hp.1 h1
    refine g_lload rfl (g_aload_n rfl (g_iload rfl ?_))
    obtain ⟨h2, hp⟩ := hp
    refine g_lald hs1 h2 (g_ladd (g_lstore (Nat.le_of_ble_eq_true rfl) rfl rfl (g_aload rfl (g_iload rfl (g_lconst mzl_0 ?_)))))
    have h3 := hp
    refine g_last hs3 h3 (g_iinc rfl mzi_1 (Nat.le_of_ble_eq_true rfl) rfl (g_goto (tg := 6) rfl ms_240_6 ?_))
    refine g_weak ?_ (g_cl (hc1 ((s.1 + (mz_gL s.2.2 a1 s.2.1)), (s.2.1 + 1), mz_wL s.2.2 a3 s.2.1 0) hC))
    exact ⟨rfl, rfl, rfl, rfl, rfl, rfl, rfl, trivial⟩
  · have hp := hp.2 h1
    refine g_lload rfl (g_lconst mzl_0 (g_lcmp ?_))
    refine g_lgt (tg := 42) rfl ms_240_42 hC (fun h4 hC => ?_) (fun h4 hC => ?_)
    · have hp := hp.1 h4
      refine g_lload_n rfl (g_lstore (Nat.le_of_ble_eq_true rfl) rfl rfl (g_iconst mzi_0 (g_istore (Nat.le_of_ble_eq_true rfl) rfl ?_)))
      refine g_weak ?_ (g_cl (cg_240_48 hd hS hR a1 n1 a3 n3 a4 n4 hs1 hs3 hs4 v0 v3 s.1 v0 0 s.2.2 hr hp (hx1 _ hC)))
      exact ⟨rfl, rfl, rfl, rfl, rfl, rfl, rfl, rfl, trivial⟩
    · have hp := hp.2 h4
      refine g_iconst mzi_0 ?_
      exact g_zret (z := false) rfl (hr _ _ (hx1 _ hC))
theorem cg_240_6 (hd : 1 ≤ d) (hS : mz_ext S 232) (hR : mz_rok R 232) (a1 : Nat) (n1 : Nat) (a3 : Nat) (n3 : Nat) (a4 : Nat) (n4 : Nat) (hs1 : S[a1]? = some (1, n1, [])) (hs3 : S[a3]? = some (1, n3, [])) (hs4 : S[a4]? = some (1, n4, [])) (v0 : Int64) (v3 : Int32) (v6 : Int64) (v8 : Int32) (N : mz_N) {C0 : (Bool × mz_N) → Prop} (hr : ∀ (w : Bool) (N2 : mz_N), C0 (w, N2) → Q (.inl (some (.int (mz_b01 w)))) (mz_k S R N2 b t)) (hp : cp_240_6 a1 n1 a3 n3 a4 n4 v0 v3 v6 v8 N) (hC : C0 (cf_240_6 a1 n1 a3 n3 a4 n4 v0 v3 v6 v8 N)) : mz_G (d, mz_X0 L xs, some .boolean, [], mk_240, 12, Q) 6 mt_240_6 [(0, .long v0), (2, .ref a1), (3, .int v3), (4, .ref a3), (5, .ref a4), (6, .long v6), (8, .int v8)] [] false (mz_k S R N b t) := by
  obtain ⟨n, hn⟩ := hp
  exact g_loop (G := fun s => mz_G (d, mz_X0 L xs, some .boolean, [], mk_240, 12, Q) 6 mt_240_6 [(0, .long v0), (2, .ref a1), (3, .int v3), (4, .ref a3), (5, .ref a4), (6, .long s.1), (8, .int s.2.1)] [] false (mz_k S R s.2.2 b t)) (C := C0) (fun C2 hc hx s hP hC => cb_240_6 hd hS hR a1 n1 a3 n3 a4 n4 hs1 hs3 hs4 v0 v3 s hr hc hx hP hC) n (v6, v8, N) hn hC
theorem cg_240_0 (hd : 1 ≤ d) (hS : mz_ext S 232) (hR : mz_rok R 232) (a1 : Nat) (n1 : Nat) (a3 : Nat) (n3 : Nat) (a4 : Nat) (n4 : Nat) (hs1 : S[a1]? = some (1, n1, [])) (hs3 : S[a3]? = some (1, n3, [])) (hs4 : S[a4]? = some (1, n4, [])) (v0 : Int64) (v3 : Int32) (N : mz_N) {C0 : (Bool × mz_N) → Prop} (hr : ∀ (w : Bool) (N2 : mz_N), C0 (w, N2) → Q (.inl (some (.int (mz_b01 w)))) (mz_k S R N2 b t)) (hp : cp_240_0 a1 n1 a3 n3 a4 n4 v0 v3 N) (hC : C0 (cf_240_0 a1 n1 a3 n3 a4 n4 v0 v3 N)) : mz_G (d, mz_X0 L xs, some .boolean, [], mk_240, 12, Q) 0 mk_240 [(0, .long v0), (2, .ref a1), (3, .int v3), (4, .ref a3), (5, .ref a4)] [] true (mz_k S R N b t) := by
  unfold cf_240_0 at hC
  unfold cp_240_0 at hp
  refine g_lconst mzl_0 (g_lstore (Nat.le_of_ble_eq_true rfl) rfl rfl (g_iconst mzi_0 (g_istore (Nat.le_of_ble_eq_true rfl) rfl ?_)))
  refine g_weak ?_ (g_cl (cg_240_6 hd hS hR a1 n1 a3 n3 a4 n4 hs1 hs3 hs4 v0 v3 0 0 N hr hp hC))
  exact ⟨rfl, rfl, rfl, rfl, rfl, rfl, rfl, trivial⟩
theorem cs_240 (hd : 2 ≤ d) (hS : mz_ext S 232) (hR : mz_rok R 232) (a1 : Nat) (n1 : Nat) (a3 : Nat) (n3 : Nat) (a4 : Nat) (n4 : Nat) (hs1 : S[a1]? = some (1, n1, [])) (hs3 : S[a3]? = some (1, n3, [])) (hs4 : S[a4]? = some (1, n4, [])) (v0 : Int64) (v3 : Int32) (N : mz_N) (hp : cp_240_0 a1 n1 a3 n3 a4 n4 v0 v3 N) (hq : Q (.inl (some (.int (mz_b01 ((cf_240_0 a1 n1 a3 n3 a4 n4 v0 v3 N).1))))) (mz_k S R ((cf_240_0 a1 n1 a3 n3 a4 n4 v0 v3 N).2) b t)) : mz_Ed (mz_X0 L xs) d 240 [.long v0, .ref a1, .int v3, .ref a3, .ref a4] (mz_k S R N b t) Q :=
  by
  refine g_in mzq_240 (Nat.le_of_ble_eq_true rfl) (Nat.le_of_ble_eq_true rfl) (Nat.le_trans (Nat.le_of_ble_eq_true rfl) hd) ?_
  refine g_weak ?_ (cg_240_0 (d := d - 1) (by omega) hS hR a1 n1 a3 n3 a4 n4 hs1 hs3 hs4 v0 v3 N (C0 := fun z => Q (.inl (some (.int (mz_b01 z.1)))) (mz_k S R z.2 b t)) (fun _ _ h => h) hp hq)
  exact ⟨rfl, rfl, rfl, rfl, rfl, trivial⟩
end Fn10
