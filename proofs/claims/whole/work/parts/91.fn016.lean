/-! THE FUNCTIONS: written by program: each method comes to its function. -/
section Fn16
variable {L : Nat} {xs : Nat → Int32} {d : Nat} {S : mz_S} {R : Nat → Nat → Option Nat} {Q : mz_Q} {N : mz_N} {b : Bool} {t : Nat}
/-! 340 KeptHouse$Care.isStocked (I)Z -/
theorem ms_340_0 : mz_sf mk_340 0 = mk_340 := mz_sf_zero _
theorem ms_340_7 : mz_sf mk_340 7 = mt_340_7 := mz_sf_add ms_340_0 (t := 7) rfl rfl
theorem ms_340_11 : mz_sf mk_340 11 = mt_340_11 := mz_sf_add ms_340_7 (t := 4) rfl rfl
theorem ms_340_39 : mz_sf mk_340 39 = mt_340_39 := mz_sf_add ms_340_11 (t := 28) rfl rfl
theorem ms_340_54 : mz_sf mk_340 54 = mt_340_54 := mz_sf_add ms_340_39 (t := 15) rfl rfl
theorem ms_340_60 : mz_sf mk_340 60 = mt_340_60 := mz_sf_add ms_340_54 (t := 6) rfl rfl
theorem ms_340_76 : mz_sf mk_340 76 = mt_340_76 := mz_sf_add ms_340_60 (t := 16) rfl rfl
theorem ms_340_77 : mz_sf mk_340 77 = mt_340_77 := mz_sf_add ms_340_76 (t := 1) rfl rfl
set_option maxRecDepth 100000 in
theorem mzq_340 : mz_PG0 340 = some (2, ⟨"KeptHouse$Care", "isStocked", "(I)Z"⟩, prog_4_method_11_code, 4, some .boolean, [], mk_340, []) := rfl
theorem cg_340_54 (hd : 0 ≤ d) (hS : mz_ext S 232) (hR : mz_rok R 232)  (v1 : Int32) (v2 : Int32) (v3 : Int32) (N : mz_N) {C0 : (Bool) → Prop} (hr : ∀ (w : Bool), C0 w → Q (.inl (some (.int (mz_b01 w)))) (mz_k S R N b t)) {C1 : ((Int32 × Int32) ⊕ (Bool)) → Prop} (hc1 : ∀ s2, C1 (.inl s2) → mz_G (d, mz_X0 L xs, some .boolean, [], mk_340, 4, Q) 11 mt_340_11 [(0, .ref 115), (1, .int v1), (2, .int s2.1), (3, .int s2.2)] [] false (mz_k S R N b t)) (hx1 : ∀ z, C1 (.inr z) → C0 z) (hp : cp_340_54 v1 v2 v3 N) (hC : C1 (cf_340_54 v1 v2 v3 N)) : mz_G (d, mz_X0 L xs, some .boolean, [], mk_340, 4, Q) 54 mt_340_54 [(0, .ref 115), (1, .int v1), (2, .int v2), (3, .int v3)] [] false (mz_k S R N b t) := by
  unfold cf_340_54 at hC
  unfold cp_340_54 at hp
  refine g_iinc rfl mzi_1 (Nat.le_of_ble_eq_true rfl) rfl (g_goto (tg := 11) rfl ms_340_11 ?_)
  refine g_weak ?_ (g_cl (hc1 (v2, (v3 + 1)) hC))
  exact ⟨rfl, rfl, rfl, rfl, trivial⟩
theorem cb_340_11 (hd : 0 ≤ d) (hS : mz_ext S 232) (hR : mz_rok R 232)  (v1 : Int32) (N : mz_N) (s : Int32 × Int32) {C0 : (Bool) → Prop} (hr : ∀ (w : Bool), C0 w → Q (.inl (some (.int (mz_b01 w)))) (mz_k S R N b t)) {C1 : ((Int32 × Int32) ⊕ (Bool)) → Prop} (hc1 : ∀ s2, C1 (.inl s2) → mz_G (d, mz_X0 L xs, some .boolean, [], mk_340, 4, Q) 11 mt_340_11 [(0, .ref 115), (1, .int v1), (2, .int s2.1), (3, .int s2.2)] [] false (mz_k S R N b t)) (hx1 : ∀ z, C1 (.inr z) → C0 z) (hp : cd_340_11 v1 N s) (hC : C1 (cq_340_11 v1 N s)) : mz_G (d, mz_X0 L xs, some .boolean, [], mk_340, 4, Q) 11 mt_340_11 [(0, .ref 115), (1, .int v1), (2, .int s.1), (3, .int s.2)] [] false (mz_k S R N b t) := by
  unfold cq_340_11 at hC
  unfold cd_340_11 at hp
  refine g_iload_n rfl (g_bipush mzb_16 ?_)
  refine g_icge (tg := 60) rfl ms_340_60 hC (fun h1 hC => ?_) (fun h1 hC => ?_)
  · have hp := hp.1 h1
    refine g_aload_n rfl (g_getR (mz_at hS (Nat.le_of_ble_eq_true rfl) mzcS_115) mzcf_2_1 (mz_rb hR (Nat.le_of_ble_eq_true rfl) rfl mzcR_115_1) (g_iload_n rfl ?_))
    obtain ⟨h2, hp⟩ := hp
    refine g_iald hS.1 (mz_at hS (Nat.le_of_ble_eq_true rfl) mzcS_123) h2 (g_iconst mzi_1 ?_)
    refine g_icne (tg := 54) rfl ms_340_54 hC (fun h3 hC => ?_) (fun h3 hC => ?_)
    · have hp := hp.1 h3
      refine g_aload_n rfl (g_getR (mz_at hS (Nat.le_of_ble_eq_true rfl) mzcS_115) mzcf_2_0 (mz_rb hR (Nat.le_of_ble_eq_true rfl) rfl mzcR_115_0) (g_iconst mzi_3 (g_aald4 (m := 120) (mz_at hS (Nat.le_of_ble_eq_true rfl) mzcS_116) (mz_ibd (by decide)) (mz_rb hR (Nat.le_of_ble_eq_true rfl) rfl mzcRr_116_3) (g_iload_n rfl ?_))))
      obtain ⟨h4, hp⟩ := hp
      refine g_iald hS.1 (mz_at hS (Nat.le_of_ble_eq_true rfl) mzcS_120) h4 (g_iload_n rfl ?_)
      refine g_icne (tg := 54) rfl ms_340_54 hC (fun h5 hC => ?_) (fun h5 hC => ?_)
      · have hp := hp.1 h5
        refine g_aload_n rfl (g_getR (mz_at hS (Nat.le_of_ble_eq_true rfl) mzcS_115) mzcf_2_0 (mz_rb hR (Nat.le_of_ble_eq_true rfl) rfl mzcR_115_0) (g_iconst mzi_5 (g_aald4 (m := 122) (mz_at hS (Nat.le_of_ble_eq_true rfl) mzcS_116) (mz_ibd (by decide)) (mz_rb hR (Nat.le_of_ble_eq_true rfl) rfl mzcRr_116_5) (g_iload_n rfl ?_))))
        obtain ⟨h6, hp⟩ := hp
        refine g_iald hS.1 (mz_at hS (Nat.le_of_ble_eq_true rfl) mzcS_122) h6 (g_iconst mzi_m1 ?_)
        refine g_iceq (tg := 54) rfl ms_340_54 hC (fun h7 hC => ?_) (fun h7 hC => ?_)
        · have hp := hp.1 h7
          refine g_weak ?_ (g_cl (cg_340_54 hd hS hR v1 s.1 s.2 N hr hc1 hx1 hp hC))
          exact ⟨rfl, rfl, rfl, rfl, trivial⟩
        · have hp := hp.2 h7
          refine g_iinc rfl mzi_1 (Nat.le_of_ble_eq_true rfl) rfl ?_
          refine g_weak ?_ (g_cl (cg_340_54 hd hS hR v1 (s.1 + 1) s.2 N hr hc1 hx1 hp hC))
          exact ⟨rfl, rfl, rfl, rfl, trivial⟩
      · have hp := hp.2 h5
        refine g_weak ?_ (g_cl (cg_340_54 hd hS hR v1 s.1 s.2 N hr hc1 hx1 hp hC))
        exact ⟨rfl, rfl, rfl, rfl, trivial⟩
    · have hp := hp.2 h3
      refine g_weak ?_ (g_cl (cg_340_54 hd hS hR v1 s.1 s.2 N hr hc1 hx1 hp hC))
      exact ⟨rfl, rfl, rfl, rfl, trivial⟩
  · have hp := hp.2 h1
    refine g_aload_n rfl (g_getR (mz_at hS (Nat.le_of_ble_eq_true rfl) mzcS_115) mzcf_2_3 (mz_rb hR (Nat.le_of_ble_eq_true rfl) rfl mzcR_115_3) (g_iconst mzi_2 (g_aald4 (m := 127) (mz_at hS (Nat.le_of_ble_eq_true rfl) mzcS_124) (mz_ibd (by decide)) (mz_rb hR (Nat.le_of_ble_eq_true rfl) rfl mzcRr_124_2) (g_iload_n rfl ?_))))
    have h8 := hp
    refine g_iald hS.1 (mz_at hS (Nat.le_of_ble_eq_true rfl) mzcS_127) h8 (g_iload_n rfl ?_)
    refine g_icle (tg := 76) rfl ms_340_76 hC (fun h9 hC => ?_) (fun h9 hC => ?_)
    · refine g_iconst mzi_1 (g_goto (tg := 77) rfl ms_340_77 ?_)
      exact g_zret (z := true) rfl (hr _ (hx1 _ hC))
    · refine g_iconst mzi_0 ?_
      exact g_zret (z := false) rfl (hr _ (hx1 _ hC))
theorem cg_340_11 (hd : 0 ≤ d) (hS : mz_ext S 232) (hR : mz_rok R 232)  (v1 : Int32) (v2 : Int32) (v3 : Int32) (N : mz_N) {C0 : (Bool) → Prop} (hr : ∀ (w : Bool), C0 w → Q (.inl (some (.int (mz_b01 w)))) (mz_k S R N b t)) (hp : cp_340_11 v1 v2 v3 N) (hC : C0 (cf_340_11 v1 v2 v3 N)) : mz_G (d, mz_X0 L xs, some .boolean, [], mk_340, 4, Q) 11 mt_340_11 [(0, .ref 115), (1, .int v1), (2, .int v2), (3, .int v3)] [] false (mz_k S R N b t) := by
  obtain ⟨n, hn⟩ := hp
  exact g_loop (G := fun s => mz_G (d, mz_X0 L xs, some .boolean, [], mk_340, 4, Q) 11 mt_340_11 [(0, .ref 115), (1, .int v1), (2, .int s.1), (3, .int s.2)] [] false (mz_k S R N b t)) (C := C0) (fun C2 hc hx s hP hC => cb_340_11 hd hS hR v1 N s hr hc hx hP hC) n (v2, v3) hn hC
theorem cg_340_0 (hd : 0 ≤ d) (hS : mz_ext S 232) (hR : mz_rok R 232)  (v1 : Int32) (N : mz_N) {C0 : (Bool) → Prop} (hr : ∀ (w : Bool), C0 w → Q (.inl (some (.int (mz_b01 w)))) (mz_k S R N b t)) (hp : cp_340_0 v1 N) (hC : C0 (cf_340_0 v1 N)) : mz_G (d, mz_X0 L xs, some .boolean, [], mk_340, 4, Q) 0 mk_340 [(0, .ref 115), (1, .int v1)] [] true (mz_k S R N b t) := by
  unfold cf_340_0 at hC
  unfold cp_340_0 at hp
  refine g_iload_n rfl (g_iconst mzi_3 ?_)
  refine g_iclt (tg := 7) rfl ms_340_7 hC (fun h1 hC => ?_) (fun h1 hC => ?_)
  · have hp := hp.1 h1
    refine g_iconst mzi_0 (g_istore_n (Nat.le_of_ble_eq_true rfl) rfl (g_iconst mzi_0 (g_istore_n (Nat.le_of_ble_eq_true rfl) rfl ?_)))
    refine g_weak ?_ (g_cl (cg_340_11 hd hS hR v1 0 0 N hr hp hC))
    exact ⟨rfl, rfl, rfl, rfl, trivial⟩
  · have hp := hp.2 h1
    refine g_iconst mzi_1 ?_
    exact g_zret (z := true) rfl (hr _ hC)
theorem cs_340 (hd : 1 ≤ d) (hS : mz_ext S 232) (hR : mz_rok R 232)  (v1 : Int32) (N : mz_N) (hp : cp_340_0 v1 N) (hq : Q (.inl (some (.int (mz_b01 (cf_340_0 v1 N))))) (mz_k S R N b t)) : mz_Ed (mz_X0 L xs) d 340 [.ref 115, .int v1] (mz_k S R N b t) Q :=
  by
  refine g_in mzq_340 (Nat.le_of_ble_eq_true rfl) (Nat.le_of_ble_eq_true rfl) (Nat.le_trans (Nat.le_of_ble_eq_true rfl) hd) ?_
  refine g_weak ?_ (cg_340_0 (d := d - 1) (by omega) hS hR v1 N (C0 := fun z => Q (.inl (some (.int (mz_b01 z)))) (mz_k S R N b t)) (fun _ h => h) hp hq)
  exact ⟨rfl, rfl, trivial⟩
/-! 339 KeptHouse$Care.choose (I)I -/
theorem ms_339_0 : mz_sf mk_339 0 = mk_339 := mz_sf_zero _
theorem ms_339_11 : mz_sf mk_339 11 = mt_339_11 := mz_sf_add ms_339_0 (t := 11) rfl rfl
theorem ms_339_41 : mz_sf mk_339 41 = mt_339_41 := mz_sf_add ms_339_11 (t := 30) rfl rfl
theorem ms_339_65 : mz_sf mk_339 65 = mt_339_65 := mz_sf_add ms_339_41 (t := 24) rfl rfl
theorem ms_339_75 : mz_sf mk_339 75 = mt_339_75 := mz_sf_add ms_339_65 (t := 10) rfl rfl
theorem ms_339_94 : mz_sf mk_339 94 = mt_339_94 := mz_sf_add ms_339_75 (t := 19) rfl rfl
set_option maxRecDepth 100000 in
theorem mzq_339 : mz_PG0 339 = some (2, ⟨"KeptHouse$Care", "choose", "(I)I"⟩, prog_4_method_10_code, 5, some .int, [], mk_339, []) := rfl
theorem cg_339_75 (hd : 1 ≤ d) (hS : mz_ext S 232) (hR : mz_rok R 232)  (v1 : Int32) (v2 : Int32) (v3 : Int32) (v4 : Int32) (N : mz_N) {C0 : (Int32 × mz_N) → Prop} (hr : ∀ (w : Int32) (N2 : mz_N), C0 (w, N2) → Q (.inl (some (.int w))) (mz_k S R N2 b t)) {C1 : ((Int32 × Int32 × Int32 × mz_N) ⊕ (Int32 × mz_N)) → Prop} (hc1 : ∀ s2, C1 (.inl s2) → mz_G (d, mz_X0 L xs, some .int, [], mk_339, 5, Q) 11 mt_339_11 [(0, .ref 115), (1, .int v1), (2, .int s2.1), (3, .int s2.2.1), (4, .int s2.2.2.1)] [] false (mz_k S R s2.2.2.2 b t)) (hx1 : ∀ z, C1 (.inr z) → C0 z) (hp : cp_339_75 v1 v2 v3 v4 N) (hC : C1 (cf_339_75 v1 v2 v3 v4 N)) : mz_G (d, mz_X0 L xs, some .int, [], mk_339, 5, Q) 75 mt_339_75 [(0, .ref 115), (1, .int v1), (2, .int v2), (3, .int v3), (4, .int v4)] [] false (mz_k S R N b t) := by
  unfold cf_339_75 at hC
  unfold cp_339_75 at hp
  refine g_aload_n rfl (g_aload_n rfl (g_getR (mz_at hS (Nat.le_of_ble_eq_true rfl) mzcS_115) mzcf_2_0 (mz_rb hR (Nat.le_of_ble_eq_true rfl) rfl mzcR_115_0) (g_iconst mzi_0 (g_aald4 (m := 117) (mz_at hS (Nat.le_of_ble_eq_true rfl) mzcS_116) (mz_ibd (by decide)) (mz_rb hR (Nat.le_of_ble_eq_true rfl) rfl mzcRr_116_0) (g_iload_n rfl ?_)))))
  obtain ⟨h1, hp⟩ := hp
  refine g_iald hS.1 (mz_at hS (Nat.le_of_ble_eq_true rfl) mzcS_117) h1 ?_
  have h2 := hp
  refine g_v2v (Nat.le_of_ble_eq_true rfl) (mz_at hS (Nat.le_of_ble_eq_true rfl) mzcS_115) (fun _ hq => cs_335 (Nat.le_trans (Nat.le_of_ble_eq_true rfl) hd) (hS.le (Nat.le_of_ble_eq_true rfl)) (hR.le (Nat.le_of_ble_eq_true rfl))  (mz_gI N 117 v3) N h2 hq) (g_istore_n (Nat.le_of_ble_eq_true rfl) rfl (g_iinc rfl mzi_1 (Nat.le_of_ble_eq_true rfl) rfl (g_goto (tg := 11) rfl ms_339_11 ?_)))
  refine g_weak ?_ (g_cl (hc1 (v2, (cf_335_0 (mz_gI N 117 v3) N), (v4 + 1), N) hC))
  exact ⟨rfl, rfl, rfl, rfl, rfl, trivial⟩
theorem cb_339_11 (hd : 1 ≤ d) (hS : mz_ext S 232) (hR : mz_rok R 232)  (v1 : Int32) (s : Int32 × Int32 × Int32 × mz_N) {C0 : (Int32 × mz_N) → Prop} (hr : ∀ (w : Int32) (N2 : mz_N), C0 (w, N2) → Q (.inl (some (.int w))) (mz_k S R N2 b t)) {C1 : ((Int32 × Int32 × Int32 × mz_N) ⊕ (Int32 × mz_N)) → Prop} (hc1 : ∀ s2, C1 (.inl s2) → mz_G (d, mz_X0 L xs, some .int, [], mk_339, 5, Q) 11 mt_339_11 [(0, .ref 115), (1, .int v1), (2, .int s2.1), (3, .int s2.2.1), (4, .int s2.2.2.1)] [] false (mz_k S R s2.2.2.2 b t)) (hx1 : ∀ z, C1 (.inr z) → C0 z) (hp : cd_339_11 v1 s) (hC : C1 (cq_339_11 v1 s)) : mz_G (d, mz_X0 L xs, some .int, [], mk_339, 5, Q) 11 mt_339_11 [(0, .ref 115), (1, .int v1), (2, .int s.1), (3, .int s.2.1), (4, .int s.2.2.1)] [] false (mz_k S R s.2.2.2 b t) := by
  unfold cq_339_11 at hC
  unfold cd_339_11 at hp
  refine g_iload rfl (g_bipush mzb_16 ?_)
  refine g_icge (tg := 94) rfl ms_339_94 hC (fun h1 hC => ?_) (fun h1 hC => ?_)
  · have hp := hp.1 h1
    refine g_iload_n rfl (g_iconst mzi_m1 ?_)
    refine g_iceq (tg := 94) rfl ms_339_94 hC (fun h2 hC => ?_) (fun h2 hC => ?_)
    · have hp := hp.1 h2
      refine g_iload_n rfl ?_
      exact g_iret rfl (hr _ _ (hx1 _ hC))
    · have hp := hp.2 h2
      refine g_iload_n rfl (g_bipush mzb_6 ?_)
      refine g_icge (tg := 94) rfl ms_339_94 hC (fun h3 hC => ?_) (fun h3 hC => ?_)
      · have hp := hp.1 h3
        refine g_aload_n rfl (g_getR (mz_at hS (Nat.le_of_ble_eq_true rfl) mzcS_115) mzcf_2_0 (mz_rb hR (Nat.le_of_ble_eq_true rfl) rfl mzcR_115_0) (g_iconst mzi_5 (g_aald4 (m := 122) (mz_at hS (Nat.le_of_ble_eq_true rfl) mzcS_116) (mz_ibd (by decide)) (mz_rb hR (Nat.le_of_ble_eq_true rfl) rfl mzcRr_116_5) (g_iload_n rfl ?_))))
        obtain ⟨h4, hp⟩ := hp
        refine g_iald hS.1 (mz_at hS (Nat.le_of_ble_eq_true rfl) mzcS_122) h4 (g_iconst mzi_m1 ?_)
        refine g_icne (tg := 75) rfl ms_339_75 hC (fun h5 hC => ?_) (fun h5 hC => ?_)
        · have hp := hp.1 h5
          refine g_aload_n rfl (g_aload_n rfl (g_getR (mz_at hS (Nat.le_of_ble_eq_true rfl) mzcS_115) mzcf_2_0 (mz_rb hR (Nat.le_of_ble_eq_true rfl) rfl mzcR_115_0) (g_iconst mzi_3 (g_aald4 (m := 120) (mz_at hS (Nat.le_of_ble_eq_true rfl) mzcS_116) (mz_ibd (by decide)) (mz_rb hR (Nat.le_of_ble_eq_true rfl) rfl mzcRr_116_3) (g_iload_n rfl ?_)))))
          obtain ⟨h6, hp⟩ := hp
          refine g_iald hS.1 (mz_at hS (Nat.le_of_ble_eq_true rfl) mzcS_120) h6 ?_
          obtain ⟨h7, hp⟩ := hp
          refine g_v2v (Nat.le_of_ble_eq_true rfl) (mz_at hS (Nat.le_of_ble_eq_true rfl) mzcS_115) (fun _ hq => cs_340 (Nat.le_trans (Nat.le_of_ble_eq_true rfl) hd) (hS.le (Nat.le_of_ble_eq_true rfl)) (hR.le (Nat.le_of_ble_eq_true rfl))  (mz_gI s.2.2.2 120 s.2.1) s.2.2.2 h7 hq) ?_
          refine g_zeq (tg := 75) rfl ms_339_75 hC (fun h8 hC => ?_) (fun h8 hC => ?_)
          · have hp := hp.1 h8
            refine g_aload_n rfl (g_getR (mz_at hS (Nat.le_of_ble_eq_true rfl) mzcS_115) mzcf_2_0 (mz_rb hR (Nat.le_of_ble_eq_true rfl) rfl mzcR_115_0) (g_iconst mzi_5 (g_aald4 (m := 122) (mz_at hS (Nat.le_of_ble_eq_true rfl) mzcS_116) (mz_ibd (by decide)) (mz_rb hR (Nat.le_of_ble_eq_true rfl) rfl mzcRr_116_5) (g_iload_n rfl (g_iload_n rfl ?_)))))
            obtain ⟨h9, hp⟩ := hp
            refine g_iast (mz_at hS (Nat.le_of_ble_eq_true rfl) mzcS_122) h9 (g_aload_n rfl (g_getR (mz_at hS (Nat.le_of_ble_eq_true rfl) mzcS_115) mzcf_2_11 (mz_rb hR (Nat.le_of_ble_eq_true rfl) rfl mzcR_115_11) (g_iload_n rfl (g_iload_n rfl ?_))))
            obtain ⟨h10, hp⟩ := hp
            refine g_iast (mz_at hS (Nat.le_of_ble_eq_true rfl) mzcS_142) h10 (g_iinc rfl mzi_1 (Nat.le_of_ble_eq_true rfl) rfl ?_)
            refine g_weak ?_ (g_cl (cg_339_75 hd hS hR v1 (s.1 + 1) s.2.1 s.2.2.1 (mz_wI (mz_wI s.2.2.2 122 s.2.1 v1) 142 s.1 s.2.1) hr hc1 hx1 hp hC))
            exact ⟨rfl, rfl, rfl, rfl, rfl, trivial⟩
          · have hp := hp.2 h8
            refine g_weak ?_ (g_cl (cg_339_75 hd hS hR v1 s.1 s.2.1 s.2.2.1 s.2.2.2 hr hc1 hx1 hp hC))
            exact ⟨rfl, rfl, rfl, rfl, rfl, trivial⟩
        · have hp := hp.2 h5
          refine g_weak ?_ (g_cl (cg_339_75 hd hS hR v1 s.1 s.2.1 s.2.2.1 s.2.2.2 hr hc1 hx1 hp hC))
          exact ⟨rfl, rfl, rfl, rfl, rfl, trivial⟩
      · have hp := hp.2 h3
        refine g_iload_n rfl ?_
        exact g_iret rfl (hr _ _ (hx1 _ hC))
  · have hp := hp.2 h1
    refine g_iload_n rfl ?_
    exact g_iret rfl (hr _ _ (hx1 _ hC))
theorem cg_339_11 (hd : 1 ≤ d) (hS : mz_ext S 232) (hR : mz_rok R 232)  (v1 : Int32) (v2 : Int32) (v3 : Int32) (v4 : Int32) (N : mz_N) {C0 : (Int32 × mz_N) → Prop} (hr : ∀ (w : Int32) (N2 : mz_N), C0 (w, N2) → Q (.inl (some (.int w))) (mz_k S R N2 b t)) (hp : cp_339_11 v1 v2 v3 v4 N) (hC : C0 (cf_339_11 v1 v2 v3 v4 N)) : mz_G (d, mz_X0 L xs, some .int, [], mk_339, 5, Q) 11 mt_339_11 [(0, .ref 115), (1, .int v1), (2, .int v2), (3, .int v3), (4, .int v4)] [] false (mz_k S R N b t) := by
  obtain ⟨n, hn⟩ := hp
  exact g_loop (G := fun s => mz_G (d, mz_X0 L xs, some .int, [], mk_339, 5, Q) 11 mt_339_11 [(0, .ref 115), (1, .int v1), (2, .int s.1), (3, .int s.2.1), (4, .int s.2.2.1)] [] false (mz_k S R s.2.2.2 b t)) (C := C0) (fun C2 hc hx s hP hC => cb_339_11 hd hS hR v1 s hr hc hx hP hC) n (v2, v3, v4, N) hn hC
theorem cg_339_0 (hd : 1 ≤ d) (hS : mz_ext S 232) (hR : mz_rok R 232)  (v1 : Int32) (N : mz_N) {C0 : (Int32 × mz_N) → Prop} (hr : ∀ (w : Int32) (N2 : mz_N), C0 (w, N2) → Q (.inl (some (.int w))) (mz_k S R N2 b t)) (hp : cp_339_0 v1 N) (hC : C0 (cf_339_0 v1 N)) : mz_G (d, mz_X0 L xs, some .int, [], mk_339, 5, Q) 0 mk_339 [(0, .ref 115), (1, .int v1)] [] true (mz_k S R N b t) := by
  unfold cf_339_0 at hC
  unfold cp_339_0 at hp
  refine g_iconst mzi_0 (g_istore_n (Nat.le_of_ble_eq_true rfl) rfl (g_aload_n rfl (g_iconst mzi_m1 ?_)))
  obtain ⟨h1, hp⟩ := hp
  refine g_v2v (Nat.le_of_ble_eq_true rfl) (mz_at hS (Nat.le_of_ble_eq_true rfl) mzcS_115) (fun _ hq => cs_335 (Nat.le_trans (Nat.le_of_ble_eq_true rfl) hd) (hS.le (Nat.le_of_ble_eq_true rfl)) (hR.le (Nat.le_of_ble_eq_true rfl))  (-1) N h1 hq) (g_istore_n (Nat.le_of_ble_eq_true rfl) rfl (g_iconst mzi_0 (g_istore (Nat.le_of_ble_eq_true rfl) rfl ?_)))
  refine g_weak ?_ (g_cl (cg_339_11 hd hS hR v1 0 (cf_335_0 (-1) N) 0 N hr hp hC))
  exact ⟨rfl, rfl, rfl, rfl, rfl, trivial⟩
theorem cs_339 (hd : 2 ≤ d) (hS : mz_ext S 232) (hR : mz_rok R 232)  (v1 : Int32) (N : mz_N) (hp : cp_339_0 v1 N) (hq : Q (.inl (some (.int ((cf_339_0 v1 N).1)))) (mz_k S R ((cf_339_0 v1 N).2) b t)) : mz_Ed (mz_X0 L xs) d 339 [.ref 115, .int v1] (mz_k S R N b t) Q :=
  by
  refine g_in mzq_339 (Nat.le_of_ble_eq_true rfl) (Nat.le_of_ble_eq_true rfl) (Nat.le_trans (Nat.le_of_ble_eq_true rfl) hd) ?_
  refine g_weak ?_ (cg_339_0 (d := d - 1) (by omega) hS hR v1 N (C0 := fun z => Q (.inl (some (.int z.1))) (mz_k S R z.2 b t)) (fun _ _ h => h) hp hq)
  exact ⟨rfl, rfl, trivial⟩
/-! 342 KeptHouse$Care.spot (I)I -/
theorem ms_342_0 : mz_sf mk_342 0 = mk_342 := mz_sf_zero _
set_option maxRecDepth 100000 in
theorem mzq_342 : mz_PG0 342 = some (2, ⟨"KeptHouse$Care", "spot", "(I)I"⟩, prog_4_method_13_code, 2, some .int, [], mk_342, []) := rfl
theorem cg_342_0 (hd : 0 ≤ d) (hS : mz_ext S 232) (hR : mz_rok R 232)  (v1 : Int32) (N : mz_N) {C0 : (Int32) → Prop} (hr : ∀ (w : Int32), C0 w → Q (.inl (some (.int w))) (mz_k S R N b t)) (hp : cp_342_0 v1 N) (hC : C0 (cf_342_0 v1 N)) : mz_G (d, mz_X0 L xs, some .int, [], mk_342, 2, Q) 0 mk_342 [(0, .ref 115), (1, .int v1)] [] true (mz_k S R N b t) := by
  unfold cf_342_0 at hC
  unfold cp_342_0 at hp
  refine g_aload_n rfl (g_getR (mz_at hS (Nat.le_of_ble_eq_true rfl) mzcS_115) mzcf_2_0 (mz_rb hR (Nat.le_of_ble_eq_true rfl) rfl mzcR_115_0) (g_iconst mzi_1 (g_aald4 (m := 118) (mz_at hS (Nat.le_of_ble_eq_true rfl) mzcS_116) (mz_ibd (by decide)) (mz_rb hR (Nat.le_of_ble_eq_true rfl) rfl mzcRr_116_1) (g_aload_n rfl (g_getR (mz_at hS (Nat.le_of_ble_eq_true rfl) mzcS_115) mzcf_2_11 (mz_rb hR (Nat.le_of_ble_eq_true rfl) rfl mzcR_115_11) (g_iload_n rfl ?_))))))
  obtain ⟨h1, hp⟩ := hp
  refine g_iald hS.1 (mz_at hS (Nat.le_of_ble_eq_true rfl) mzcS_142) h1 ?_
  obtain ⟨h2, hp⟩ := hp
  refine g_iald hS.1 (mz_at hS (Nat.le_of_ble_eq_true rfl) mzcS_118) h2 (g_bipush mzb_48 (g_imul (g_aload_n rfl (g_getR (mz_at hS (Nat.le_of_ble_eq_true rfl) mzcS_115) mzcf_2_0 (mz_rb hR (Nat.le_of_ble_eq_true rfl) rfl mzcR_115_0) (g_iconst mzi_2 (g_aald4 (m := 119) (mz_at hS (Nat.le_of_ble_eq_true rfl) mzcS_116) (mz_ibd (by decide)) (mz_rb hR (Nat.le_of_ble_eq_true rfl) rfl mzcRr_116_2) (g_aload_n rfl ?_)))))))
  refine g_getR (mz_at hS (Nat.le_of_ble_eq_true rfl) mzcS_115) mzcf_2_11 (mz_rb hR (Nat.le_of_ble_eq_true rfl) rfl mzcR_115_11) (g_iload_n rfl ?_)
  obtain ⟨h3, hp⟩ := hp
  refine g_iald hS.1 (mz_at hS (Nat.le_of_ble_eq_true rfl) mzcS_142) h3 ?_
  have h4 := hp
  refine g_iald hS.1 (mz_at hS (Nat.le_of_ble_eq_true rfl) mzcS_119) h4 (g_iadd ?_)
  exact g_iret rfl (hr _ hC)
theorem cs_342 (hd : 1 ≤ d) (hS : mz_ext S 232) (hR : mz_rok R 232)  (v1 : Int32) (N : mz_N) (hp : cp_342_0 v1 N) (hq : Q (.inl (some (.int (cf_342_0 v1 N)))) (mz_k S R N b t)) : mz_Ed (mz_X0 L xs) d 342 [.ref 115, .int v1] (mz_k S R N b t) Q :=
  by
  refine g_in mzq_342 (Nat.le_of_ble_eq_true rfl) (Nat.le_of_ble_eq_true rfl) (Nat.le_trans (Nat.le_of_ble_eq_true rfl) hd) ?_
  refine g_weak ?_ (cg_342_0 (d := d - 1) (by omega) hS hR v1 N (C0 := fun z => Q (.inl (some (.int z))) (mz_k S R N b t)) (fun _ h => h) hp hq)
  exact ⟨rfl, rfl, trivial⟩
/-! 345 KeptHouse$Care.way (II)I -/
theorem ms_345_0 : mz_sf mk_345 0 = mk_345 := mz_sf_zero _
set_option maxRecDepth 100000 in
theorem mzq_345 : mz_PG0 345 = some (2, ⟨"KeptHouse$Care", "way", "(II)I"⟩, prog_4_method_12_code, 2, some .int, [], mk_345, []) := rfl
theorem cg_345_0 (hd : 0 ≤ d) (hS : mz_ext S 232) (hR : mz_rok R 232)  (v0 : Int32) (v1 : Int32) {C0 : (Int32) → Prop} (hr : ∀ (w : Int32), C0 w → Q (.inl (some (.int w))) (mz_k S R N b t)) (hp : cp_345_0 v0 v1) (hC : C0 (cf_345_0 v0 v1)) : mz_G (d, mz_X0 L xs, some .int, [], mk_345, 2, Q) 0 mk_345 [(0, .int v0), (1, .int v1)] [] true (mz_k S R N b t) := by
  unfold cf_345_0 at hC
  unfold cp_345_0 at hp
  refine g_iload_n rfl (g_bipush mzb_8 (g_irem (by decide) (g_iload_n rfl (g_bipush mzb_8 (g_irem (by decide) (g_isub (g_iabs (Nat.le_of_ble_eq_true rfl) ?_)))))))
  refine g_iload_n rfl (g_bipush mzb_48 (g_irem (by decide) (g_bipush mzb_8 (g_idiv (by decide) (g_iload_n rfl (g_bipush mzb_48 (g_irem (by decide) ?_)))))))
  refine g_bipush mzb_8 (g_idiv (by decide) (g_isub (g_iabs (Nat.le_of_ble_eq_true rfl) (g_iadd (g_bipush mzb_10 (g_iload_n rfl (g_bipush mzb_48 ?_)))))))
  refine g_idiv (by decide) (g_iload_n rfl (g_bipush mzb_48 (g_idiv (by decide) (g_isub (g_iabs (Nat.le_of_ble_eq_true rfl) (g_imul (g_iadd ?_)))))))
  exact g_iret rfl (hr _ hC)
theorem cs_345 (hd : 1 ≤ d) (hS : mz_ext S 232) (hR : mz_rok R 232)  (v0 : Int32) (v1 : Int32) (hp : cp_345_0 v0 v1) (hq : Q (.inl (some (.int (cf_345_0 v0 v1)))) (mz_k S R N b t)) : mz_Ed (mz_X0 L xs) d 345 [.int v0, .int v1] (mz_k S R N b t) Q :=
  by
  refine g_in mzq_345 (Nat.le_of_ble_eq_true rfl) (Nat.le_of_ble_eq_true rfl) (Nat.le_trans (Nat.le_of_ble_eq_true rfl) hd) ?_
  refine g_weak ?_ (cg_345_0 (d := d - 1) (by omega) hS hR v0 v1 (C0 := fun z => Q (.inl (some (.int z))) (mz_k S R N b t)) (fun _ h => h) hp hq)
  exact ⟨rfl, rfl, trivial⟩
/-! 344 KeptHouse$Care.wayOver (III)I -/
theorem ms_344_0 : mz_sf mk_344 0 = mk_344 := mz_sf_zero _
set_option maxRecDepth 100000 in
theorem mzq_344 : mz_PG0 344 = some (2, ⟨"KeptHouse$Care", "wayOver", "(III)I"⟩, prog_4_method_15_code, 4, some .int, [], mk_344, []) := rfl
theorem cg_344_0 (hd : 1 ≤ d) (hS : mz_ext S 232) (hR : mz_rok R 232)  (v1 : Int32) (v2 : Int32) (v3 : Int32) (N : mz_N) {C0 : (Int32) → Prop} (hr : ∀ (w : Int32), C0 w → Q (.inl (some (.int w))) (mz_k S R N b t)) (hp : cp_344_0 v1 v2 v3 N) (hC : C0 (cf_344_0 v1 v2 v3 N)) : mz_G (d, mz_X0 L xs, some .int, [], mk_344, 4, Q) 0 mk_344 [(0, .ref 115), (1, .int v1), (2, .int v2), (3, .int v3)] [] true (mz_k S R N b t) := by
  unfold cf_344_0 at hC
  unfold cp_344_0 at hp
  refine g_iload_n rfl (g_aload_n rfl (g_iload_n rfl ?_))
  obtain ⟨h1, hp⟩ := hp
  refine g_v2v (Nat.le_of_ble_eq_true rfl) (mz_at hS (Nat.le_of_ble_eq_true rfl) mzcS_115) (fun _ hq => cs_342 (Nat.le_trans (Nat.le_of_ble_eq_true rfl) hd) (hS.le (Nat.le_of_ble_eq_true rfl)) (hR.le (Nat.le_of_ble_eq_true rfl))  v3 N h1 hq) ?_
  refine g_s2v (Nat.le_of_ble_eq_true rfl) (fun _ hq => cs_345 (Nat.le_trans (Nat.le_of_ble_eq_true rfl) hd) (hS.le (Nat.le_of_ble_eq_true rfl)) (hR.le (Nat.le_of_ble_eq_true rfl))  v2 (cf_342_0 v3 N) trivial hq) (g_aload_n rfl (g_getR (mz_at hS (Nat.le_of_ble_eq_true rfl) mzcS_115) mzcf_2_12 (mz_rb hR (Nat.le_of_ble_eq_true rfl) rfl mzcR_115_12) (g_iload_n rfl (g_iconst mzi_1 (g_iload_n rfl (g_ishl (g_ior ?_)))))))
  obtain ⟨h3, hp⟩ := hp
  refine g_aald4 (mz_at hS (Nat.le_of_ble_eq_true rfl) mzcS_143) h3 (mz_rb hR (Nat.le_of_ble_eq_true rfl) rfl (mzcR2_143 h3)) (g_iload_n rfl ?_)
  have h4 := hp
  refine g_iald hS.1 (mz_at hS (mzcL2_143 h3 (Nat.le_of_ble_eq_true rfl)) (mzcS2_143 h3)) h4 (g_iadd ?_)
  exact g_iret rfl (hr _ hC)
theorem cs_344 (hd : 2 ≤ d) (hS : mz_ext S 232) (hR : mz_rok R 232)  (v1 : Int32) (v2 : Int32) (v3 : Int32) (N : mz_N) (hp : cp_344_0 v1 v2 v3 N) (hq : Q (.inl (some (.int (cf_344_0 v1 v2 v3 N)))) (mz_k S R N b t)) : mz_Ed (mz_X0 L xs) d 344 [.ref 115, .int v1, .int v2, .int v3] (mz_k S R N b t) Q :=
  by
  refine g_in mzq_344 (Nat.le_of_ble_eq_true rfl) (Nat.le_of_ble_eq_true rfl) (Nat.le_trans (Nat.le_of_ble_eq_true rfl) hd) ?_
  refine g_weak ?_ (cg_344_0 (d := d - 1) (by omega) hS hR v1 v2 v3 N (C0 := fun z => Q (.inl (some (.int z))) (mz_k S R N b t)) (fun _ h => h) hp hq)
  exact ⟨rfl, rfl, rfl, rfl, trivial⟩
/-! 343 KeptHouse$Care.bestNext (III)I -/
theorem ms_343_0 : mz_sf mk_343 0 = mk_343 := mz_sf_zero _
theorem ms_343_6 : mz_sf mk_343 6 = mt_343_6 := mz_sf_add ms_343_0 (t := 6) rfl rfl
theorem ms_343_27 : mz_sf mk_343 27 = mt_343_27 := mz_sf_add ms_343_6 (t := 21) rfl rfl
theorem ms_343_46 : mz_sf mk_343 46 = mt_343_46 := mz_sf_add ms_343_27 (t := 19) rfl rfl
theorem ms_343_50 : mz_sf mk_343 50 = mt_343_50 := mz_sf_add ms_343_46 (t := 4) rfl rfl
theorem ms_343_56 : mz_sf mk_343 56 = mt_343_56 := mz_sf_add ms_343_50 (t := 6) rfl rfl
set_option maxRecDepth 100000 in
theorem mzq_343 : mz_PG0 343 = some (2, ⟨"KeptHouse$Care", "bestNext", "(III)I"⟩, prog_4_method_16_code, 6, some .int, [], mk_343, []) := rfl
theorem cg_343_50 (hd : 2 ≤ d) (hS : mz_ext S 232) (hR : mz_rok R 232)  (v1 : Int32) (v2 : Int32) (v3 : Int32) (v4 : Int32) (v5 : Int32) (N : mz_N) {C0 : (Int32) → Prop} (hr : ∀ (w : Int32), C0 w → Q (.inl (some (.int w))) (mz_k S R N b t)) {C1 : ((Int32 × Int32) ⊕ (Int32)) → Prop} (hc1 : ∀ s2, C1 (.inl s2) → mz_G (d, mz_X0 L xs, some .int, [], mk_343, 6, Q) 6 mt_343_6 [(0, .ref 115), (1, .int v1), (2, .int v2), (3, .int v3), (4, .int s2.1), (5, .int s2.2)] [] false (mz_k S R N b t)) (hx1 : ∀ z, C1 (.inr z) → C0 z) (hp : cp_343_50 v1 v2 v3 v4 v5 N) (hC : C1 (cf_343_50 v1 v2 v3 v4 v5 N)) : mz_G (d, mz_X0 L xs, some .int, [], mk_343, 6, Q) 50 mt_343_50 [(0, .ref 115), (1, .int v1), (2, .int v2), (3, .int v3), (4, .int v4), (5, .int v5)] [] false (mz_k S R N b t) := by
  unfold cf_343_50 at hC
  unfold cp_343_50 at hp
  refine g_iinc rfl mzi_1 (Nat.le_of_ble_eq_true rfl) rfl (g_goto (tg := 6) rfl ms_343_6 ?_)
  refine g_weak ?_ (g_cl (hc1 (v4, (v5 + 1)) hC))
  exact ⟨rfl, rfl, rfl, rfl, rfl, rfl, trivial⟩
theorem cg_343_46 (hd : 2 ≤ d) (hS : mz_ext S 232) (hR : mz_rok R 232)  (v1 : Int32) (v2 : Int32) (v3 : Int32) (v5 : Int32) (N : mz_N) {C0 : (Int32) → Prop} (hr : ∀ (w : Int32), C0 w → Q (.inl (some (.int w))) (mz_k S R N b t)) {C1 : ((Int32 × Int32) ⊕ (Int32)) → Prop} (hc1 : ∀ s2, C1 (.inl s2) → mz_G (d, mz_X0 L xs, some .int, [], mk_343, 6, Q) 6 mt_343_6 [(0, .ref 115), (1, .int v1), (2, .int v2), (3, .int v3), (4, .int s2.1), (5, .int s2.2)] [] false (mz_k S R N b t)) (hx1 : ∀ z, C1 (.inr z) → C0 z) (hp : cp_343_46 v1 v2 v3 v5 N) (hC : C1 (cf_343_46 v1 v2 v3 v5 N)) : mz_G (d, mz_X0 L xs, some .int, [], mk_343, 6, Q) 46 mt_343_46 [(0, .ref 115), (1, .int v1), (2, .int v2), (3, .int v3), (5, .int v5)] [] false (mz_k S R N b t) := by
  unfold cf_343_46 at hC
  unfold cp_343_46 at hp
  refine g_iload rfl (g_istore (Nat.le_of_ble_eq_true rfl) rfl ?_)
  refine g_weak ?_ (g_cl (cg_343_50 hd hS hR v1 v2 v3 v5 v5 N hr hc1 hx1 hp hC))
  exact ⟨rfl, rfl, rfl, rfl, rfl, rfl, trivial⟩
theorem cb_343_6 (hd : 2 ≤ d) (hS : mz_ext S 232) (hR : mz_rok R 232)  (v1 : Int32) (v2 : Int32) (v3 : Int32) (N : mz_N) (s : Int32 × Int32) {C0 : (Int32) → Prop} (hr : ∀ (w : Int32), C0 w → Q (.inl (some (.int w))) (mz_k S R N b t)) {C1 : ((Int32 × Int32) ⊕ (Int32)) → Prop} (hc1 : ∀ s2, C1 (.inl s2) → mz_G (d, mz_X0 L xs, some .int, [], mk_343, 6, Q) 6 mt_343_6 [(0, .ref 115), (1, .int v1), (2, .int v2), (3, .int v3), (4, .int s2.1), (5, .int s2.2)] [] false (mz_k S R N b t)) (hx1 : ∀ z, C1 (.inr z) → C0 z) (hp : cd_343_6 v1 v2 v3 N s) (hC : C1 (cq_343_6 v1 v2 v3 N s)) : mz_G (d, mz_X0 L xs, some .int, [], mk_343, 6, Q) 6 mt_343_6 [(0, .ref 115), (1, .int v1), (2, .int v2), (3, .int v3), (4, .int s.1), (5, .int s.2)] [] false (mz_k S R N b t) := by
  unfold cq_343_6 at hC
  unfold cd_343_6 at hp
  refine g_iload rfl (g_iload_n rfl ?_)
  refine g_icge (tg := 56) rfl ms_343_56 hC (fun h1 hC => ?_) (fun h1 hC => ?_)
  · have hp := hp.1 h1
    refine g_iload_n rfl (g_iload rfl (g_ishr (g_iconst mzi_1 (g_iand ?_))))
    refine g_ifne (tg := 50) rfl ms_343_50 hC (fun h2 hC => ?_) (fun h2 hC => ?_)
    · have hp := hp.1 h2
      refine g_iload rfl (g_iconst mzi_m1 ?_)
      refine g_iceq (tg := 46) rfl ms_343_46 hC (fun h3 hC => ?_) (fun h3 hC => ?_)
      · have hp := hp.1 h3
        refine g_weak ?_ (g_cl (cg_343_46 hd hS hR v1 v2 v3 s.2 N hr hc1 hx1 hp hC))
        exact ⟨rfl, rfl, rfl, rfl, rfl, trivial⟩
      · have hp := hp.2 h3
        refine g_aload_n rfl (g_iload_n rfl (g_iload_n rfl (g_iload rfl ?_)))
        obtain ⟨h4, hp⟩ := hp
        refine g_v4v (Nat.le_of_ble_eq_true rfl) (mz_at hS (Nat.le_of_ble_eq_true rfl) mzcS_115) (fun _ hq => cs_344 (Nat.le_trans (Nat.le_of_ble_eq_true rfl) hd) (hS.le (Nat.le_of_ble_eq_true rfl)) (hR.le (Nat.le_of_ble_eq_true rfl))  v2 v3 s.2 N h4 hq) (g_aload_n rfl (g_iload_n rfl (g_iload_n rfl (g_iload rfl ?_))))
        obtain ⟨h5, hp⟩ := hp
        refine g_v4v (Nat.le_of_ble_eq_true rfl) (mz_at hS (Nat.le_of_ble_eq_true rfl) mzcS_115) (fun _ hq => cs_344 (Nat.le_trans (Nat.le_of_ble_eq_true rfl) hd) (hS.le (Nat.le_of_ble_eq_true rfl)) (hR.le (Nat.le_of_ble_eq_true rfl))  v2 v3 s.1 N h5 hq) ?_
        refine g_icge (tg := 50) rfl ms_343_50 hC (fun h6 hC => ?_) (fun h6 hC => ?_)
        · have hp := hp.1 h6
          refine g_weak ?_ (g_cl (cg_343_46 hd hS hR v1 v2 v3 s.2 N hr hc1 hx1 hp hC))
          exact ⟨rfl, rfl, rfl, rfl, rfl, trivial⟩
        · have hp := hp.2 h6
          refine g_weak ?_ (g_cl (cg_343_50 hd hS hR v1 v2 v3 s.1 s.2 N hr hc1 hx1 hp hC))
          exact ⟨rfl, rfl, rfl, rfl, rfl, rfl, trivial⟩
    · have hp := hp.2 h2
      refine g_weak ?_ (g_cl (cg_343_50 hd hS hR v1 v2 v3 s.1 s.2 N hr hc1 hx1 hp hC))
      exact ⟨rfl, rfl, rfl, rfl, rfl, rfl, trivial⟩
  · have hp := hp.2 h1
    refine g_iload rfl ?_
    exact g_iret rfl (hr _ (hx1 _ hC))
theorem cg_343_6 (hd : 2 ≤ d) (hS : mz_ext S 232) (hR : mz_rok R 232)  (v1 : Int32) (v2 : Int32) (v3 : Int32) (v4 : Int32) (v5 : Int32) (N : mz_N) {C0 : (Int32) → Prop} (hr : ∀ (w : Int32), C0 w → Q (.inl (some (.int w))) (mz_k S R N b t)) (hp : cp_343_6 v1 v2 v3 v4 v5 N) (hC : C0 (cf_343_6 v1 v2 v3 v4 v5 N)) : mz_G (d, mz_X0 L xs, some .int, [], mk_343, 6, Q) 6 mt_343_6 [(0, .ref 115), (1, .int v1), (2, .int v2), (3, .int v3), (4, .int v4), (5, .int v5)] [] false (mz_k S R N b t) := by
  obtain ⟨n, hn⟩ := hp
  exact g_loop (G := fun s => mz_G (d, mz_X0 L xs, some .int, [], mk_343, 6, Q) 6 mt_343_6 [(0, .ref 115), (1, .int v1), (2, .int v2), (3, .int v3), (4, .int s.1), (5, .int s.2)] [] false (mz_k S R N b t)) (C := C0) (fun C2 hc hx s hP hC => cb_343_6 hd hS hR v1 v2 v3 N s hr hc hx hP hC) n (v4, v5) hn hC
theorem cg_343_0 (hd : 2 ≤ d) (hS : mz_ext S 232) (hR : mz_rok R 232)  (v1 : Int32) (v2 : Int32) (v3 : Int32) (N : mz_N) {C0 : (Int32) → Prop} (hr : ∀ (w : Int32), C0 w → Q (.inl (some (.int w))) (mz_k S R N b t)) (hp : cp_343_0 v1 v2 v3 N) (hC : C0 (cf_343_0 v1 v2 v3 N)) : mz_G (d, mz_X0 L xs, some .int, [], mk_343, 6, Q) 0 mk_343 [(0, .ref 115), (1, .int v1), (2, .int v2), (3, .int v3)] [] true (mz_k S R N b t) := by
  unfold cf_343_0 at hC
  unfold cp_343_0 at hp
  refine g_iconst mzi_m1 (g_istore (Nat.le_of_ble_eq_true rfl) rfl (g_iconst mzi_0 (g_istore (Nat.le_of_ble_eq_true rfl) rfl ?_)))
  refine g_weak ?_ (g_cl (cg_343_6 hd hS hR v1 v2 v3 (-1) 0 N hr hp hC))
  exact ⟨rfl, rfl, rfl, rfl, rfl, rfl, trivial⟩
theorem cs_343 (hd : 3 ≤ d) (hS : mz_ext S 232) (hR : mz_rok R 232)  (v1 : Int32) (v2 : Int32) (v3 : Int32) (N : mz_N) (hp : cp_343_0 v1 v2 v3 N) (hq : Q (.inl (some (.int (cf_343_0 v1 v2 v3 N)))) (mz_k S R N b t)) : mz_Ed (mz_X0 L xs) d 343 [.ref 115, .int v1, .int v2, .int v3] (mz_k S R N b t) Q :=
  by
  refine g_in mzq_343 (Nat.le_of_ble_eq_true rfl) (Nat.le_of_ble_eq_true rfl) (Nat.le_trans (Nat.le_of_ble_eq_true rfl) hd) ?_
  refine g_weak ?_ (cg_343_0 (d := d - 1) (by omega) hS hR v1 v2 v3 N (C0 := fun z => Q (.inl (some (.int z))) (mz_k S R N b t)) (fun _ h => h) hp hq)
  exact ⟨rfl, rfl, rfl, rfl, trivial⟩
/-! 341 KeptHouse$Care.measureWays (I)V -/
theorem ms_341_0 : mz_sf mk_341 0 = mk_341 := mz_sf_zero _
theorem ms_341_6 : mz_sf mk_341 6 = mt_341_6 := mz_sf_add ms_341_0 (t := 6) rfl rfl
theorem ms_341_12 : mz_sf mk_341 12 = mt_341_12 := mz_sf_add ms_341_6 (t := 6) rfl rfl
theorem ms_341_55 : mz_sf mk_341 55 = mt_341_55 := mz_sf_add ms_341_12 (t := 43) rfl rfl
theorem ms_341_67 : mz_sf mk_341 67 = mt_341_67 := mz_sf_add ms_341_55 (t := 12) rfl rfl
theorem ms_341_74 : mz_sf mk_341 74 = mt_341_74 := mz_sf_add ms_341_67 (t := 7) rfl rfl
theorem ms_341_80 : mz_sf mk_341 80 = mt_341_80 := mz_sf_add ms_341_74 (t := 6) rfl rfl
set_option maxRecDepth 100000 in
theorem mzq_341 : mz_PG0 341 = some (2, ⟨"KeptHouse$Care", "measureWays", "(I)V"⟩, prog_4_method_14_code, 5, none, [], mk_341, []) := rfl
theorem cg_341_67 (hd : 3 ≤ d) (hS : mz_ext S 232) (hR : mz_rok R 232)  (s0 : Nat) (s1 : Int32) (s2 : Int32) (v1 : Int32) (v2 : Int32) (v3 : Int32) (N : mz_N) (hv0 : S[s0]? = some (0, 6, [])) {C0 : (mz_N) → Prop} (hr : ∀ (N2 : mz_N), C0 N2 → Q (.inl none) (mz_k S R N2 b t)) {C1 : ((Int32 × mz_N) ⊕ (mz_N)) → Prop} (hc1 : ∀ s2, C1 (.inl s2) → mz_G (d, mz_X0 L xs, none, [], mk_341, 5, Q) 6 mt_341_6 [(0, .ref 115), (1, .int v1), (2, .int s2.1)] [] false (mz_k S R s2.2 b t)) (hx1 : ∀ z, C1 (.inr z) → C0 z) {C2 : ((Int32 × mz_N) ⊕ ((Int32 × mz_N) ⊕ (mz_N))) → Prop} (hc2 : ∀ s2, C2 (.inl s2) → mz_G (d, mz_X0 L xs, none, [], mk_341, 5, Q) 12 mt_341_12 [(0, .ref 115), (1, .int v1), (2, .int v2), (3, .int s2.1)] [] false (mz_k S R s2.2 b t)) (hx2 : ∀ z, C2 (.inr z) → C1 z) (hp : cp_341_67 s0 s1 s2 v1 v2 v3 N) (hC : C2 (cf_341_67 s0 s1 s2 v1 v2 v3 N)) : mz_G (d, mz_X0 L xs, none, [], mk_341, 5, Q) 67 mt_341_67 [(0, .ref 115), (1, .int v1), (2, .int v2), (3, .int v3)] [.int s2, .int s1, .ref s0] false (mz_k S R N b t) := by
  unfold cf_341_67 at hC
  unfold cp_341_67 at hp
  have h1 := hp
  refine g_iast hv0 h1 (g_iinc rfl mzi_1 (Nat.le_of_ble_eq_true rfl) rfl (g_goto (tg := 12) rfl ms_341_12 ?_))
  refine g_weak ?_ (g_cl (hc2 ((v3 + 1), mz_wI N s0 s1 s2) hC))
  exact ⟨rfl, rfl, rfl, rfl, trivial⟩
theorem cb_341_12 (hd : 3 ≤ d) (hS : mz_ext S 232) (hR : mz_rok R 232)  (v1 : Int32) (v2 : Int32) (s : Int32 × mz_N) {C0 : (mz_N) → Prop} (hr : ∀ (N2 : mz_N), C0 N2 → Q (.inl none) (mz_k S R N2 b t)) {C1 : ((Int32 × mz_N) ⊕ (mz_N)) → Prop} (hc1 : ∀ s2, C1 (.inl s2) → mz_G (d, mz_X0 L xs, none, [], mk_341, 5, Q) 6 mt_341_6 [(0, .ref 115), (1, .int v1), (2, .int s2.1)] [] false (mz_k S R s2.2 b t)) (hx1 : ∀ z, C1 (.inr z) → C0 z) {C2 : ((Int32 × mz_N) ⊕ ((Int32 × mz_N) ⊕ (mz_N))) → Prop} (hc2 : ∀ s2, C2 (.inl s2) → mz_G (d, mz_X0 L xs, none, [], mk_341, 5, Q) 12 mt_341_12 [(0, .ref 115), (1, .int v1), (2, .int v2), (3, .int s2.1)] [] false (mz_k S R s2.2 b t)) (hx2 : ∀ z, C2 (.inr z) → C1 z) (hp : cd_341_12 v1 v2 s) (hC : C2 (cq_341_12 v1 v2 s)) : mz_G (d, mz_X0 L xs, none, [], mk_341, 5, Q) 12 mt_341_12 [(0, .ref 115), (1, .int v1), (2, .int v2), (3, .int s.1)] [] false (mz_k S R s.2 b t) := by
  unfold cq_341_12 at hC
  unfold cd_341_12 at hp
  refine g_iload_n rfl (g_iload_n rfl ?_)
  refine g_icge (tg := 74) rfl ms_341_74 hC (fun h1 hC => ?_) (fun h1 hC => ?_)
  · have hp := hp.1 h1
    refine g_aload_n rfl (g_iload_n rfl (g_iload_n rfl (g_aload_n rfl (g_iload_n rfl ?_))))
    obtain ⟨h2, hp⟩ := hp
    refine g_v2v (Nat.le_of_ble_eq_true rfl) (mz_at hS (Nat.le_of_ble_eq_true rfl) mzcS_115) (fun _ hq => cs_342 (Nat.le_trans (Nat.le_of_ble_eq_true rfl) hd) (hS.le (Nat.le_of_ble_eq_true rfl)) (hR.le (Nat.le_of_ble_eq_true rfl))  s.1 s.2 h2 hq) ?_
    obtain ⟨h3, hp⟩ := hp
    refine g_v4v (Nat.le_of_ble_eq_true rfl) (mz_at hS (Nat.le_of_ble_eq_true rfl) mzcS_115) (fun _ hq => cs_343 (Nat.le_trans (Nat.le_of_ble_eq_true rfl) hd) (hS.le (Nat.le_of_ble_eq_true rfl)) (hR.le (Nat.le_of_ble_eq_true rfl))  v1 v2 (cf_342_0 s.1 s.2) s.2 h3 hq) (g_istore (Nat.le_of_ble_eq_true rfl) rfl (g_aload_n rfl (g_getR (mz_at hS (Nat.le_of_ble_eq_true rfl) mzcS_115) mzcf_2_12 (mz_rb hR (Nat.le_of_ble_eq_true rfl) rfl mzcR_115_12) (g_iload_n rfl ?_))))
    obtain ⟨h4, hp⟩ := hp
    refine g_aald4 (mz_at hS (Nat.le_of_ble_eq_true rfl) mzcS_143) h4 (mz_rb hR (Nat.le_of_ble_eq_true rfl) rfl (mzcR2_143 h4)) (g_iload_n rfl (g_iload rfl (g_iconst mzi_m1 ?_)))
    refine g_icne (tg := 55) rfl ms_341_55 hC (fun h5 hC => ?_) (fun h5 hC => ?_)
    · have hp := hp.1 h5
      refine g_aload_n rfl (g_iload_n rfl ?_)
      obtain ⟨h6, hp⟩ := hp
      refine g_v2v (Nat.le_of_ble_eq_true rfl) (mz_at hS (Nat.le_of_ble_eq_true rfl) mzcS_115) (fun _ hq => cs_342 (Nat.le_trans (Nat.le_of_ble_eq_true rfl) hd) (hS.le (Nat.le_of_ble_eq_true rfl)) (hR.le (Nat.le_of_ble_eq_true rfl))  s.1 s.2 h6 hq) (g_iconst mzi_0 ?_)
      refine g_s2v (Nat.le_of_ble_eq_true rfl) (fun _ hq => cs_345 (Nat.le_trans (Nat.le_of_ble_eq_true rfl) hd) (hS.le (Nat.le_of_ble_eq_true rfl)) (hR.le (Nat.le_of_ble_eq_true rfl))  (cf_342_0 s.1 s.2) 0 trivial hq) (g_goto (tg := 67) rfl ms_341_67 ?_)
      refine g_weak ?_ (g_cl (cg_341_67 hd hS hR (144 + v2.toNatClampNeg) s.1 (cf_345_0 (cf_342_0 s.1 s.2) 0) v1 v2 s.1 s.2 (mz_at hS (mzcL2_143 h4 (Nat.le_of_ble_eq_true rfl)) (mzcS2_143 h4)) hr hc1 hx1 hc2 hx2 hp hC))
      exact ⟨rfl, rfl, rfl, rfl, trivial⟩
    · have hp := hp.2 h5
      refine g_aload_n rfl (g_iload_n rfl (g_aload_n rfl (g_iload_n rfl ?_)))
      obtain ⟨h8, hp⟩ := hp
      refine g_v2v (Nat.le_of_ble_eq_true rfl) (mz_at hS (Nat.le_of_ble_eq_true rfl) mzcS_115) (fun _ hq => cs_342 (Nat.le_trans (Nat.le_of_ble_eq_true rfl) hd) (hS.le (Nat.le_of_ble_eq_true rfl)) (hR.le (Nat.le_of_ble_eq_true rfl))  s.1 s.2 h8 hq) (g_iload rfl ?_)
      obtain ⟨h9, hp⟩ := hp
      refine g_v4v (Nat.le_of_ble_eq_true rfl) (mz_at hS (Nat.le_of_ble_eq_true rfl) mzcS_115) (fun _ hq => cs_344 (Nat.le_trans (Nat.le_of_ble_eq_true rfl) hd) (hS.le (Nat.le_of_ble_eq_true rfl)) (hR.le (Nat.le_of_ble_eq_true rfl))  v2 (cf_342_0 s.1 s.2) (cf_343_0 v1 v2 (cf_342_0 s.1 s.2) s.2) s.2 h9 hq) ?_
      refine g_weak ?_ (g_cl (cg_341_67 hd hS hR (144 + v2.toNatClampNeg) s.1 (cf_344_0 v2 (cf_342_0 s.1 s.2) (cf_343_0 v1 v2 (cf_342_0 s.1 s.2) s.2) s.2) v1 v2 s.1 s.2 (mz_at hS (mzcL2_143 h4 (Nat.le_of_ble_eq_true rfl)) (mzcS2_143 h4)) hr hc1 hx1 hc2 hx2 hp hC))
      exact ⟨rfl, rfl, rfl, rfl, trivial⟩
  · have hp := hp.2 h1
    refine g_iinc rfl mzi_m1 (Nat.le_of_ble_eq_true rfl) rfl (g_goto (tg := 6) rfl ms_341_6 ?_)
    refine g_weak ?_ (g_cl (hc1 ((v2 + (-1)), s.2) (hx2 _ hC)))
    exact ⟨rfl, rfl, rfl, trivial⟩
theorem cg_341_12 (hd : 3 ≤ d) (hS : mz_ext S 232) (hR : mz_rok R 232)  (v1 : Int32) (v2 : Int32) (v3 : Int32) (N : mz_N) {C0 : (mz_N) → Prop} (hr : ∀ (N2 : mz_N), C0 N2 → Q (.inl none) (mz_k S R N2 b t)) {C1 : ((Int32 × mz_N) ⊕ (mz_N)) → Prop} (hc1 : ∀ s2, C1 (.inl s2) → mz_G (d, mz_X0 L xs, none, [], mk_341, 5, Q) 6 mt_341_6 [(0, .ref 115), (1, .int v1), (2, .int s2.1)] [] false (mz_k S R s2.2 b t)) (hx1 : ∀ z, C1 (.inr z) → C0 z) (hp : cp_341_12 v1 v2 v3 N) (hC : C1 (cf_341_12 v1 v2 v3 N)) : mz_G (d, mz_X0 L xs, none, [], mk_341, 5, Q) 12 mt_341_12 [(0, .ref 115), (1, .int v1), (2, .int v2), (3, .int v3)] [] false (mz_k S R N b t) := by
  obtain ⟨n, hn⟩ := hp
  exact g_loop (G := fun s => mz_G (d, mz_X0 L xs, none, [], mk_341, 5, Q) 12 mt_341_12 [(0, .ref 115), (1, .int v1), (2, .int v2), (3, .int s.1)] [] false (mz_k S R s.2 b t)) (C := C1) (fun C2 hc hx s hP hC => cb_341_12 hd hS hR v1 v2 s hr hc1 hx1 hc hx hP hC) n (v3, N) hn hC
theorem cb_341_6 (hd : 3 ≤ d) (hS : mz_ext S 232) (hR : mz_rok R 232)  (v1 : Int32) (s : Int32 × mz_N) {C0 : (mz_N) → Prop} (hr : ∀ (N2 : mz_N), C0 N2 → Q (.inl none) (mz_k S R N2 b t)) {C1 : ((Int32 × mz_N) ⊕ (mz_N)) → Prop} (hc1 : ∀ s2, C1 (.inl s2) → mz_G (d, mz_X0 L xs, none, [], mk_341, 5, Q) 6 mt_341_6 [(0, .ref 115), (1, .int v1), (2, .int s2.1)] [] false (mz_k S R s2.2 b t)) (hx1 : ∀ z, C1 (.inr z) → C0 z) (hp : cd_341_6 v1 s) (hC : C1 (cq_341_6 v1 s)) : mz_G (d, mz_X0 L xs, none, [], mk_341, 5, Q) 6 mt_341_6 [(0, .ref 115), (1, .int v1), (2, .int s.1)] [] false (mz_k S R s.2 b t) := by
  unfold cq_341_6 at hC
  unfold cd_341_6 at hp
  refine g_iload_n rfl ?_
  refine g_ifle (tg := 80) rfl ms_341_80 hC (fun h1 hC => ?_) (fun h1 hC => ?_)
  · have hp := hp.1 h1
    refine g_iconst mzi_0 (g_istore_n (Nat.le_of_ble_eq_true rfl) rfl ?_)
    refine g_weak ?_ (g_cl (cg_341_12 hd hS hR v1 s.1 0 s.2 hr hc1 hx1 hp hC))
    exact ⟨rfl, rfl, rfl, rfl, trivial⟩
  · have hp := hp.2 h1
    exact g_vret rfl (hr _ (hx1 _ hC))
theorem cg_341_6 (hd : 3 ≤ d) (hS : mz_ext S 232) (hR : mz_rok R 232)  (v1 : Int32) (v2 : Int32) (N : mz_N) {C0 : (mz_N) → Prop} (hr : ∀ (N2 : mz_N), C0 N2 → Q (.inl none) (mz_k S R N2 b t)) (hp : cp_341_6 v1 v2 N) (hC : C0 (cf_341_6 v1 v2 N)) : mz_G (d, mz_X0 L xs, none, [], mk_341, 5, Q) 6 mt_341_6 [(0, .ref 115), (1, .int v1), (2, .int v2)] [] false (mz_k S R N b t) := by
  obtain ⟨n, hn⟩ := hp
  exact g_loop (G := fun s => mz_G (d, mz_X0 L xs, none, [], mk_341, 5, Q) 6 mt_341_6 [(0, .ref 115), (1, .int v1), (2, .int s.1)] [] false (mz_k S R s.2 b t)) (C := C0) (fun C2 hc hx s hP hC => cb_341_6 hd hS hR v1 s hr hc hx hP hC) n (v2, N) hn hC
theorem cg_341_0 (hd : 3 ≤ d) (hS : mz_ext S 232) (hR : mz_rok R 232)  (v1 : Int32) (N : mz_N) {C0 : (mz_N) → Prop} (hr : ∀ (N2 : mz_N), C0 N2 → Q (.inl none) (mz_k S R N2 b t)) (hp : cp_341_0 v1 N) (hC : C0 (cf_341_0 v1 N)) : mz_G (d, mz_X0 L xs, none, [], mk_341, 5, Q) 0 mk_341 [(0, .ref 115), (1, .int v1)] [] true (mz_k S R N b t) := by
  unfold cf_341_0 at hC
  unfold cp_341_0 at hp
  refine g_iconst mzi_1 (g_iload_n rfl (g_ishl (g_iconst mzi_1 (g_isub (g_istore_n (Nat.le_of_ble_eq_true rfl) rfl ?_)))))
  refine g_weak ?_ (g_cl (cg_341_6 hd hS hR v1 ((mz_ishl 1 v1) - 1) N hr hp hC))
  exact ⟨rfl, rfl, rfl, trivial⟩
theorem cs_341 (hd : 4 ≤ d) (hS : mz_ext S 232) (hR : mz_rok R 232)  (v1 : Int32) (N : mz_N) (hp : cp_341_0 v1 N) (hq : Q (.inl none) (mz_k S R (cf_341_0 v1 N) b t)) : mz_Ed (mz_X0 L xs) d 341 [.ref 115, .int v1] (mz_k S R N b t) Q :=
  by
  refine g_in mzq_341 (Nat.le_of_ble_eq_true rfl) (Nat.le_of_ble_eq_true rfl) (Nat.le_trans (Nat.le_of_ble_eq_true rfl) hd) ?_
  refine g_weak ?_ (cg_341_0 (d := d - 1) (by omega) hS hR v1 N (C0 := fun z => Q (.inl none) (mz_k S R z b t)) (fun _ h => h) hp hq)
  exact ⟨rfl, rfl, trivial⟩
/-! 346 KeptHouse$Care.layTour (III)V -/
theorem ms_346_0 : mz_sf mk_346 0 = mk_346 := mz_sf_zero _
theorem ms_346_12 : mz_sf mk_346 12 = mt_346_12 := mz_sf_add ms_346_0 (t := 12) rfl rfl
theorem ms_346_35 : mz_sf mk_346 35 = mt_346_35 := mz_sf_add ms_346_12 (t := 23) rfl rfl
theorem ms_346_70 : mz_sf mk_346 70 = mt_346_70 := mz_sf_add ms_346_35 (t := 35) rfl rfl
theorem ms_346_90 : mz_sf mk_346 90 = mt_346_90 := mz_sf_add ms_346_70 (t := 20) rfl rfl
theorem ms_346_98 : mz_sf mk_346 98 = mt_346_98 := mz_sf_add ms_346_90 (t := 8) rfl rfl
theorem ms_346_104 : mz_sf mk_346 104 = mt_346_104 := mz_sf_add ms_346_98 (t := 6) rfl rfl
set_option maxRecDepth 100000 in
theorem mzq_346 : mz_PG0 346 = some (2, ⟨"KeptHouse$Care", "layTour", "(III)V"⟩, prog_4_method_17_code, 9, none, [], mk_346, []) := rfl
theorem cg_346_98 (hd : 3 ≤ d) (hS : mz_ext S 232) (hR : mz_rok R 232)  (v1 : Int32) (v2 : Int32) (v4 : Int32) (v5 : Int32) (v6 : Int32) (v7 : Int32) (N : mz_N) {C0 : (mz_N) → Prop} (hr : ∀ (N2 : mz_N), C0 N2 → Q (.inl none) (mz_k S R N2 b t)) {C1 : ((Int32 × Int32 × Int32 × Int32 × mz_N) ⊕ (mz_N)) → Prop} (hc1 : ∀ s2, C1 (.inl s2) → mz_G (d, mz_X0 L xs, none, [], mk_346, 9, Q) 12 mt_346_12 [(0, .ref 115), (1, .int v1), (2, .int v2), (4, .int s2.1), (5, .int s2.2.1), (6, .int s2.2.2.1), (7, .int s2.2.2.2.1)] [] false (mz_k S R s2.2.2.2.2 b t)) (hx1 : ∀ z, C1 (.inr z) → C0 z) (hp : cp_346_98 v1 v2 v4 v5 v6 v7 N) (hC : C1 (cf_346_98 v1 v2 v4 v5 v6 v7 N)) : mz_G (d, mz_X0 L xs, none, [], mk_346, 9, Q) 98 mt_346_98 [(0, .ref 115), (1, .int v1), (2, .int v2), (4, .int v4), (5, .int v5), (6, .int v6), (7, .int v7)] [] false (mz_k S R N b t) := by
  unfold cf_346_98 at hC
  unfold cp_346_98 at hp
  refine g_iinc rfl mzi_1 (Nat.le_of_ble_eq_true rfl) rfl (g_goto (tg := 12) rfl ms_346_12 ?_)
  refine g_weak ?_ (g_cl (hc1 (v4, v5, v6, (v7 + 1), N) hC))
  exact ⟨rfl, rfl, rfl, rfl, rfl, rfl, rfl, trivial⟩
theorem cg_346_70 (hd : 3 ≤ d) (hS : mz_ext S 232) (hR : mz_rok R 232)  (v1 : Int32) (v2 : Int32) (v4 : Int32) (v6 : Int32) (v7 : Int32) (v8 : Int32) (N : mz_N) {C0 : (mz_N) → Prop} (hr : ∀ (N2 : mz_N), C0 N2 → Q (.inl none) (mz_k S R N2 b t)) {C1 : ((Int32 × Int32 × Int32 × Int32 × mz_N) ⊕ (mz_N)) → Prop} (hc1 : ∀ s2, C1 (.inl s2) → mz_G (d, mz_X0 L xs, none, [], mk_346, 9, Q) 12 mt_346_12 [(0, .ref 115), (1, .int v1), (2, .int v2), (4, .int s2.1), (5, .int s2.2.1), (6, .int s2.2.2.1), (7, .int s2.2.2.2.1)] [] false (mz_k S R s2.2.2.2.2 b t)) (hx1 : ∀ z, C1 (.inr z) → C0 z) (hp : cp_346_70 v1 v2 v4 v6 v7 v8 N) (hC : C1 (cf_346_70 v1 v2 v4 v6 v7 v8 N)) : mz_G (d, mz_X0 L xs, none, [], mk_346, 9, Q) 70 mt_346_70 [(0, .ref 115), (1, .int v1), (2, .int v2), (4, .int v4), (6, .int v6), (7, .int v7), (8, .int v8)] [] false (mz_k S R N b t) := by
  unfold cf_346_70 at hC
  unfold cp_346_70 at hp
  refine g_aload_n rfl (g_getR (mz_at hS (Nat.le_of_ble_eq_true rfl) mzcS_115) mzcf_2_9 (mz_rb hR (Nat.le_of_ble_eq_true rfl) rfl mzcR_115_9) (g_iload_n rfl ?_))
  obtain ⟨h1, hp⟩ := hp
  refine g_aald4 (mz_at hS (Nat.le_of_ble_eq_true rfl) mzcS_138) h1 (mz_rb hR (Nat.le_of_ble_eq_true rfl) rfl (mzcR2_138 h1)) (g_iload rfl (g_iload rfl ?_))
  obtain ⟨h2, hp⟩ := hp
  refine g_iast (mz_at hS (mzcL2_138 h1 (Nat.le_of_ble_eq_true rfl)) (mzcS2_138 h1)) h2 (g_iload rfl (g_iconst mzi_1 (g_iload rfl (g_ishl (g_ior (g_istore (Nat.le_of_ble_eq_true rfl) rfl (g_aload_n rfl ?_)))))))
  refine g_iload rfl ?_
  obtain ⟨h3, hp⟩ := hp
  refine g_v2v (Nat.le_of_ble_eq_true rfl) (mz_at hS (Nat.le_of_ble_eq_true rfl) mzcS_115) (fun _ hq => cs_342 (Nat.le_trans (Nat.le_of_ble_eq_true rfl) hd) (hS.le (Nat.le_of_ble_eq_true rfl)) (hR.le (Nat.le_of_ble_eq_true rfl))  v8 (mz_wI N (139 + v1.toNatClampNeg) v7 v6) h3 hq) (g_istore (Nat.le_of_ble_eq_true rfl) rfl ?_)
  refine g_weak ?_ (g_cl (cg_346_98 hd hS hR v1 v2 (v4 ||| (mz_ishl 1 v8)) (cf_342_0 v8 (mz_wI N (139 + v1.toNatClampNeg) v7 v6)) v6 v7 (mz_wI N (139 + v1.toNatClampNeg) v7 v6) hr hc1 hx1 hp hC))
  exact ⟨rfl, rfl, rfl, rfl, rfl, rfl, rfl, trivial⟩
theorem cb_346_12 (hd : 3 ≤ d) (hS : mz_ext S 232) (hR : mz_rok R 232)  (v1 : Int32) (v2 : Int32) (s : Int32 × Int32 × Int32 × Int32 × mz_N) {C0 : (mz_N) → Prop} (hr : ∀ (N2 : mz_N), C0 N2 → Q (.inl none) (mz_k S R N2 b t)) {C1 : ((Int32 × Int32 × Int32 × Int32 × mz_N) ⊕ (mz_N)) → Prop} (hc1 : ∀ s2, C1 (.inl s2) → mz_G (d, mz_X0 L xs, none, [], mk_346, 9, Q) 12 mt_346_12 [(0, .ref 115), (1, .int v1), (2, .int v2), (4, .int s2.1), (5, .int s2.2.1), (6, .int s2.2.2.1), (7, .int s2.2.2.2.1)] [] false (mz_k S R s2.2.2.2.2 b t)) (hx1 : ∀ z, C1 (.inr z) → C0 z) (hp : cd_346_12 v1 v2 s) (hC : C1 (cq_346_12 v1 v2 s)) : mz_G (d, mz_X0 L xs, none, [], mk_346, 9, Q) 12 mt_346_12 [(0, .ref 115), (1, .int v1), (2, .int v2), (4, .int s.1), (5, .int s.2.1), (6, .int s.2.2.1), (7, .int s.2.2.2.1)] [] false (mz_k S R s.2.2.2.2 b t) := by
  unfold cq_346_12 at hC
  unfold cd_346_12 at hp
  refine g_iload rfl (g_iload_n rfl ?_)
  refine g_icge (tg := 104) rfl ms_346_104 hC (fun h1 hC => ?_) (fun h1 hC => ?_)
  · have hp := hp.1 h1
    refine g_aload_n rfl (g_iload_n rfl (g_iload rfl (g_iload rfl ?_)))
    obtain ⟨h2, hp⟩ := hp
    refine g_v4v (Nat.le_of_ble_eq_true rfl) (mz_at hS (Nat.le_of_ble_eq_true rfl) mzcS_115) (fun _ hq => cs_343 (Nat.le_trans (Nat.le_of_ble_eq_true rfl) hd) (hS.le (Nat.le_of_ble_eq_true rfl)) (hR.le (Nat.le_of_ble_eq_true rfl))  v2 s.1 s.2.1 s.2.2.2.2 h2 hq) (g_istore (Nat.le_of_ble_eq_true rfl) rfl (g_iload rfl (g_iconst mzi_m1 ?_)))
    refine g_iceq (tg := 98) rfl ms_346_98 hC (fun h3 hC => ?_) (fun h3 hC => ?_)
    · have hp := hp.1 h3
      refine g_weak ?_ (g_cl (cg_346_98 hd hS hR v1 v2 s.1 s.2.1 s.2.2.1 s.2.2.2.1 s.2.2.2.2 hr hc1 hx1 hp hC))
      exact ⟨rfl, rfl, rfl, rfl, rfl, rfl, rfl, trivial⟩
    · have hp := hp.2 h3
      refine g_iload rfl (g_iload rfl (g_aload_n rfl (g_iload rfl ?_)))
      obtain ⟨h4, hp⟩ := hp
      refine g_v2v (Nat.le_of_ble_eq_true rfl) (mz_at hS (Nat.le_of_ble_eq_true rfl) mzcS_115) (fun _ hq => cs_342 (Nat.le_trans (Nat.le_of_ble_eq_true rfl) hd) (hS.le (Nat.le_of_ble_eq_true rfl)) (hR.le (Nat.le_of_ble_eq_true rfl))  (cf_343_0 v2 s.1 s.2.1 s.2.2.2.2) s.2.2.2.2 h4 hq) ?_
      refine g_s2v (Nat.le_of_ble_eq_true rfl) (fun _ hq => cs_345 (Nat.le_trans (Nat.le_of_ble_eq_true rfl) hd) (hS.le (Nat.le_of_ble_eq_true rfl)) (hR.le (Nat.le_of_ble_eq_true rfl))  s.2.1 (cf_342_0 (cf_343_0 v2 s.1 s.2.1 s.2.2.2.2) s.2.2.2.2) trivial hq) (g_bipush mzb_15 (g_iadd (g_iadd (g_istore (Nat.le_of_ble_eq_true rfl) rfl (g_aload_n rfl (g_getR (mz_at hS (Nat.le_of_ble_eq_true rfl) mzcS_115) mzcf_2_8 (mz_rb hR (Nat.le_of_ble_eq_true rfl) rfl mzcR_115_8) (g_iload_n rfl ?_)))))))
      obtain ⟨h6, hp⟩ := hp
      refine g_aald4 (mz_at hS (Nat.le_of_ble_eq_true rfl) mzcS_135) h6 (mz_rb hR (Nat.le_of_ble_eq_true rfl) rfl (mzcR2_135 h6)) (g_iload rfl (g_aload_n rfl (g_getR (mz_at hS (Nat.le_of_ble_eq_true rfl) mzcS_115) mzcf_2_11 (mz_rb hR (Nat.le_of_ble_eq_true rfl) rfl mzcR_115_11) (g_iload rfl ?_))))
      obtain ⟨h7, hp⟩ := hp
      refine g_iald hS.1 (mz_at hS (Nat.le_of_ble_eq_true rfl) mzcS_142) h7 ?_
      obtain ⟨h8, hp⟩ := hp
      refine g_iast (mz_at hS (mzcL2_135 h6 (Nat.le_of_ble_eq_true rfl)) (mzcS2_135 h6)) h8 ?_
      refine g_weak ?_ (g_cl (cg_346_70 hd hS hR v1 v2 s.1 (s.2.2.1 + ((cf_345_0 s.2.1 (cf_342_0 (cf_343_0 v2 s.1 s.2.1 s.2.2.2.2) s.2.2.2.2)) + 15)) s.2.2.2.1 (cf_343_0 v2 s.1 s.2.1 s.2.2.2.2) (mz_wI s.2.2.2.2 (136 + v1.toNatClampNeg) s.2.2.2.1 (mz_gI s.2.2.2.2 142 (cf_343_0 v2 s.1 s.2.1 s.2.2.2.2))) hr hc1 hx1 hp hC))
      exact ⟨rfl, rfl, rfl, rfl, rfl, rfl, rfl, trivial⟩
  · have hp := hp.2 h1
    refine g_aload_n rfl (g_getR (mz_at hS (Nat.le_of_ble_eq_true rfl) mzcS_115) mzcf_2_10 (mz_rb hR (Nat.le_of_ble_eq_true rfl) rfl mzcR_115_10) (g_iload_n rfl (g_iload rfl (g_iload rfl (g_iconst mzi_0 ?_)))))
    refine g_s2v (Nat.le_of_ble_eq_true rfl) (fun _ hq => cs_345 (Nat.le_trans (Nat.le_of_ble_eq_true rfl) hd) (hS.le (Nat.le_of_ble_eq_true rfl)) (hR.le (Nat.le_of_ble_eq_true rfl))  s.2.1 0 trivial hq) (g_iadd ?_)
    have h10 := hp
    refine g_iast (mz_at hS (Nat.le_of_ble_eq_true rfl) mzcS_141) h10 ?_
    exact g_vret rfl (hr _ (hx1 _ hC))
theorem cg_346_12 (hd : 3 ≤ d) (hS : mz_ext S 232) (hR : mz_rok R 232)  (v1 : Int32) (v2 : Int32) (v4 : Int32) (v5 : Int32) (v6 : Int32) (v7 : Int32) (N : mz_N) {C0 : (mz_N) → Prop} (hr : ∀ (N2 : mz_N), C0 N2 → Q (.inl none) (mz_k S R N2 b t)) (hp : cp_346_12 v1 v2 v4 v5 v6 v7 N) (hC : C0 (cf_346_12 v1 v2 v4 v5 v6 v7 N)) : mz_G (d, mz_X0 L xs, none, [], mk_346, 9, Q) 12 mt_346_12 [(0, .ref 115), (1, .int v1), (2, .int v2), (4, .int v4), (5, .int v5), (6, .int v6), (7, .int v7)] [] false (mz_k S R N b t) := by
  obtain ⟨n, hn⟩ := hp
  exact g_loop (G := fun s => mz_G (d, mz_X0 L xs, none, [], mk_346, 9, Q) 12 mt_346_12 [(0, .ref 115), (1, .int v1), (2, .int v2), (4, .int s.1), (5, .int s.2.1), (6, .int s.2.2.1), (7, .int s.2.2.2.1)] [] false (mz_k S R s.2.2.2.2 b t)) (C := C0) (fun C2 hc hx s hP hC => cb_346_12 hd hS hR v1 v2 s hr hc hx hP hC) n (v4, v5, v6, v7, N) hn hC
theorem cg_346_0 (hd : 3 ≤ d) (hS : mz_ext S 232) (hR : mz_rok R 232)  (v1 : Int32) (v2 : Int32) (v3 : Int32) (N : mz_N) {C0 : (mz_N) → Prop} (hr : ∀ (N2 : mz_N), C0 N2 → Q (.inl none) (mz_k S R N2 b t)) (hp : cp_346_0 v1 v2 v3 N) (hC : C0 (cf_346_0 v1 v2 v3 N)) : mz_G (d, mz_X0 L xs, none, [], mk_346, 9, Q) 0 mk_346 [(0, .ref 115), (1, .int v1), (2, .int v2), (3, .int v3)] [] true (mz_k S R N b t) := by
  unfold cf_346_0 at hC
  unfold cp_346_0 at hp
  refine g_iconst mzi_0 (g_istore (Nat.le_of_ble_eq_true rfl) rfl (g_iconst mzi_0 (g_istore (Nat.le_of_ble_eq_true rfl) rfl (g_iload_n rfl (g_istore (Nat.le_of_ble_eq_true rfl) rfl (g_iconst mzi_0 (g_istore (Nat.le_of_ble_eq_true rfl) rfl ?_)))))))
  refine g_weak ?_ (g_cl (cg_346_12 hd hS hR v1 v2 0 0 v3 0 N hr hp hC))
  exact ⟨rfl, rfl, rfl, rfl, rfl, rfl, rfl, trivial⟩
theorem cs_346 (hd : 4 ≤ d) (hS : mz_ext S 232) (hR : mz_rok R 232)  (v1 : Int32) (v2 : Int32) (v3 : Int32) (N : mz_N) (hp : cp_346_0 v1 v2 v3 N) (hq : Q (.inl none) (mz_k S R (cf_346_0 v1 v2 v3 N) b t)) : mz_Ed (mz_X0 L xs) d 346 [.ref 115, .int v1, .int v2, .int v3] (mz_k S R N b t) Q :=
  by
  refine g_in mzq_346 (Nat.le_of_ble_eq_true rfl) (Nat.le_of_ble_eq_true rfl) (Nat.le_trans (Nat.le_of_ble_eq_true rfl) hd) ?_
  refine g_weak ?_ (cg_346_0 (d := d - 1) (by omega) hS hR v1 v2 v3 N (C0 := fun z => Q (.inl none) (mz_k S R z b t)) (fun _ h => h) hp hq)
  exact ⟨rfl, rfl, rfl, rfl, trivial⟩
/-! 338 KeptHouse$Care.sendOut (II)I -/
theorem ms_338_0 : mz_sf mk_338 0 = mk_338 := mz_sf_zero _
theorem ms_338_12 : mz_sf mk_338 12 = mt_338_12 := mz_sf_add ms_338_0 (t := 12) rfl rfl
theorem ms_338_31 : mz_sf mk_338 31 = mt_338_31 := mz_sf_add ms_338_12 (t := 19) rfl rfl
set_option maxRecDepth 100000 in
theorem mzq_338 : mz_PG0 338 = some (2, ⟨"KeptHouse$Care", "sendOut", "(II)I"⟩, prog_4_method_9_code, 4, some .int, [], mk_338, []) := rfl
theorem cg_338_31 (hd : 4 ≤ d) (hS : mz_ext S 232) (hR : mz_rok R 232)  (v1 : Int32) (v2 : Int32) (v3 : Int32) (N : mz_N) {C0 : (Int32 × mz_N) → Prop} (hr : ∀ (w : Int32) (N2 : mz_N), C0 (w, N2) → Q (.inl (some (.int w))) (mz_k S R N2 b t)) (hp : cp_338_31 v1 v2 v3 N) (hC : C0 (cf_338_31 v1 v2 v3 N)) : mz_G (d, mz_X0 L xs, some .int, [], mk_338, 4, Q) 31 mt_338_31 [(0, .ref 115), (1, .int v1), (2, .int v2), (3, .int v3)] [] false (mz_k S R N b t) := by
  unfold cf_338_31 at hC
  unfold cp_338_31 at hp
  refine g_aload_n rfl (g_iload_n rfl (g_iload_n rfl (g_iload_n rfl ?_)))
  have h1 := hp
  refine g_v4n (Nat.le_of_ble_eq_true rfl) (mz_at hS (Nat.le_of_ble_eq_true rfl) mzcS_115) (fun _ hq => cs_346 (Nat.le_trans (Nat.le_of_ble_eq_true rfl) hd) (hS.le (Nat.le_of_ble_eq_true rfl)) (hR.le (Nat.le_of_ble_eq_true rfl))  v1 v3 v2 N h1 hq) (g_iload_n rfl ?_)
  exact g_iret rfl (hr _ _ hC)
theorem cg_338_0 (hd : 4 ≤ d) (hS : mz_ext S 232) (hR : mz_rok R 232)  (v1 : Int32) (v2 : Int32) (N : mz_N) {C0 : (Int32 × mz_N) → Prop} (hr : ∀ (w : Int32) (N2 : mz_N), C0 (w, N2) → Q (.inl (some (.int w))) (mz_k S R N2 b t)) (hp : cp_338_0 v1 v2 N) (hC : C0 (cf_338_0 v1 v2 N)) : mz_G (d, mz_X0 L xs, some .int, [], mk_338, 4, Q) 0 mk_338 [(0, .ref 115), (1, .int v1), (2, .int v2)] [] true (mz_k S R N b t) := by
  unfold cf_338_0 at hC
  unfold cp_338_0 at hp
  refine g_aload_n rfl (g_iload_n rfl ?_)
  obtain ⟨h1, hp⟩ := hp
  refine g_v2v (Nat.le_of_ble_eq_true rfl) (mz_at hS (Nat.le_of_ble_eq_true rfl) mzcS_115) (fun _ hq => cs_339 (Nat.le_trans (Nat.le_of_ble_eq_true rfl) hd) (hS.le (Nat.le_of_ble_eq_true rfl)) (hR.le (Nat.le_of_ble_eq_true rfl))  v1 N h1 hq) (g_istore_n (Nat.le_of_ble_eq_true rfl) rfl (g_iload_n rfl ?_))
  refine g_ifne (tg := 12) rfl ms_338_12 hC (fun h2 hC => ?_) (fun h2 hC => ?_)
  · have hp := hp.1 h2
    refine g_iconst mzi_0 ?_
    exact g_iret rfl (hr _ _ hC)
  · have hp := hp.2 h2
    refine g_aload_n rfl (g_iload_n rfl ?_)
    obtain ⟨h3, hp⟩ := hp
    refine g_v2n (Nat.le_of_ble_eq_true rfl) (mz_at hS (Nat.le_of_ble_eq_true rfl) mzcS_115) (fun _ hq => cs_341 (Nat.le_trans (Nat.le_of_ble_eq_true rfl) hd) (hS.le (Nat.le_of_ble_eq_true rfl)) (hR.le (Nat.le_of_ble_eq_true rfl))  ((cf_339_0 v1 N).1) ((cf_339_0 v1 N).2) h3 hq) (g_aload_n rfl (g_getR (mz_at hS (Nat.le_of_ble_eq_true rfl) mzcS_115) mzcf_2_6 (mz_rb hR (Nat.le_of_ble_eq_true rfl) rfl mzcR_115_6) (g_iload_n rfl (g_iload_n rfl ?_))))
    obtain ⟨h4, hp⟩ := hp
    refine g_iast (mz_at hS (Nat.le_of_ble_eq_true rfl) mzcS_133) h4 (g_aload_n rfl (g_getR (mz_at hS (Nat.le_of_ble_eq_true rfl) mzcS_115) mzcf_2_7 (mz_rb hR (Nat.le_of_ble_eq_true rfl) rfl mzcR_115_7) (g_iload_n rfl (g_iconst mzi_0 ?_))))
    obtain ⟨h5, hp⟩ := hp
    refine g_iast (mz_at hS (Nat.le_of_ble_eq_true rfl) mzcS_134) h5 ?_
    refine g_weak ?_ (g_cl (cg_338_31 hd hS hR v1 v2 ((cf_339_0 v1 N).1) (mz_wI (mz_wI (cf_341_0 ((cf_339_0 v1 N).1) ((cf_339_0 v1 N).2)) 133 v1 ((cf_339_0 v1 N).1)) 134 v1 0) hr hp hC))
    exact ⟨rfl, rfl, rfl, rfl, trivial⟩
theorem cs_338 (hd : 5 ≤ d) (hS : mz_ext S 232) (hR : mz_rok R 232)  (v1 : Int32) (v2 : Int32) (N : mz_N) (hp : cp_338_0 v1 v2 N) (hq : Q (.inl (some (.int ((cf_338_0 v1 v2 N).1)))) (mz_k S R ((cf_338_0 v1 v2 N).2) b t)) : mz_Ed (mz_X0 L xs) d 338 [.ref 115, .int v1, .int v2] (mz_k S R N b t) Q :=
  by
  refine g_in mzq_338 (Nat.le_of_ble_eq_true rfl) (Nat.le_of_ble_eq_true rfl) (Nat.le_trans (Nat.le_of_ble_eq_true rfl) hd) ?_
  refine g_weak ?_ (cg_338_0 (d := d - 1) (by omega) hS hR v1 v2 N (C0 := fun z => Q (.inl (some (.int z.1))) (mz_k S R z.2 b t)) (fun _ _ h => h) hp hq)
  exact ⟨rfl, rfl, rfl, trivial⟩
/-! 337 KeptHouse.tour (I)I -/
theorem ms_337_0 : mz_sf mk_337 0 = mk_337 := mz_sf_zero _
theorem ms_337_22 : mz_sf mk_337 22 = mt_337_22 := mz_sf_add ms_337_0 (t := 22) rfl rfl
theorem ms_337_26 : mz_sf mk_337 26 = mt_337_26 := mz_sf_add ms_337_22 (t := 4) rfl rfl
theorem ms_337_27 : mz_sf mk_337 27 = mt_337_27 := mz_sf_add ms_337_26 (t := 1) rfl rfl
set_option maxRecDepth 100000 in
theorem mzq_337 : mz_PG0 337 = some (11, ⟨"KeptHouse", "tour", "(I)I"⟩, prog_1_method_53_code, 2, some .int, [], mk_337, []) := rfl
theorem cg_337_27 (hd : 5 ≤ d) (hS : mz_ext S 232) (hR : mz_rok R 232)  (s0 : Bool) (v1 : Int32) (N : mz_N) {C0 : (Nat × Int32 × mz_N) → Prop} (hr : ∀ (w : Int32) (N2 : mz_N), C0 (0, w, N2) → Q (.inl (some (.int w))) (mz_k S R N2 b t)) (ht : ∀ (c : Nat) (w : Int32) (N2 : mz_N), ¬ c = 0 → C0 (c, w, N2) → Q (.inr (c - 1)) (mz_k S R N2 b (t + 1))) (h1000 : t < 1000) (hp : cp_337_27 s0 v1 N) (hC : C0 (cf_337_27 s0 v1 N)) : mz_G (d, mz_X0 L xs, some .int, [], mk_337, 2, Q) 27 mt_337_27 [(0, .ref 0), (1, .int v1)] [.int (mz_b01 s0)] false (mz_k S R N b t) := by
  unfold cf_337_27 at hC
  unfold cp_337_27 at hp
  refine g_s1nt (Nat.le_of_ble_eq_true rfl) rfl (fun _ h0 h1 => cs_187 (Nat.le_trans (Nat.le_of_ble_eq_true rfl) hd) (hS.le (Nat.le_of_ble_eq_true rfl)) (hR.le (Nat.le_of_ble_eq_true rfl))  s0 trivial h1000 h0 h1) hC (fun h3 hC => ?_) (fun h3 hC => ?_)
  · have hp := hp.1 h3
    refine g_aload_n rfl (g_getR (mz_at hS (Nat.le_of_ble_eq_true rfl) mzcS_0) mzcf_11_7 (mz_rb hR (Nat.le_of_ble_eq_true rfl) rfl mzcR_0_7) (g_iload_n rfl (g_aload_n rfl (g_getR (mz_at hS (Nat.le_of_ble_eq_true rfl) mzcS_0) mzcf_11_8 (mz_rb hR (Nat.le_of_ble_eq_true rfl) rfl mzcR_0_8) (g_getI (mz_at hS (Nat.le_of_ble_eq_true rfl) mzcS_208) mzcf_1_0 ?_)))))
    have h2 := hp
    refine g_v3v (Nat.le_of_ble_eq_true rfl) (mz_at hS (Nat.le_of_ble_eq_true rfl) mzcS_115) (fun _ hq => cs_338 (Nat.le_trans (Nat.le_of_ble_eq_true rfl) hd) (hS.le (Nat.le_of_ble_eq_true rfl)) (hR.le (Nat.le_of_ble_eq_true rfl))  v1 (N.1 208 0) N h2 hq) ?_
    exact g_iret rfl (hr _ _ hC)
  · have hp := hp.2 h3
    exact ht _ _ _ h3 hC
theorem cg_337_0 (hd : 5 ≤ d) (hS : mz_ext S 232) (hR : mz_rok R 232)  (v1 : Int32) (N : mz_N) {C0 : (Nat × Int32 × mz_N) → Prop} (hr : ∀ (w : Int32) (N2 : mz_N), C0 (0, w, N2) → Q (.inl (some (.int w))) (mz_k S R N2 b t)) (ht : ∀ (c : Nat) (w : Int32) (N2 : mz_N), ¬ c = 0 → C0 (c, w, N2) → Q (.inr (c - 1)) (mz_k S R N2 b (t + 1))) (h1000 : t < 1000) (hp : cp_337_0 v1 N) (hC : C0 (cf_337_0 v1 N)) : mz_G (d, mz_X0 L xs, some .int, [], mk_337, 2, Q) 0 mk_337 [(0, .ref 0), (1, .int v1)] [] true (mz_k S R N b t) := by
  unfold cf_337_0 at hC
  unfold cp_337_0 at hp
  refine g_aload_n rfl ?_
  obtain ⟨h1, hp⟩ := hp
  refine g_v1nt (Nat.le_of_ble_eq_true rfl) (mz_at hS (Nat.le_of_ble_eq_true rfl) mzcS_0) rfl (fun _ h0 h1 => cs_104 (Nat.le_trans (Nat.le_of_ble_eq_true rfl) hd) (hS.le (Nat.le_of_ble_eq_true rfl)) (hR.le (Nat.le_of_ble_eq_true rfl))  N h1 h1000 h0 h1) hC (fun h6 hC => ?_) (fun h6 hC => ?_)
  · have hp := hp.1 h6
    refine g_iload_n rfl (g_iconst mzi_0 (g_iconst mzi_1 ?_))
    obtain ⟨h2, hp⟩ := hp
    refine g_s3nt (Nat.le_of_ble_eq_true rfl) rfl (fun _ h0 h1 => cs_105 (Nat.le_trans (Nat.le_of_ble_eq_true rfl) hd) (hS.le (Nat.le_of_ble_eq_true rfl)) (hR.le (Nat.le_of_ble_eq_true rfl))  v1 0 1 h2 h1000 h0 h1) hC (fun h5 hC => ?_) (fun h5 hC => ?_)
    · have hp := hp.1 h5
      refine g_aload_n rfl (g_getR (mz_at hS (Nat.le_of_ble_eq_true rfl) mzcS_0) mzcf_11_7 (mz_rb hR (Nat.le_of_ble_eq_true rfl) rfl mzcR_0_7) (g_getR (mz_at hS (Nat.le_of_ble_eq_true rfl) mzcS_115) mzcf_2_6 (mz_rb hR (Nat.le_of_ble_eq_true rfl) rfl mzcR_115_6) (g_iload_n rfl ?_)))
      obtain ⟨h3, hp⟩ := hp
      refine g_iald hS.1 (mz_at hS (Nat.le_of_ble_eq_true rfl) mzcS_133) h3 ?_
      refine g_ifne (tg := 26) rfl ms_337_26 hC (fun h4 hC => ?_) (fun h4 hC => ?_)
      · have hp := hp.1 h4
        refine g_iconst mzi_1 (g_goto (tg := 27) rfl ms_337_27 ?_)
        refine g_weak ?_ (g_cl (cg_337_27 hd hS hR true v1 N hr ht h1000 hp hC))
        exact ⟨rfl, rfl, trivial⟩
      · have hp := hp.2 h4
        refine g_iconst mzi_0 ?_
        refine g_weak ?_ (g_cl (cg_337_27 hd hS hR false v1 N hr ht h1000 hp hC))
        exact ⟨rfl, rfl, trivial⟩
    · have hp := hp.2 h5
      exact ht _ _ _ h5 hC
  · have hp := hp.2 h6
    exact ht _ _ _ h6 hC
theorem cs_337 (hd : 6 ≤ d) (hS : mz_ext S 232) (hR : mz_rok R 232)  (v1 : Int32) (N : mz_N) (hp : cp_337_0 v1 N) (h1000 : t < 1000) (h0 : (cf_337_0 v1 N).1 = 0 → Q (.inl (some (.int ((cf_337_0 v1 N).2.1)))) (mz_k S R ((cf_337_0 v1 N).2.2) b t)) (h1 : ¬ (cf_337_0 v1 N).1 = 0 → Q (.inr (((cf_337_0 v1 N).1) - 1)) (mz_k S R ((cf_337_0 v1 N).2.2) b (t + 1))) : mz_Ed (mz_X0 L xs) d 337 [.ref 0, .int v1] (mz_k S R N b t) Q :=
  by
  refine g_in mzq_337 (Nat.le_of_ble_eq_true rfl) (Nat.le_of_ble_eq_true rfl) (Nat.le_trans (Nat.le_of_ble_eq_true rfl) hd) ?_
  refine g_weak ?_ (cg_337_0 (d := d - 1) (by omega) hS hR v1 N (C0 := fun z => (z.1 = 0 → Q (.inl (some (.int z.2.1))) (mz_k S R z.2.2 b t)) ∧ (¬ z.1 = 0 → Q (.inr (z.1 - 1)) (mz_k S R z.2.2 b (t + 1)))) (fun _ _ h => h.1 rfl) (fun c _ _ hc h => h.2 hc) h1000 hp ⟨h0, h1⟩)
  exact ⟨rfl, rfl, trivial⟩
/-! 336 KeptHouseLaw.tour (LKeptHouse;I[J)I -/
theorem ms_336_0 : mz_sf mk_336 0 = mk_336 := mz_sf_zero _
theorem ms_336_13 : mz_sf mk_336 13 = mt_336_13 := mz_sf_add ms_336_0 (t := 13) rfl rfl
theorem ms_336_16 : mz_sf mk_336 16 = mt_336_16 := mz_sf_add ms_336_13 (t := 3) rfl rfl
theorem ms_336_18 : mz_sf mk_336 18 = mt_336_18 := mz_sf_add ms_336_16 (t := 2) rfl rfl
set_option maxRecDepth 100000 in
theorem mzq_336 : mz_PG0 336 = some (13, ⟨"KeptHouseLaw", "tour", "(LKeptHouse;I[J)I"⟩, method_49_code, 4, some .int, [(0, 9, 12, 13), (0, 9, 15, 15)], mk_336, [(0, 12, 13), (1, 15, 16)]) := rfl
theorem cg_336_0 (hd : 6 ≤ d) (hS : mz_ext S 343) (hR : mz_rok R 343)  (v1 : Int32) (N : mz_N) (t : Nat) {C0 : (Int32 × mz_N × Nat) → Prop} (hr : ∀ (w : Int32) (N2 : mz_N) (t2 : Nat), C0 (w, N2, t2) → Q (.inl (some (.int w))) (mz_k S R N2 b t2)) (hp : cp_336_0 v1 N t) (hC : C0 (cf_336_0 v1 N t)) : mz_G (d, mz_X0 L xs, some .int, [(0, 12, 13), (1, 15, 16)], mk_336, 4, Q) 0 mk_336 [(0, .ref 0), (1, .int v1), (2, .ref 342)] [] true (mz_k S R N b t) := by
  unfold cf_336_0 at hC
  unfold cp_336_0 at hp
  refine g_aload_n rfl (g_iconst mzi_0 (g_aload_n rfl (g_iload_n rfl ?_)))
  obtain ⟨h1, hp⟩ := hp
  obtain ⟨h1000, hp⟩ := hp
  refine g_v2vh (Nat.le_of_ble_eq_true rfl) (mz_at hS (Nat.le_of_ble_eq_true rfl) mzcS_0) (fun _ h0 h1 => cs_337 (Nat.le_trans (Nat.le_of_ble_eq_true rfl) hd) (hS.le (Nat.le_of_ble_eq_true rfl)) (hR.le (Nat.le_of_ble_eq_true rfl))  v1 N h1 h1000 h0 h1) hC (fun h2 hC => ?_) (fun h2 hC => ?_)
  · have hp := hp.1 h2
    refine g_i2l (g_last (mz_at hS (Nat.le_of_ble_eq_true rfl) mzcS_342) (mz_ibd (by decide)) (g_goto (tg := 18) rfl ms_336_18 (g_iconst mzi_0 ?_)))
    exact g_iret rfl (hr _ _ _ hC)
  · have hp := hp.2 h2
    refine mz_cs hC (fun h6 hC => ?_) (fun h6 hC => ?_)
    · have hp := hp.1 h6
      refine ⟨(0, 12, 13), (by rw [h6]; rfl), ?_⟩
      show mz_G (d, mz_X0 L xs, some .int, [(0, 12, 13), (1, 15, 16)], mk_336, 4, Q) 13 (mz_sf mk_336 13) [] [] false (mz_k S R ((cf_337_0 v1 N).2.2) b (t + 1))
      rw [ms_336_13]
      refine g_iconst mzi_1 ?_
      exact g_iret rfl (hr _ _ _ hC)
    · have hp := hp.2 h6
      have h4 := hp
      refine ⟨(1, 15, 16), (by rw [h4]; rfl), ?_⟩
      show mz_G (d, mz_X0 L xs, some .int, [(0, 12, 13), (1, 15, 16)], mk_336, 4, Q) 16 (mz_sf mk_336 16) [] [] false (mz_k S R ((cf_337_0 v1 N).2.2) b (t + 1))
      rw [ms_336_16]
      refine g_iconst mzi_2 ?_
      exact g_iret rfl (hr _ _ _ hC)
theorem cs_336 (hd : 7 ≤ d) (hS : mz_ext S 343) (hR : mz_rok R 343)  (v1 : Int32) (N : mz_N) (t : Nat) (hp : cp_336_0 v1 N t) (hq : Q (.inl (some (.int ((cf_336_0 v1 N t).1)))) (mz_k S R ((cf_336_0 v1 N t).2.1) b ((cf_336_0 v1 N t).2.2))) : mz_Ed (mz_X0 L xs) d 336 [.ref 0, .int v1, .ref 342] (mz_k S R N b t) Q :=
  by
  refine g_in mzq_336 (Nat.le_of_ble_eq_true rfl) (Nat.le_of_ble_eq_true rfl) (Nat.le_trans (Nat.le_of_ble_eq_true rfl) hd) ?_
  refine g_weak ?_ (cg_336_0 (d := d - 1) (by omega) hS hR v1 N t (C0 := fun z => Q (.inl (some (.int z.1))) (mz_k S R z.2.1 b z.2.2)) (fun _ _ _ h => h) hp hq)
  exact ⟨rfl, rfl, rfl, trivial⟩
/-! 349 KeptHouse$Care.tellWorker (II)I -/
theorem ms_349_0 : mz_sf mk_349 0 = mk_349 := mz_sf_zero _
theorem ms_349_13 : mz_sf mk_349 13 = mt_349_13 := mz_sf_add ms_349_0 (t := 13) rfl rfl
theorem ms_349_26 : mz_sf mk_349 26 = mt_349_26 := mz_sf_add ms_349_13 (t := 13) rfl rfl
theorem ms_349_33 : mz_sf mk_349 33 = mt_349_33 := mz_sf_add ms_349_26 (t := 7) rfl rfl
theorem ms_349_51 : mz_sf mk_349 51 = mt_349_51 := mz_sf_add ms_349_33 (t := 18) rfl rfl
theorem ms_349_57 : mz_sf mk_349 57 = mt_349_57 := mz_sf_add ms_349_51 (t := 6) rfl rfl
theorem ms_349_58 : mz_sf mk_349 58 = mt_349_58 := mz_sf_add ms_349_57 (t := 1) rfl rfl
theorem ms_349_64 : mz_sf mk_349 64 = mt_349_64 := mz_sf_add ms_349_58 (t := 6) rfl rfl
theorem ms_349_96 : mz_sf mk_349 96 = mt_349_96 := mz_sf_add ms_349_64 (t := 32) rfl rfl
theorem ms_349_105 : mz_sf mk_349 105 = mt_349_105 := mz_sf_add ms_349_96 (t := 9) rfl rfl
set_option maxRecDepth 100000 in
theorem mzq_349 : mz_PG0 349 = some (2, ⟨"KeptHouse$Care", "tellWorker", "(II)I"⟩, prog_4_method_18_code, 5, some .int, [], mk_349, []) := rfl
theorem cg_349_26 (hd : 0 ≤ d) (hS : mz_ext S 232) (hR : mz_rok R 232)  (s0 : Int32) (v1 : Int32) (v2 : Int32) (N : mz_N) {C0 : (Int32) → Prop} (hr : ∀ (w : Int32), C0 w → Q (.inl (some (.int w))) (mz_k S R N b t)) (hp : cp_349_26 s0 v1 v2 N) (hC : C0 (cf_349_26 s0 v1 v2 N)) : mz_G (d, mz_X0 L xs, some .int, [], mk_349, 5, Q) 26 mt_349_26 [(0, .ref 115), (1, .int v1), (2, .int v2)] [.int s0] false (mz_k S R N b t) := by
  unfold cf_349_26 at hC
  unfold cp_349_26 at hp
  refine g_istore_n (Nat.le_of_ble_eq_true rfl) rfl (g_iload_n rfl ?_)
  refine g_ifne (tg := 33) rfl ms_349_33 hC (fun h1 hC => ?_) (fun h1 hC => ?_)
  · have hp := hp.1 h1
    refine g_iload_n rfl ?_
    exact g_iret rfl (hr _ hC)
  · have hp := hp.2 h1
    refine g_iload_n rfl (g_iconst mzi_3 ?_)
    refine g_icne (tg := 58) rfl ms_349_58 hC (fun h2 hC => ?_) (fun h2 hC => ?_)
    · have hp := hp.1 h2
      refine g_aload_n rfl (g_getR (mz_at hS (Nat.le_of_ble_eq_true rfl) mzcS_115) mzcf_2_6 (mz_rb hR (Nat.le_of_ble_eq_true rfl) rfl mzcR_115_6) (g_iload_n rfl ?_))
      obtain ⟨h3, hp⟩ := hp
      refine g_iald hS.1 (mz_at hS (Nat.le_of_ble_eq_true rfl) mzcS_133) h3 ?_
      refine g_ifne (tg := 51) rfl ms_349_51 hC (fun h4 hC => ?_) (fun h4 hC => ?_)
      · have hp := hp.1 h4
        refine g_iconst mzi_m1 (g_goto (tg := 57) rfl ms_349_57 ?_)
        exact g_iret rfl (hr _ hC)
      · have hp := hp.2 h4
        refine g_aload_n rfl (g_getR (mz_at hS (Nat.le_of_ble_eq_true rfl) mzcS_115) mzcf_2_10 (mz_rb hR (Nat.le_of_ble_eq_true rfl) rfl mzcR_115_10) (g_iload_n rfl ?_))
        have h5 := hp
        refine g_iald hS.1 (mz_at hS (Nat.le_of_ble_eq_true rfl) mzcS_141) h5 ?_
        exact g_iret rfl (hr _ hC)
    · have hp := hp.2 h2
      refine g_iload_n rfl ?_
      refine g_ifne (tg := 64) rfl ms_349_64 hC (fun h6 hC => ?_) (fun h6 hC => ?_)
      · have hp := hp.1 h6
        refine g_iconst mzi_m1 ?_
        exact g_iret rfl (hr _ hC)
      · have hp := hp.2 h6
        refine g_aload_n rfl (g_getR (mz_at hS (Nat.le_of_ble_eq_true rfl) mzcS_115) mzcf_2_7 (mz_rb hR (Nat.le_of_ble_eq_true rfl) rfl mzcR_115_7) (g_iload_n rfl ?_))
        obtain ⟨h7, hp⟩ := hp
        refine g_iald hS.1 (mz_at hS (Nat.le_of_ble_eq_true rfl) mzcS_134) h7 (g_istore (Nat.le_of_ble_eq_true rfl) rfl (g_iload_n rfl (g_iconst mzi_1 ?_)))
        refine g_icne (tg := 96) rfl ms_349_96 hC (fun h8 hC => ?_) (fun h8 hC => ?_)
        · have hp := hp.1 h8
          refine g_aload_n rfl (g_getR (mz_at hS (Nat.le_of_ble_eq_true rfl) mzcS_115) mzcf_2_0 (mz_rb hR (Nat.le_of_ble_eq_true rfl) rfl mzcR_115_0) (g_iconst mzi_0 (g_aald4 (m := 117) (mz_at hS (Nat.le_of_ble_eq_true rfl) mzcS_116) (mz_ibd (by decide)) (mz_rb hR (Nat.le_of_ble_eq_true rfl) rfl mzcRr_116_0) (g_aload_n rfl (g_getR (mz_at hS (Nat.le_of_ble_eq_true rfl) mzcS_115) mzcf_2_8 (mz_rb hR (Nat.le_of_ble_eq_true rfl) rfl mzcR_115_8) (g_iload_n rfl ?_))))))
          obtain ⟨h9, hp⟩ := hp
          refine g_aald4 (mz_at hS (Nat.le_of_ble_eq_true rfl) mzcS_135) h9 (mz_rb hR (Nat.le_of_ble_eq_true rfl) rfl (mzcR2_135 h9)) (g_iload rfl ?_)
          obtain ⟨h10, hp⟩ := hp
          refine g_iald hS.1 (mz_at hS (mzcL2_135 h9 (Nat.le_of_ble_eq_true rfl)) (mzcS2_135 h9)) h10 ?_
          have h11 := hp
          refine g_iald hS.1 (mz_at hS (Nat.le_of_ble_eq_true rfl) mzcS_117) h11 (g_goto (tg := 105) rfl ms_349_105 ?_)
          exact g_iret rfl (hr _ hC)
        · have hp := hp.2 h8
          refine g_aload_n rfl (g_getR (mz_at hS (Nat.le_of_ble_eq_true rfl) mzcS_115) mzcf_2_9 (mz_rb hR (Nat.le_of_ble_eq_true rfl) rfl mzcR_115_9) (g_iload_n rfl ?_))
          obtain ⟨h12, hp⟩ := hp
          refine g_aald4 (mz_at hS (Nat.le_of_ble_eq_true rfl) mzcS_138) h12 (mz_rb hR (Nat.le_of_ble_eq_true rfl) rfl (mzcR2_138 h12)) (g_iload rfl ?_)
          have h13 := hp
          refine g_iald hS.1 (mz_at hS (mzcL2_138 h12 (Nat.le_of_ble_eq_true rfl)) (mzcS2_138 h12)) h13 ?_
          exact g_iret rfl (hr _ hC)
theorem cg_349_0 (hd : 0 ≤ d) (hS : mz_ext S 232) (hR : mz_rok R 232)  (v1 : Int32) (v2 : Int32) (N : mz_N) {C0 : (Int32) → Prop} (hr : ∀ (w : Int32), C0 w → Q (.inl (some (.int w))) (mz_k S R N b t)) (hp : cp_349_0 v1 v2 N) (hC : C0 (cf_349_0 v1 v2 N)) : mz_G (d, mz_X0 L xs, some .int, [], mk_349, 5, Q) 0 mk_349 [(0, .ref 115), (1, .int v1), (2, .int v2)] [] true (mz_k S R N b t) := by
  unfold cf_349_0 at hC
  unfold cp_349_0 at hp
  refine g_aload_n rfl (g_getR (mz_at hS (Nat.le_of_ble_eq_true rfl) mzcS_115) mzcf_2_6 (mz_rb hR (Nat.le_of_ble_eq_true rfl) rfl mzcR_115_6) (g_iload_n rfl ?_))
  obtain ⟨h1, hp⟩ := hp
  refine g_iald hS.1 (mz_at hS (Nat.le_of_ble_eq_true rfl) mzcS_133) h1 ?_
  refine g_ifne (tg := 13) rfl ms_349_13 hC (fun h2 hC => ?_) (fun h2 hC => ?_)
  · have hp := hp.1 h2
    refine g_iconst mzi_0 (g_goto (tg := 26) rfl ms_349_26 ?_)
    refine g_weak ?_ (g_cl (cg_349_26 hd hS hR 0 v1 v2 N hr hp hC))
    exact ⟨rfl, rfl, rfl, trivial⟩
  · have hp := hp.2 h2
    refine g_aload_n rfl (g_getR (mz_at hS (Nat.le_of_ble_eq_true rfl) mzcS_115) mzcf_2_6 (mz_rb hR (Nat.le_of_ble_eq_true rfl) rfl mzcR_115_6) (g_iload_n rfl ?_))
    obtain ⟨h3, hp⟩ := hp
    refine g_iald hS.1 (mz_at hS (Nat.le_of_ble_eq_true rfl) mzcS_133) h3 (g_aload_n rfl (g_getR (mz_at hS (Nat.le_of_ble_eq_true rfl) mzcS_115) mzcf_2_7 (mz_rb hR (Nat.le_of_ble_eq_true rfl) rfl mzcR_115_7) (g_iload_n rfl ?_)))
    obtain ⟨h4, hp⟩ := hp
    refine g_iald hS.1 (mz_at hS (Nat.le_of_ble_eq_true rfl) mzcS_134) h4 (g_isub ?_)
    refine g_weak ?_ (g_cl (cg_349_26 hd hS hR ((mz_gI N 133 v1) - (mz_gI N 134 v1)) v1 v2 N hr hp hC))
    exact ⟨rfl, rfl, rfl, trivial⟩
theorem cs_349 (hd : 1 ≤ d) (hS : mz_ext S 232) (hR : mz_rok R 232)  (v1 : Int32) (v2 : Int32) (N : mz_N) (hp : cp_349_0 v1 v2 N) (hq : Q (.inl (some (.int (cf_349_0 v1 v2 N)))) (mz_k S R N b t)) : mz_Ed (mz_X0 L xs) d 349 [.ref 115, .int v1, .int v2] (mz_k S R N b t) Q :=
  by
  refine g_in mzq_349 (Nat.le_of_ble_eq_true rfl) (Nat.le_of_ble_eq_true rfl) (Nat.le_trans (Nat.le_of_ble_eq_true rfl) hd) ?_
  refine g_weak ?_ (cg_349_0 (d := d - 1) (by omega) hS hR v1 v2 N (C0 := fun z => Q (.inl (some (.int z))) (mz_k S R N b t)) (fun _ h => h) hp hq)
  exact ⟨rfl, rfl, rfl, trivial⟩
/-! 348 KeptHouse.worker (II)I -/
theorem ms_348_0 : mz_sf mk_348 0 = mk_348 := mz_sf_zero _
set_option maxRecDepth 100000 in
theorem mzq_348 : mz_PG0 348 = some (11, ⟨"KeptHouse", "worker", "(II)I"⟩, prog_1_method_54_code, 3, some .int, [], mk_348, []) := rfl
theorem cg_348_0 (hd : 1 ≤ d) (hS : mz_ext S 232) (hR : mz_rok R 232)  (v1 : Int32) (v2 : Int32) (N : mz_N) {C0 : (Nat × Int32) → Prop} (hr : ∀ (w : Int32), C0 (0, w) → Q (.inl (some (.int w))) (mz_k S R N b t)) (ht : ∀ (c : Nat) (w : Int32), ¬ c = 0 → C0 (c, w) → Q (.inr (c - 1)) (mz_k S R N b (t + 1))) (h1000 : t < 1000) (hp : cp_348_0 v1 v2 N) (hC : C0 (cf_348_0 v1 v2 N)) : mz_G (d, mz_X0 L xs, some .int, [], mk_348, 3, Q) 0 mk_348 [(0, .ref 0), (1, .int v1), (2, .int v2)] [] true (mz_k S R N b t) := by
  unfold cf_348_0 at hC
  unfold cp_348_0 at hp
  refine g_aload_n rfl ?_
  obtain ⟨h1, hp⟩ := hp
  refine g_v1nt (Nat.le_of_ble_eq_true rfl) (mz_at hS (Nat.le_of_ble_eq_true rfl) mzcS_0) rfl (fun _ h0 h1 => cs_104 (Nat.le_trans (Nat.le_of_ble_eq_true rfl) hd) (hS.le (Nat.le_of_ble_eq_true rfl)) (hR.le (Nat.le_of_ble_eq_true rfl))  N h1 h1000 h0 h1) hC (fun h7 hC => ?_) (fun h7 hC => ?_)
  · have hp := hp.1 h7
    refine g_iload_n rfl (g_iconst mzi_0 (g_iconst mzi_1 ?_))
    obtain ⟨h2, hp⟩ := hp
    refine g_s3nt (Nat.le_of_ble_eq_true rfl) rfl (fun _ h0 h1 => cs_105 (Nat.le_trans (Nat.le_of_ble_eq_true rfl) hd) (hS.le (Nat.le_of_ble_eq_true rfl)) (hR.le (Nat.le_of_ble_eq_true rfl))  v1 0 1 h2 h1000 h0 h1) hC (fun h6 hC => ?_) (fun h6 hC => ?_)
    · have hp := hp.1 h6
      refine g_iload_n rfl (g_iconst mzi_0 (g_iconst mzi_3 ?_))
      obtain ⟨h3, hp⟩ := hp
      refine g_s3nt (Nat.le_of_ble_eq_true rfl) rfl (fun _ h0 h1 => cs_105 (Nat.le_trans (Nat.le_of_ble_eq_true rfl) hd) (hS.le (Nat.le_of_ble_eq_true rfl)) (hR.le (Nat.le_of_ble_eq_true rfl))  v2 0 3 h3 h1000 h0 h1) hC (fun h5 hC => ?_) (fun h5 hC => ?_)
      · have hp := hp.1 h5
        refine g_aload_n rfl (g_getR (mz_at hS (Nat.le_of_ble_eq_true rfl) mzcS_0) mzcf_11_7 (mz_rb hR (Nat.le_of_ble_eq_true rfl) rfl mzcR_0_7) (g_iload_n rfl (g_iload_n rfl ?_)))
        have h4 := hp
        refine g_v3v (Nat.le_of_ble_eq_true rfl) (mz_at hS (Nat.le_of_ble_eq_true rfl) mzcS_115) (fun _ hq => cs_349 (Nat.le_trans (Nat.le_of_ble_eq_true rfl) hd) (hS.le (Nat.le_of_ble_eq_true rfl)) (hR.le (Nat.le_of_ble_eq_true rfl))  v1 v2 N h4 hq) ?_
        exact g_iret rfl (hr _ hC)
      · have hp := hp.2 h5
        exact ht _ _ h5 hC
    · have hp := hp.2 h6
      exact ht _ _ h6 hC
  · have hp := hp.2 h7
    exact ht _ _ h7 hC
theorem cs_348 (hd : 2 ≤ d) (hS : mz_ext S 232) (hR : mz_rok R 232)  (v1 : Int32) (v2 : Int32) (N : mz_N) (hp : cp_348_0 v1 v2 N) (h1000 : t < 1000) (h0 : (cf_348_0 v1 v2 N).1 = 0 → Q (.inl (some (.int ((cf_348_0 v1 v2 N).2)))) (mz_k S R N b t)) (h1 : ¬ (cf_348_0 v1 v2 N).1 = 0 → Q (.inr (((cf_348_0 v1 v2 N).1) - 1)) (mz_k S R N b (t + 1))) : mz_Ed (mz_X0 L xs) d 348 [.ref 0, .int v1, .int v2] (mz_k S R N b t) Q :=
  by
  refine g_in mzq_348 (Nat.le_of_ble_eq_true rfl) (Nat.le_of_ble_eq_true rfl) (Nat.le_trans (Nat.le_of_ble_eq_true rfl) hd) ?_
  refine g_weak ?_ (cg_348_0 (d := d - 1) (by omega) hS hR v1 v2 N (C0 := fun z => (z.1 = 0 → Q (.inl (some (.int z.2))) (mz_k S R N b t)) ∧ (¬ z.1 = 0 → Q (.inr (z.1 - 1)) (mz_k S R N b (t + 1)))) (fun _ h => h.1 rfl) (fun c _ hc h => h.2 hc) h1000 hp ⟨h0, h1⟩)
  exact ⟨rfl, rfl, rfl, trivial⟩
/-! 347 KeptHouseLaw.worker (LKeptHouse;II[J)I -/
theorem ms_347_0 : mz_sf mk_347 0 = mk_347 := mz_sf_zero _
theorem ms_347_15 : mz_sf mk_347 15 = mt_347_15 := mz_sf_add ms_347_0 (t := 15) rfl rfl
theorem ms_347_19 : mz_sf mk_347 19 = mt_347_19 := mz_sf_add ms_347_15 (t := 4) rfl rfl
theorem ms_347_21 : mz_sf mk_347 21 = mt_347_21 := mz_sf_add ms_347_19 (t := 2) rfl rfl
set_option maxRecDepth 100000 in
theorem mzq_347 : mz_PG0 347 = some (13, ⟨"KeptHouseLaw", "worker", "(LKeptHouse;II[J)I"⟩, method_50_code, 5, some .int, [(0, 10, 13, 13), (0, 10, 17, 15)], mk_347, [(0, 13, 15), (1, 17, 19)]) := rfl
theorem cg_347_0 (hd : 2 ≤ d) (hS : mz_ext S 343) (hR : mz_rok R 343)  (v1 : Int32) (v2 : Int32) (N : mz_N) (t : Nat) {C0 : (Int32 × mz_N × Nat) → Prop} (hr : ∀ (w : Int32) (N2 : mz_N) (t2 : Nat), C0 (w, N2, t2) → Q (.inl (some (.int w))) (mz_k S R N2 b t2)) (hp : cp_347_0 v1 v2 N t) (hC : C0 (cf_347_0 v1 v2 N t)) : mz_G (d, mz_X0 L xs, some .int, [(0, 13, 15), (1, 17, 19)], mk_347, 5, Q) 0 mk_347 [(0, .ref 0), (1, .int v1), (2, .int v2), (3, .ref 342)] [] true (mz_k S R N b t) := by
  unfold cf_347_0 at hC
  unfold cp_347_0 at hp
  refine g_aload_n rfl (g_iconst mzi_0 (g_aload_n rfl (g_iload_n rfl (g_iload_n rfl ?_))))
  obtain ⟨h1, hp⟩ := hp
  obtain ⟨h1000, hp⟩ := hp
  refine g_v3vh (Nat.le_of_ble_eq_true rfl) (mz_at hS (Nat.le_of_ble_eq_true rfl) mzcS_0) (fun _ h0 h1 => cs_348 (Nat.le_trans (Nat.le_of_ble_eq_true rfl) hd) (hS.le (Nat.le_of_ble_eq_true rfl)) (hR.le (Nat.le_of_ble_eq_true rfl))  v1 v2 N h1 h1000 h0 h1) hC (fun h2 hC => ?_) (fun h2 hC => ?_)
  · have hp := hp.1 h2
    refine g_i2l (g_last (mz_at hS (Nat.le_of_ble_eq_true rfl) mzcS_342) (mz_ibd (by decide)) (g_goto (tg := 21) rfl ms_347_21 (g_iconst mzi_0 ?_)))
    exact g_iret rfl (hr _ _ _ hC)
  · have hp := hp.2 h2
    refine mz_cs hC (fun h6 hC => ?_) (fun h6 hC => ?_)
    · have hp := hp.1 h6
      refine ⟨(0, 13, 15), (by rw [h6]; rfl), ?_⟩
      show mz_G (d, mz_X0 L xs, some .int, [(0, 13, 15), (1, 17, 19)], mk_347, 5, Q) 15 (mz_sf mk_347 15) [] [] false (mz_k S R N b (t + 1))
      rw [ms_347_15]
      refine g_iconst mzi_1 ?_
      exact g_iret rfl (hr _ _ _ hC)
    · have hp := hp.2 h6
      have h4 := hp
      refine ⟨(1, 17, 19), (by rw [h4]; rfl), ?_⟩
      show mz_G (d, mz_X0 L xs, some .int, [(0, 13, 15), (1, 17, 19)], mk_347, 5, Q) 19 (mz_sf mk_347 19) [] [] false (mz_k S R N b (t + 1))
      rw [ms_347_19]
      refine g_iconst mzi_2 ?_
      exact g_iret rfl (hr _ _ _ hC)
theorem cs_347 (hd : 3 ≤ d) (hS : mz_ext S 343) (hR : mz_rok R 343)  (v1 : Int32) (v2 : Int32) (N : mz_N) (t : Nat) (hp : cp_347_0 v1 v2 N t) (hq : Q (.inl (some (.int ((cf_347_0 v1 v2 N t).1)))) (mz_k S R ((cf_347_0 v1 v2 N t).2.1) b ((cf_347_0 v1 v2 N t).2.2))) : mz_Ed (mz_X0 L xs) d 347 [.ref 0, .int v1, .int v2, .ref 342] (mz_k S R N b t) Q :=
  by
  refine g_in mzq_347 (Nat.le_of_ble_eq_true rfl) (Nat.le_of_ble_eq_true rfl) (Nat.le_trans (Nat.le_of_ble_eq_true rfl) hd) ?_
  refine g_weak ?_ (cg_347_0 (d := d - 1) (by omega) hS hR v1 v2 N t (C0 := fun z => Q (.inl (some (.int z.1))) (mz_k S R z.2.1 b z.2.2)) (fun _ _ _ h => h) hp hq)
  exact ⟨rfl, rfl, rfl, rfl, trivial⟩
/-! 352 KeptHouse$Care.addOrder (III)I -/
theorem ms_352_0 : mz_sf mk_352 0 = mk_352 := mz_sf_zero _
theorem ms_352_24 : mz_sf mk_352 24 = mt_352_24 := mz_sf_add ms_352_0 (t := 24) rfl rfl
theorem ms_352_46 : mz_sf mk_352 46 = mt_352_46 := mz_sf_add ms_352_24 (t := 22) rfl rfl
set_option maxRecDepth 100000 in
theorem mzq_352 : mz_PG0 352 = some (2, ⟨"KeptHouse$Care", "addOrder", "(III)I"⟩, prog_4_method_22_code, 4, some .int, [], mk_352, []) := rfl
theorem cg_352_46 (hd : 0 ≤ d) (hS : mz_ext S 232) (hR : mz_rok R 232)  (v3 : Int32) (N : mz_N) {C0 : (Int32 × mz_N) → Prop} (hr : ∀ (w : Int32) (N2 : mz_N), C0 (w, N2) → Q (.inl (some (.int w))) (mz_k S R N2 b t)) (hp : cp_352_46 v3 N) (hC : C0 (cf_352_46 v3 N)) : mz_G (d, mz_X0 L xs, some .int, [], mk_352, 4, Q) 46 mt_352_46 [(3, .int v3)] [] false (mz_k S R N b t) := by
  unfold cf_352_46 at hC
  unfold cp_352_46 at hp
  refine g_iload_n rfl ?_
  exact g_iret rfl (hr _ _ hC)
theorem cg_352_24 (hd : 0 ≤ d) (hS : mz_ext S 232) (hR : mz_rok R 232)  (v3 : Int32) (N : mz_N) {C0 : (Int32 × mz_N) → Prop} (hr : ∀ (w : Int32) (N2 : mz_N), C0 (w, N2) → Q (.inl (some (.int w))) (mz_k S R N2 b t)) (hp : cp_352_24 v3 N) (hC : C0 (cf_352_24 v3 N)) : mz_G (d, mz_X0 L xs, some .int, [], mk_352, 4, Q) 24 mt_352_24 [(0, .ref 115), (3, .int v3)] [] false (mz_k S R N b t) := by
  unfold cf_352_24 at hC
  unfold cp_352_24 at hp
  refine g_aload_n rfl (g_getR (mz_at hS (Nat.le_of_ble_eq_true rfl) mzcS_115) mzcf_2_4 (mz_rb hR (Nat.le_of_ble_eq_true rfl) rfl mzcR_115_4) (g_iconst mzi_2 (g_aald4 (m := 132) (mz_at hS (Nat.le_of_ble_eq_true rfl) mzcS_129) (mz_ibd (by decide)) (mz_rb hR (Nat.le_of_ble_eq_true rfl) rfl mzcRr_129_2) (g_aload_n rfl (g_getI (mz_at hS (Nat.le_of_ble_eq_true rfl) mzcS_115) mzcf_2_5 (g_iload_n rfl ?_))))))
  obtain ⟨h1, hp⟩ := hp
  refine g_iast (mz_at hS (Nat.le_of_ble_eq_true rfl) mzcS_132) h1 (g_aload_n rfl (g_dup rfl (g_getI (mz_at hS (Nat.le_of_ble_eq_true rfl) mzcS_115) mzcf_2_5 (g_iconst mzi_1 (g_iadd (g_putI (mz_at hS (Nat.le_of_ble_eq_true rfl) mzcS_115) mzcf_2_5 ?_))))))
  refine g_weak ?_ (g_cl (cg_352_46 hd hS hR v3 (mz_pI (mz_wI N 132 (N.1 115 5) v3) 115 5 (((mz_wI N 132 (N.1 115 5) v3).1 115 5) + 1)) hr hp hC))
  exact ⟨rfl, trivial⟩
theorem cg_352_0 (hd : 0 ≤ d) (hS : mz_ext S 232) (hR : mz_rok R 232)  (v1 : Int32) (v2 : Int32) (v3 : Int32) (N : mz_N) {C0 : (Int32 × mz_N) → Prop} (hr : ∀ (w : Int32) (N2 : mz_N), C0 (w, N2) → Q (.inl (some (.int w))) (mz_k S R N2 b t)) (hp : cp_352_0 v1 v2 v3 N) (hC : C0 (cf_352_0 v1 v2 v3 N)) : mz_G (d, mz_X0 L xs, some .int, [], mk_352, 4, Q) 0 mk_352 [(0, .ref 115), (1, .int v1), (2, .int v2), (3, .int v3)] [] true (mz_k S R N b t) := by
  unfold cf_352_0 at hC
  unfold cp_352_0 at hp
  refine g_aload_n rfl (g_getR (mz_at hS (Nat.le_of_ble_eq_true rfl) mzcS_115) mzcf_2_4 (mz_rb hR (Nat.le_of_ble_eq_true rfl) rfl mzcR_115_4) (g_iconst mzi_0 (g_aald4 (m := 130) (mz_at hS (Nat.le_of_ble_eq_true rfl) mzcS_129) (mz_ibd (by decide)) (mz_rb hR (Nat.le_of_ble_eq_true rfl) rfl mzcRr_129_0) (g_aload_n rfl (g_getI (mz_at hS (Nat.le_of_ble_eq_true rfl) mzcS_115) mzcf_2_5 (g_iload_n rfl ?_))))))
  obtain ⟨h1, hp⟩ := hp
  refine g_iast (mz_at hS (Nat.le_of_ble_eq_true rfl) mzcS_130) h1 (g_aload_n rfl (g_getR (mz_at hS (Nat.le_of_ble_eq_true rfl) mzcS_115) mzcf_2_4 (mz_rb hR (Nat.le_of_ble_eq_true rfl) rfl mzcR_115_4) (g_iconst mzi_1 (g_aald4 (m := 131) (mz_at hS (Nat.le_of_ble_eq_true rfl) mzcS_129) (mz_ibd (by decide)) (mz_rb hR (Nat.le_of_ble_eq_true rfl) rfl mzcRr_129_1) (g_aload_n rfl (g_getI (mz_at hS (Nat.le_of_ble_eq_true rfl) mzcS_115) mzcf_2_5 (g_iload_n rfl ?_)))))))
  obtain ⟨h2, hp⟩ := hp
  refine g_iast (mz_at hS (Nat.le_of_ble_eq_true rfl) mzcS_131) h2 ?_
  refine g_weak ?_ (g_cl (cg_352_24 hd hS hR v3 (mz_wI (mz_wI N 130 (N.1 115 5) v1) 131 ((mz_wI N 130 (N.1 115 5) v1).1 115 5) v2) hr hp hC))
  exact ⟨rfl, rfl, trivial⟩
theorem cs_352 (hd : 1 ≤ d) (hS : mz_ext S 232) (hR : mz_rok R 232)  (v1 : Int32) (v2 : Int32) (v3 : Int32) (N : mz_N) (hp : cp_352_0 v1 v2 v3 N) (hq : Q (.inl (some (.int ((cf_352_0 v1 v2 v3 N).1)))) (mz_k S R ((cf_352_0 v1 v2 v3 N).2) b t)) : mz_Ed (mz_X0 L xs) d 352 [.ref 115, .int v1, .int v2, .int v3] (mz_k S R N b t) Q :=
  by
  refine g_in mzq_352 (Nat.le_of_ble_eq_true rfl) (Nat.le_of_ble_eq_true rfl) (Nat.le_trans (Nat.le_of_ble_eq_true rfl) hd) ?_
  refine g_weak ?_ (cg_352_0 (d := d - 1) (by omega) hS hR v1 v2 v3 N (C0 := fun z => Q (.inl (some (.int z.1))) (mz_k S R z.2 b t)) (fun _ _ h => h) hp hq)
  exact ⟨rfl, rfl, rfl, rfl, trivial⟩
/-! 351 KeptHouse.order (II)I -/
theorem ms_351_0 : mz_sf mk_351 0 = mk_351 := mz_sf_zero _
theorem ms_351_29 : mz_sf mk_351 29 = mt_351_29 := mz_sf_add ms_351_0 (t := 29) rfl rfl
theorem ms_351_33 : mz_sf mk_351 33 = mt_351_33 := mz_sf_add ms_351_29 (t := 4) rfl rfl
set_option maxRecDepth 100000 in
theorem mzq_351 : mz_PG0 351 = some (11, ⟨"KeptHouse", "order", "(II)I"⟩, prog_1_method_55_code, 3, some .int, [], mk_351, []) := rfl
theorem cg_351_0 (hd : 1 ≤ d) (hS : mz_ext S 232) (hR : mz_rok R 232)  (v1 : Int32) (v2 : Int32) (N : mz_N) {C0 : (Nat × Int32 × mz_N) → Prop} (hr : ∀ (w : Int32) (N2 : mz_N), C0 (0, w, N2) → Q (.inl (some (.int w))) (mz_k S R N2 b t)) (ht : ∀ (c : Nat) (w : Int32) (N2 : mz_N), ¬ c = 0 → C0 (c, w, N2) → Q (.inr (c - 1)) (mz_k S R N2 b (t + 1))) (h1000 : t < 1000) (hp : cp_351_0 v1 v2 N) (hC : C0 (cf_351_0 v1 v2 N)) : mz_G (d, mz_X0 L xs, some .int, [], mk_351, 3, Q) 0 mk_351 [(0, .ref 0), (1, .int v1), (2, .int v2)] [] true (mz_k S R N b t) := by
  unfold cf_351_0 at hC
  unfold cp_351_0 at hp
  refine g_aload_n rfl ?_
  obtain ⟨h1, hp⟩ := hp
  refine g_v1nt (Nat.le_of_ble_eq_true rfl) (mz_at hS (Nat.le_of_ble_eq_true rfl) mzcS_0) rfl (fun _ h0 h1 => cs_104 (Nat.le_trans (Nat.le_of_ble_eq_true rfl) hd) (hS.le (Nat.le_of_ble_eq_true rfl)) (hR.le (Nat.le_of_ble_eq_true rfl))  N h1 h1000 h0 h1) hC (fun h8 hC => ?_) (fun h8 hC => ?_)
  · have hp := hp.1 h8
    refine g_iload_n rfl (g_iconst mzi_0 (g_iconst mzi_2 ?_))
    obtain ⟨h2, hp⟩ := hp
    refine g_s3nt (Nat.le_of_ble_eq_true rfl) rfl (fun _ h0 h1 => cs_105 (Nat.le_trans (Nat.le_of_ble_eq_true rfl) hd) (hS.le (Nat.le_of_ble_eq_true rfl)) (hR.le (Nat.le_of_ble_eq_true rfl))  v1 0 2 h2 h1000 h0 h1) hC (fun h7 hC => ?_) (fun h7 hC => ?_)
    · have hp := hp.1 h7
      refine g_iload_n rfl (g_iconst mzi_1 (g_bipush mzb_9 ?_))
      obtain ⟨h3, hp⟩ := hp
      refine g_s3nt (Nat.le_of_ble_eq_true rfl) rfl (fun _ h0 h1 => cs_105 (Nat.le_trans (Nat.le_of_ble_eq_true rfl) hd) (hS.le (Nat.le_of_ble_eq_true rfl)) (hR.le (Nat.le_of_ble_eq_true rfl))  v2 1 9 h3 h1000 h0 h1) hC (fun h6 hC => ?_) (fun h6 hC => ?_)
      · have hp := hp.1 h6
        refine g_aload_n rfl (g_getR (mz_at hS (Nat.le_of_ble_eq_true rfl) mzcS_0) mzcf_11_7 (mz_rb hR (Nat.le_of_ble_eq_true rfl) rfl mzcR_0_7) (g_getI (mz_at hS (Nat.le_of_ble_eq_true rfl) mzcS_115) mzcf_2_5 (g_bipush mzb_8 ?_)))
        refine g_iclt (tg := 33) rfl ms_351_33 hC (fun h4 hC => ?_) (fun h4 hC => ?_)
        · have hp := hp.1 h4
          refine g_aload_n rfl (g_getR (mz_at hS (Nat.le_of_ble_eq_true rfl) mzcS_0) mzcf_11_7 (mz_rb hR (Nat.le_of_ble_eq_true rfl) rfl mzcR_0_7) (g_iload_n rfl (g_iload_n rfl (g_aload_n rfl (g_getR (mz_at hS (Nat.le_of_ble_eq_true rfl) mzcS_0) mzcf_11_8 (mz_rb hR (Nat.le_of_ble_eq_true rfl) rfl mzcR_0_8) (g_getI (mz_at hS (Nat.le_of_ble_eq_true rfl) mzcS_208) mzcf_1_0 (g_sipush mzs_480 ?_)))))))
          refine g_iadd ?_
          have h5 := hp
          refine g_v4v (Nat.le_of_ble_eq_true rfl) (mz_at hS (Nat.le_of_ble_eq_true rfl) mzcS_115) (fun _ hq => cs_352 (Nat.le_trans (Nat.le_of_ble_eq_true rfl) hd) (hS.le (Nat.le_of_ble_eq_true rfl)) (hR.le (Nat.le_of_ble_eq_true rfl))  v1 v2 ((N.1 208 0) + 480) N h5 hq) ?_
          exact g_iret rfl (hr _ _ hC)
        · have hp := hp.2 h4
          refine g_sipush mzs_m1003 ?_
          exact g_iret rfl (hr _ _ hC)
      · have hp := hp.2 h6
        exact ht _ _ _ h6 hC
    · have hp := hp.2 h7
      exact ht _ _ _ h7 hC
  · have hp := hp.2 h8
    exact ht _ _ _ h8 hC
theorem cs_351 (hd : 2 ≤ d) (hS : mz_ext S 232) (hR : mz_rok R 232)  (v1 : Int32) (v2 : Int32) (N : mz_N) (hp : cp_351_0 v1 v2 N) (h1000 : t < 1000) (h0 : (cf_351_0 v1 v2 N).1 = 0 → Q (.inl (some (.int ((cf_351_0 v1 v2 N).2.1)))) (mz_k S R ((cf_351_0 v1 v2 N).2.2) b t)) (h1 : ¬ (cf_351_0 v1 v2 N).1 = 0 → Q (.inr (((cf_351_0 v1 v2 N).1) - 1)) (mz_k S R ((cf_351_0 v1 v2 N).2.2) b (t + 1))) : mz_Ed (mz_X0 L xs) d 351 [.ref 0, .int v1, .int v2] (mz_k S R N b t) Q :=
  by
  refine g_in mzq_351 (Nat.le_of_ble_eq_true rfl) (Nat.le_of_ble_eq_true rfl) (Nat.le_trans (Nat.le_of_ble_eq_true rfl) hd) ?_
  refine g_weak ?_ (cg_351_0 (d := d - 1) (by omega) hS hR v1 v2 N (C0 := fun z => (z.1 = 0 → Q (.inl (some (.int z.2.1))) (mz_k S R z.2.2 b t)) ∧ (¬ z.1 = 0 → Q (.inr (z.1 - 1)) (mz_k S R z.2.2 b (t + 1)))) (fun _ _ h => h.1 rfl) (fun c _ _ hc h => h.2 hc) h1000 hp ⟨h0, h1⟩)
  exact ⟨rfl, rfl, rfl, trivial⟩
/-! 350 KeptHouseLaw.order (LKeptHouse;II[J)I -/
theorem ms_350_0 : mz_sf mk_350 0 = mk_350 := mz_sf_zero _
theorem ms_350_15 : mz_sf mk_350 15 = mt_350_15 := mz_sf_add ms_350_0 (t := 15) rfl rfl
theorem ms_350_19 : mz_sf mk_350 19 = mt_350_19 := mz_sf_add ms_350_15 (t := 4) rfl rfl
theorem ms_350_21 : mz_sf mk_350 21 = mt_350_21 := mz_sf_add ms_350_19 (t := 2) rfl rfl
set_option maxRecDepth 100000 in
theorem mzq_350 : mz_PG0 350 = some (13, ⟨"KeptHouseLaw", "order", "(LKeptHouse;II[J)I"⟩, method_51_code, 5, some .int, [(0, 10, 13, 13), (0, 10, 17, 15)], mk_350, [(0, 13, 15), (1, 17, 19)]) := rfl
theorem cg_350_21 (hd : 2 ≤ d) (hS : mz_ext S 343) (hR : mz_rok R 343)  (N : mz_N) (t : Nat) {C0 : (Int32 × mz_N × Nat) → Prop} (hr : ∀ (w : Int32) (N2 : mz_N) (t2 : Nat), C0 (w, N2, t2) → Q (.inl (some (.int w))) (mz_k S R N2 b t2)) (hp : cp_350_21 N t) (hC : C0 (cf_350_21 N t)) : mz_G (d, mz_X0 L xs, some .int, [(0, 13, 15), (1, 17, 19)], mk_350, 5, Q) 21 mt_350_21 [] [] false (mz_k S R N b t) := by
  unfold cf_350_21 at hC
  unfold cp_350_21 at hp
  refine g_iconst mzi_0 ?_
  exact g_iret rfl (hr _ _ _ hC)
theorem cg_350_0 (hd : 2 ≤ d) (hS : mz_ext S 343) (hR : mz_rok R 343)  (v1 : Int32) (v2 : Int32) (N : mz_N) (t : Nat) {C0 : (Int32 × mz_N × Nat) → Prop} (hr : ∀ (w : Int32) (N2 : mz_N) (t2 : Nat), C0 (w, N2, t2) → Q (.inl (some (.int w))) (mz_k S R N2 b t2)) (hp : cp_350_0 v1 v2 N t) (hC : C0 (cf_350_0 v1 v2 N t)) : mz_G (d, mz_X0 L xs, some .int, [(0, 13, 15), (1, 17, 19)], mk_350, 5, Q) 0 mk_350 [(0, .ref 0), (1, .int v1), (2, .int v2), (3, .ref 342)] [] true (mz_k S R N b t) := by
  unfold cf_350_0 at hC
  unfold cp_350_0 at hp
  refine g_aload_n rfl (g_iconst mzi_0 (g_aload_n rfl (g_iload_n rfl (g_iload_n rfl ?_))))
  obtain ⟨h1, hp⟩ := hp
  obtain ⟨h1000, hp⟩ := hp
  refine g_v3vh (Nat.le_of_ble_eq_true rfl) (mz_at hS (Nat.le_of_ble_eq_true rfl) mzcS_0) (fun _ h0 h1 => cs_351 (Nat.le_trans (Nat.le_of_ble_eq_true rfl) hd) (hS.le (Nat.le_of_ble_eq_true rfl)) (hR.le (Nat.le_of_ble_eq_true rfl))  v1 v2 N h1 h1000 h0 h1) hC (fun h2 hC => ?_) (fun h2 hC => ?_)
  · have hp := hp.1 h2
    refine g_i2l (g_last (mz_at hS (Nat.le_of_ble_eq_true rfl) mzcS_342) (mz_ibd (by decide)) (g_goto (tg := 21) rfl ms_350_21 ?_))
    refine g_weak ?_ (g_cl (cg_350_21 hd hS hR (mz_wL ((cf_351_0 v1 v2 N).2.2) 342 0 (((cf_351_0 v1 v2 N).2.1).toInt64)) t hr hp hC))
    exact trivial
  · have hp := hp.2 h2
    refine mz_cs hC (fun h6 hC => ?_) (fun h6 hC => ?_)
    · have hp := hp.1 h6
      refine ⟨(0, 13, 15), (by rw [h6]; rfl), ?_⟩
      show mz_G (d, mz_X0 L xs, some .int, [(0, 13, 15), (1, 17, 19)], mk_350, 5, Q) 15 (mz_sf mk_350 15) [] [] false (mz_k S R ((cf_351_0 v1 v2 N).2.2) b (t + 1))
      rw [ms_350_15]
      refine g_iconst mzi_1 ?_
      exact g_iret rfl (hr _ _ _ hC)
    · have hp := hp.2 h6
      have h4 := hp
      refine ⟨(1, 17, 19), (by rw [h4]; rfl), ?_⟩
      show mz_G (d, mz_X0 L xs, some .int, [(0, 13, 15), (1, 17, 19)], mk_350, 5, Q) 19 (mz_sf mk_350 19) [] [] false (mz_k S R ((cf_351_0 v1 v2 N).2.2) b (t + 1))
      rw [ms_350_19]
      refine g_iconst mzi_2 ?_
      exact g_iret rfl (hr _ _ _ hC)
theorem cs_350 (hd : 3 ≤ d) (hS : mz_ext S 343) (hR : mz_rok R 343)  (v1 : Int32) (v2 : Int32) (N : mz_N) (t : Nat) (hp : cp_350_0 v1 v2 N t) (hq : Q (.inl (some (.int ((cf_350_0 v1 v2 N t).1)))) (mz_k S R ((cf_350_0 v1 v2 N t).2.1) b ((cf_350_0 v1 v2 N t).2.2))) : mz_Ed (mz_X0 L xs) d 350 [.ref 0, .int v1, .int v2, .ref 342] (mz_k S R N b t) Q :=
  by
  refine g_in mzq_350 (Nat.le_of_ble_eq_true rfl) (Nat.le_of_ble_eq_true rfl) (Nat.le_trans (Nat.le_of_ble_eq_true rfl) hd) ?_
  refine g_weak ?_ (cg_350_0 (d := d - 1) (by omega) hS hR v1 v2 N t (C0 := fun z => Q (.inl (some (.int z.1))) (mz_k S R z.2.1 b z.2.2)) (fun _ _ _ h => h) hp hq)
  exact ⟨rfl, rfl, rfl, rfl, trivial⟩
/-! 354 KeptHouse.part (II)I -/
theorem ms_354_0 : mz_sf mk_354 0 = mk_354 := mz_sf_zero _
set_option maxRecDepth 100000 in
theorem mzq_354 : mz_PG0 354 = some (11, ⟨"KeptHouse", "part", "(II)I"⟩, prog_1_method_56_code, 3, some .int, [], mk_354, []) := rfl
theorem cg_354_0 (hd : 1 ≤ d) (hS : mz_ext S 232) (hR : mz_rok R 232)  (v1 : Int32) (v2 : Int32) (N : mz_N) {C0 : (Nat × Int32) → Prop} (hr : ∀ (w : Int32), C0 (0, w) → Q (.inl (some (.int w))) (mz_k S R N b t)) (ht : ∀ (c : Nat) (w : Int32), ¬ c = 0 → C0 (c, w) → Q (.inr (c - 1)) (mz_k S R N b (t + 1))) (h1000 : t < 1000) (hp : cp_354_0 v1 v2 N) (hC : C0 (cf_354_0 v1 v2 N)) : mz_G (d, mz_X0 L xs, some .int, [], mk_354, 3, Q) 0 mk_354 [(0, .ref 0), (1, .int v1), (2, .int v2)] [] true (mz_k S R N b t) := by
  unfold cf_354_0 at hC
  unfold cp_354_0 at hp
  refine g_aload_n rfl ?_
  obtain ⟨h1, hp⟩ := hp
  refine g_v1nt (Nat.le_of_ble_eq_true rfl) (mz_at hS (Nat.le_of_ble_eq_true rfl) mzcS_0) rfl (fun _ h0 h1 => cs_104 (Nat.le_trans (Nat.le_of_ble_eq_true rfl) hd) (hS.le (Nat.le_of_ble_eq_true rfl)) (hR.le (Nat.le_of_ble_eq_true rfl))  N h1 h1000 h0 h1) hC (fun h8 hC => ?_) (fun h8 hC => ?_)
  · have hp := hp.1 h8
    refine g_iload_n rfl (g_iconst mzi_0 (g_iconst mzi_2 ?_))
    obtain ⟨h2, hp⟩ := hp
    refine g_s3nt (Nat.le_of_ble_eq_true rfl) rfl (fun _ h0 h1 => cs_105 (Nat.le_trans (Nat.le_of_ble_eq_true rfl) hd) (hS.le (Nat.le_of_ble_eq_true rfl)) (hR.le (Nat.le_of_ble_eq_true rfl))  v1 0 2 h2 h1000 h0 h1) hC (fun h7 hC => ?_) (fun h7 hC => ?_)
    · have hp := hp.1 h7
      refine g_iload_n rfl (g_iconst mzi_0 (g_iconst mzi_3 ?_))
      obtain ⟨h3, hp⟩ := hp
      refine g_s3nt (Nat.le_of_ble_eq_true rfl) rfl (fun _ h0 h1 => cs_105 (Nat.le_trans (Nat.le_of_ble_eq_true rfl) hd) (hS.le (Nat.le_of_ble_eq_true rfl)) (hR.le (Nat.le_of_ble_eq_true rfl))  v2 0 3 h3 h1000 h0 h1) hC (fun h6 hC => ?_) (fun h6 hC => ?_)
      · have hp := hp.1 h6
        refine g_aload_n rfl (g_getR (mz_at hS (Nat.le_of_ble_eq_true rfl) mzcS_0) mzcf_11_7 (mz_rb hR (Nat.le_of_ble_eq_true rfl) rfl mzcR_0_7) (g_getR (mz_at hS (Nat.le_of_ble_eq_true rfl) mzcS_115) mzcf_2_3 (mz_rb hR (Nat.le_of_ble_eq_true rfl) rfl mzcR_115_3) (g_iload_n rfl ?_)))
        obtain ⟨h4, hp⟩ := hp
        refine g_aald4 (mz_at hS (Nat.le_of_ble_eq_true rfl) mzcS_124) h4 (mz_rb hR (Nat.le_of_ble_eq_true rfl) rfl (mzcR2_124 h4)) (g_iload_n rfl ?_)
        have h5 := hp
        refine g_iald hS.1 (mz_at hS (mzcL2_124 h4 (Nat.le_of_ble_eq_true rfl)) (mzcS2_124 h4)) h5 ?_
        exact g_iret rfl (hr _ hC)
      · have hp := hp.2 h6
        exact ht _ _ h6 hC
    · have hp := hp.2 h7
      exact ht _ _ h7 hC
  · have hp := hp.2 h8
    exact ht _ _ h8 hC
theorem cs_354 (hd : 2 ≤ d) (hS : mz_ext S 232) (hR : mz_rok R 232)  (v1 : Int32) (v2 : Int32) (N : mz_N) (hp : cp_354_0 v1 v2 N) (h1000 : t < 1000) (h0 : (cf_354_0 v1 v2 N).1 = 0 → Q (.inl (some (.int ((cf_354_0 v1 v2 N).2)))) (mz_k S R N b t)) (h1 : ¬ (cf_354_0 v1 v2 N).1 = 0 → Q (.inr (((cf_354_0 v1 v2 N).1) - 1)) (mz_k S R N b (t + 1))) : mz_Ed (mz_X0 L xs) d 354 [.ref 0, .int v1, .int v2] (mz_k S R N b t) Q :=
  by
  refine g_in mzq_354 (Nat.le_of_ble_eq_true rfl) (Nat.le_of_ble_eq_true rfl) (Nat.le_trans (Nat.le_of_ble_eq_true rfl) hd) ?_
  refine g_weak ?_ (cg_354_0 (d := d - 1) (by omega) hS hR v1 v2 N (C0 := fun z => (z.1 = 0 → Q (.inl (some (.int z.2))) (mz_k S R N b t)) ∧ (¬ z.1 = 0 → Q (.inr (z.1 - 1)) (mz_k S R N b (t + 1)))) (fun _ h => h.1 rfl) (fun c _ hc h => h.2 hc) h1000 hp ⟨h0, h1⟩)
  exact ⟨rfl, rfl, rfl, trivial⟩
/-! 353 KeptHouseLaw.part (LKeptHouse;II[J)I -/
theorem ms_353_0 : mz_sf mk_353 0 = mk_353 := mz_sf_zero _
theorem ms_353_15 : mz_sf mk_353 15 = mt_353_15 := mz_sf_add ms_353_0 (t := 15) rfl rfl
theorem ms_353_19 : mz_sf mk_353 19 = mt_353_19 := mz_sf_add ms_353_15 (t := 4) rfl rfl
theorem ms_353_21 : mz_sf mk_353 21 = mt_353_21 := mz_sf_add ms_353_19 (t := 2) rfl rfl
set_option maxRecDepth 100000 in
theorem mzq_353 : mz_PG0 353 = some (13, ⟨"KeptHouseLaw", "part", "(LKeptHouse;II[J)I"⟩, method_52_code, 5, some .int, [(0, 10, 13, 13), (0, 10, 17, 15)], mk_353, [(0, 13, 15), (1, 17, 19)]) := rfl
theorem cg_353_0 (hd : 2 ≤ d) (hS : mz_ext S 343) (hR : mz_rok R 343)  (v1 : Int32) (v2 : Int32) (N : mz_N) (t : Nat) {C0 : (Int32 × mz_N × Nat) → Prop} (hr : ∀ (w : Int32) (N2 : mz_N) (t2 : Nat), C0 (w, N2, t2) → Q (.inl (some (.int w))) (mz_k S R N2 b t2)) (hp : cp_353_0 v1 v2 N t) (hC : C0 (cf_353_0 v1 v2 N t)) : mz_G (d, mz_X0 L xs, some .int, [(0, 13, 15), (1, 17, 19)], mk_353, 5, Q) 0 mk_353 [(0, .ref 0), (1, .int v1), (2, .int v2), (3, .ref 342)] [] true (mz_k S R N b t) := by
  unfold cf_353_0 at hC
  unfold cp_353_0 at hp
  refine g_aload_n rfl (g_iconst mzi_0 (g_aload_n rfl (g_iload_n rfl (g_iload_n rfl ?_))))
  obtain ⟨h1, hp⟩ := hp
  obtain ⟨h1000, hp⟩ := hp
  refine g_v3vh (Nat.le_of_ble_eq_true rfl) (mz_at hS (Nat.le_of_ble_eq_true rfl) mzcS_0) (fun _ h0 h1 => cs_354 (Nat.le_trans (Nat.le_of_ble_eq_true rfl) hd) (hS.le (Nat.le_of_ble_eq_true rfl)) (hR.le (Nat.le_of_ble_eq_true rfl))  v1 v2 N h1 h1000 h0 h1) hC (fun h2 hC => ?_) (fun h2 hC => ?_)
  · have hp := hp.1 h2
    refine g_i2l (g_last (mz_at hS (Nat.le_of_ble_eq_true rfl) mzcS_342) (mz_ibd (by decide)) (g_goto (tg := 21) rfl ms_353_21 (g_iconst mzi_0 ?_)))
    exact g_iret rfl (hr _ _ _ hC)
  · have hp := hp.2 h2
    refine mz_cs hC (fun h6 hC => ?_) (fun h6 hC => ?_)
    · have hp := hp.1 h6
      refine ⟨(0, 13, 15), (by rw [h6]; rfl), ?_⟩
      show mz_G (d, mz_X0 L xs, some .int, [(0, 13, 15), (1, 17, 19)], mk_353, 5, Q) 15 (mz_sf mk_353 15) [] [] false (mz_k S R N b (t + 1))
      rw [ms_353_15]
      refine g_iconst mzi_1 ?_
      exact g_iret rfl (hr _ _ _ hC)
    · have hp := hp.2 h6
      have h4 := hp
      refine ⟨(1, 17, 19), (by rw [h4]; rfl), ?_⟩
      show mz_G (d, mz_X0 L xs, some .int, [(0, 13, 15), (1, 17, 19)], mk_353, 5, Q) 19 (mz_sf mk_353 19) [] [] false (mz_k S R N b (t + 1))
      rw [ms_353_19]
      refine g_iconst mzi_2 ?_
      exact g_iret rfl (hr _ _ _ hC)
theorem cs_353 (hd : 3 ≤ d) (hS : mz_ext S 343) (hR : mz_rok R 343)  (v1 : Int32) (v2 : Int32) (N : mz_N) (t : Nat) (hp : cp_353_0 v1 v2 N t) (hq : Q (.inl (some (.int ((cf_353_0 v1 v2 N t).1)))) (mz_k S R ((cf_353_0 v1 v2 N t).2.1) b ((cf_353_0 v1 v2 N t).2.2))) : mz_Ed (mz_X0 L xs) d 353 [.ref 0, .int v1, .int v2, .ref 342] (mz_k S R N b t) Q :=
  by
  refine g_in mzq_353 (Nat.le_of_ble_eq_true rfl) (Nat.le_of_ble_eq_true rfl) (Nat.le_trans (Nat.le_of_ble_eq_true rfl) hd) ?_
  refine g_weak ?_ (cg_353_0 (d := d - 1) (by omega) hS hR v1 v2 N t (C0 := fun z => Q (.inl (some (.int z.1))) (mz_k S R z.2.1 b z.2.2)) (fun _ _ _ h => h) hp hq)
  exact ⟨rfl, rfl, rfl, rfl, trivial⟩
/-! 356 KeptHouse.meter (II)I -/
theorem ms_356_0 : mz_sf mk_356 0 = mk_356 := mz_sf_zero _
set_option maxRecDepth 100000 in
theorem mzq_356 : mz_PG0 356 = some (11, ⟨"KeptHouse", "meter", "(II)I"⟩, prog_1_method_57_code, 3, some .int, [], mk_356, []) := rfl
theorem cg_356_0 (hd : 1 ≤ d) (hS : mz_ext S 232) (hR : mz_rok R 232)  (v1 : Int32) (v2 : Int32) (N : mz_N) {C0 : (Nat × Int32) → Prop} (hr : ∀ (w : Int32), C0 (0, w) → Q (.inl (some (.int w))) (mz_k S R N b t)) (ht : ∀ (c : Nat) (w : Int32), ¬ c = 0 → C0 (c, w) → Q (.inr (c - 1)) (mz_k S R N b (t + 1))) (h1000 : t < 1000) (hp : cp_356_0 v1 v2 N) (hC : C0 (cf_356_0 v1 v2 N)) : mz_G (d, mz_X0 L xs, some .int, [], mk_356, 3, Q) 0 mk_356 [(0, .ref 0), (1, .int v1), (2, .int v2)] [] true (mz_k S R N b t) := by
  unfold cf_356_0 at hC
  unfold cp_356_0 at hp
  refine g_aload_n rfl ?_
  obtain ⟨h1, hp⟩ := hp
  refine g_v1nt (Nat.le_of_ble_eq_true rfl) (mz_at hS (Nat.le_of_ble_eq_true rfl) mzcS_0) rfl (fun _ h0 h1 => cs_104 (Nat.le_trans (Nat.le_of_ble_eq_true rfl) hd) (hS.le (Nat.le_of_ble_eq_true rfl)) (hR.le (Nat.le_of_ble_eq_true rfl))  N h1 h1000 h0 h1) hC (fun h8 hC => ?_) (fun h8 hC => ?_)
  · have hp := hp.1 h8
    refine g_iload_n rfl (g_iconst mzi_0 (g_bipush mzb_10 ?_))
    obtain ⟨h2, hp⟩ := hp
    refine g_s3nt (Nat.le_of_ble_eq_true rfl) rfl (fun _ h0 h1 => cs_105 (Nat.le_trans (Nat.le_of_ble_eq_true rfl) hd) (hS.le (Nat.le_of_ble_eq_true rfl)) (hR.le (Nat.le_of_ble_eq_true rfl))  v1 0 10 h2 h1000 h0 h1) hC (fun h7 hC => ?_) (fun h7 hC => ?_)
    · have hp := hp.1 h7
      refine g_iload_n rfl (g_iconst mzi_0 (g_iconst mzi_2 ?_))
      obtain ⟨h3, hp⟩ := hp
      refine g_s3nt (Nat.le_of_ble_eq_true rfl) rfl (fun _ h0 h1 => cs_105 (Nat.le_trans (Nat.le_of_ble_eq_true rfl) hd) (hS.le (Nat.le_of_ble_eq_true rfl)) (hR.le (Nat.le_of_ble_eq_true rfl))  v2 0 2 h3 h1000 h0 h1) hC (fun h6 hC => ?_) (fun h6 hC => ?_)
      · have hp := hp.1 h6
        refine g_aload_n rfl (g_getR (mz_at hS (Nat.le_of_ble_eq_true rfl) mzcS_0) mzcf_11_8 (mz_rb hR (Nat.le_of_ble_eq_true rfl) rfl mzcR_0_8) (g_getR (mz_at hS (Nat.le_of_ble_eq_true rfl) mzcS_208) mzcf_1_5 (mz_rb hR (Nat.le_of_ble_eq_true rfl) rfl mzcR_208_5) (g_iload_n rfl ?_)))
        obtain ⟨h4, hp⟩ := hp
        refine g_aald4 (mz_at hS (Nat.le_of_ble_eq_true rfl) mzcS_209) h4 (mz_rb hR (Nat.le_of_ble_eq_true rfl) rfl (mzcR2_209 h4)) (g_iload_n rfl ?_)
        have h5 := hp
        refine g_iald hS.1 (mz_at hS (mzcL2_209 h4 (Nat.le_of_ble_eq_true rfl)) (mzcS2_209 h4)) h5 ?_
        exact g_iret rfl (hr _ hC)
      · have hp := hp.2 h6
        exact ht _ _ h6 hC
    · have hp := hp.2 h7
      exact ht _ _ h7 hC
  · have hp := hp.2 h8
    exact ht _ _ h8 hC
theorem cs_356 (hd : 2 ≤ d) (hS : mz_ext S 232) (hR : mz_rok R 232)  (v1 : Int32) (v2 : Int32) (N : mz_N) (hp : cp_356_0 v1 v2 N) (h1000 : t < 1000) (h0 : (cf_356_0 v1 v2 N).1 = 0 → Q (.inl (some (.int ((cf_356_0 v1 v2 N).2)))) (mz_k S R N b t)) (h1 : ¬ (cf_356_0 v1 v2 N).1 = 0 → Q (.inr (((cf_356_0 v1 v2 N).1) - 1)) (mz_k S R N b (t + 1))) : mz_Ed (mz_X0 L xs) d 356 [.ref 0, .int v1, .int v2] (mz_k S R N b t) Q :=
  by
  refine g_in mzq_356 (Nat.le_of_ble_eq_true rfl) (Nat.le_of_ble_eq_true rfl) (Nat.le_trans (Nat.le_of_ble_eq_true rfl) hd) ?_
  refine g_weak ?_ (cg_356_0 (d := d - 1) (by omega) hS hR v1 v2 N (C0 := fun z => (z.1 = 0 → Q (.inl (some (.int z.2))) (mz_k S R N b t)) ∧ (¬ z.1 = 0 → Q (.inr (z.1 - 1)) (mz_k S R N b (t + 1)))) (fun _ h => h.1 rfl) (fun c _ hc h => h.2 hc) h1000 hp ⟨h0, h1⟩)
  exact ⟨rfl, rfl, rfl, trivial⟩
/-! 355 KeptHouseLaw.meter (LKeptHouse;II[J)I -/
theorem ms_355_0 : mz_sf mk_355 0 = mk_355 := mz_sf_zero _
theorem ms_355_15 : mz_sf mk_355 15 = mt_355_15 := mz_sf_add ms_355_0 (t := 15) rfl rfl
theorem ms_355_19 : mz_sf mk_355 19 = mt_355_19 := mz_sf_add ms_355_15 (t := 4) rfl rfl
theorem ms_355_21 : mz_sf mk_355 21 = mt_355_21 := mz_sf_add ms_355_19 (t := 2) rfl rfl
set_option maxRecDepth 100000 in
theorem mzq_355 : mz_PG0 355 = some (13, ⟨"KeptHouseLaw", "meter", "(LKeptHouse;II[J)I"⟩, method_53_code, 5, some .int, [(0, 10, 13, 13), (0, 10, 17, 15)], mk_355, [(0, 13, 15), (1, 17, 19)]) := rfl
theorem cg_355_0 (hd : 2 ≤ d) (hS : mz_ext S 343) (hR : mz_rok R 343)  (v1 : Int32) (v2 : Int32) (N : mz_N) (t : Nat) {C0 : (Int32 × mz_N × Nat) → Prop} (hr : ∀ (w : Int32) (N2 : mz_N) (t2 : Nat), C0 (w, N2, t2) → Q (.inl (some (.int w))) (mz_k S R N2 b t2)) (hp : cp_355_0 v1 v2 N t) (hC : C0 (cf_355_0 v1 v2 N t)) : mz_G (d, mz_X0 L xs, some .int, [(0, 13, 15), (1, 17, 19)], mk_355, 5, Q) 0 mk_355 [(0, .ref 0), (1, .int v1), (2, .int v2), (3, .ref 342)] [] true (mz_k S R N b t) := by
  unfold cf_355_0 at hC
  unfold cp_355_0 at hp
  refine g_aload_n rfl (g_iconst mzi_0 (g_aload_n rfl (g_iload_n rfl (g_iload_n rfl ?_))))
  obtain ⟨h1, hp⟩ := hp
  obtain ⟨h1000, hp⟩ := hp
  refine g_v3vh (Nat.le_of_ble_eq_true rfl) (mz_at hS (Nat.le_of_ble_eq_true rfl) mzcS_0) (fun _ h0 h1 => cs_356 (Nat.le_trans (Nat.le_of_ble_eq_true rfl) hd) (hS.le (Nat.le_of_ble_eq_true rfl)) (hR.le (Nat.le_of_ble_eq_true rfl))  v1 v2 N h1 h1000 h0 h1) hC (fun h2 hC => ?_) (fun h2 hC => ?_)
  · have hp := hp.1 h2
    refine g_i2l (g_last (mz_at hS (Nat.le_of_ble_eq_true rfl) mzcS_342) (mz_ibd (by decide)) (g_goto (tg := 21) rfl ms_355_21 (g_iconst mzi_0 ?_)))
    exact g_iret rfl (hr _ _ _ hC)
  · have hp := hp.2 h2
    refine mz_cs hC (fun h6 hC => ?_) (fun h6 hC => ?_)
    · have hp := hp.1 h6
      refine ⟨(0, 13, 15), (by rw [h6]; rfl), ?_⟩
      show mz_G (d, mz_X0 L xs, some .int, [(0, 13, 15), (1, 17, 19)], mk_355, 5, Q) 15 (mz_sf mk_355 15) [] [] false (mz_k S R N b (t + 1))
      rw [ms_355_15]
      refine g_iconst mzi_1 ?_
      exact g_iret rfl (hr _ _ _ hC)
    · have hp := hp.2 h6
      have h4 := hp
      refine ⟨(1, 17, 19), (by rw [h4]; rfl), ?_⟩
      show mz_G (d, mz_X0 L xs, some .int, [(0, 13, 15), (1, 17, 19)], mk_355, 5, Q) 19 (mz_sf mk_355 19) [] [] false (mz_k S R N b (t + 1))
      rw [ms_355_19]
      refine g_iconst mzi_2 ?_
      exact g_iret rfl (hr _ _ _ hC)
theorem cs_355 (hd : 3 ≤ d) (hS : mz_ext S 343) (hR : mz_rok R 343)  (v1 : Int32) (v2 : Int32) (N : mz_N) (t : Nat) (hp : cp_355_0 v1 v2 N t) (hq : Q (.inl (some (.int ((cf_355_0 v1 v2 N t).1)))) (mz_k S R ((cf_355_0 v1 v2 N t).2.1) b ((cf_355_0 v1 v2 N t).2.2))) : mz_Ed (mz_X0 L xs) d 355 [.ref 0, .int v1, .int v2, .ref 342] (mz_k S R N b t) Q :=
  by
  refine g_in mzq_355 (Nat.le_of_ble_eq_true rfl) (Nat.le_of_ble_eq_true rfl) (Nat.le_trans (Nat.le_of_ble_eq_true rfl) hd) ?_
  refine g_weak ?_ (cg_355_0 (d := d - 1) (by omega) hS hR v1 v2 N t (C0 := fun z => Q (.inl (some (.int z.1))) (mz_k S R z.2.1 b z.2.2)) (fun _ _ _ h => h) hp hq)
  exact ⟨rfl, rfl, rfl, rfl, trivial⟩
end Fn16
