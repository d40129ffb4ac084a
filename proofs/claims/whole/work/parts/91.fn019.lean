/-! THE FUNCTIONS: written by program: each method comes to its function. -/
section Fn19
variable {L : Nat} {xs : Nat → Int32} {d : Nat} {S : mz_S} {R : Nat → Nat → Option Nat} {Q : mz_Q} {N : mz_N} {b : Bool} {t : Nat}
/-! 401 KeptHouse$Care.isTicketRow ([II)Z -/
theorem ms_401_0 : mz_sf mk_401 0 = mk_401 := mz_sf_zero _
theorem ms_401_13 : mz_sf mk_401 13 = mt_401_13 := mz_sf_add ms_401_0 (t := 13) rfl rfl
theorem ms_401_29 : mz_sf mk_401 29 = mt_401_29 := mz_sf_add ms_401_13 (t := 16) rfl rfl
theorem ms_401_48 : mz_sf mk_401 48 = mt_401_48 := mz_sf_add ms_401_29 (t := 19) rfl rfl
theorem ms_401_85 : mz_sf mk_401 85 = mt_401_85 := mz_sf_add ms_401_48 (t := 37) rfl rfl
theorem ms_401_99 : mz_sf mk_401 99 = mt_401_99 := mz_sf_add ms_401_85 (t := 14) rfl rfl
theorem ms_401_100 : mz_sf mk_401 100 = mt_401_100 := mz_sf_add ms_401_99 (t := 1) rfl rfl
set_option maxRecDepth 100000 in
theorem mzq_401 : mz_PG0 401 = some (2, ⟨"KeptHouse$Care", "isTicketRow", "([II)Z"⟩, prog_4_method_34_code, 2, some .boolean, [], mk_401, []) := rfl
theorem cg_401_0 (hd : 1 ≤ d) (hS : mz_extR S 232) (hR : mz_rok R 232)  (v1 : Int32) (N : mz_N) {C0 : (Bool) → Prop} (hr : ∀ (w : Bool), C0 w → Q (.inl (some (.int (mz_b01 w)))) (mz_k S R N b t)) (hp : cp_401_0 v1 N) (hC : C0 (cf_401_0 v1 N)) : mz_G (d, mz_X0 L xs, some .boolean, [], mk_401, 2, Q) 0 mk_401 [(0, .ref 230), (1, .int v1)] [] true (mz_k S R N b t) := by
  unfold cf_401_0 at hC
  unfold cp_401_0 at hp
  refine g_aload_n rfl (g_iload_n rfl ?_)
  obtain ⟨h1, hp⟩ := hp
  refine g_iald hS.1 (mz_at hS (Nat.le_of_ble_eq_true rfl) mzcS_230) h1 ?_
  refine g_ifne (tg := 13) rfl ms_401_13 hC (fun h2 hC => ?_) (fun h2 hC => ?_)
  · have hp := hp.1 h2
    refine g_aload_n rfl (g_iload_n rfl (g_iconst mzi_0 ?_))
    have h3 := hp
    refine g_s3v (Nat.le_of_ble_eq_true rfl) (fun _ hq => cs_75 (Nat.le_trans (Nat.le_of_ble_eq_true rfl) hd) (hS.le (Nat.le_of_ble_eq_true rfl)) (hR.le (Nat.le_of_ble_eq_true rfl)) 230 (mz_at hS (Nat.le_of_ble_eq_true rfl) mzcS_230) v1 0 N h3 hq) ?_
    exact g_zret (z := (cf_75_0 230 v1 0 N)) rfl (hr _ hC)
  · have hp := hp.2 h2
    refine g_aload_n rfl (g_iload_n rfl ?_)
    obtain ⟨h4, hp⟩ := hp
    refine g_iald hS.1 (mz_at hS (Nat.le_of_ble_eq_true rfl) mzcS_230) h4 (g_iconst mzi_1 ?_)
    refine g_icne (tg := 99) rfl ms_401_99 hC (fun h5 hC => ?_) (fun h5 hC => ?_)
    · have hp := hp.1 h5
      refine g_aload_n rfl (g_iload_n rfl (g_iconst mzi_1 (g_iadd ?_)))
      obtain ⟨h6, hp⟩ := hp
      refine g_iald hS.1 (mz_at hS (Nat.le_of_ble_eq_true rfl) mzcS_230) h6 (g_iconst mzi_5 ?_)
      refine g_icge (tg := 99) rfl ms_401_99 hC (fun h7 hC => ?_) (fun h7 hC => ?_)
      · have hp := hp.1 h7
        refine g_aload_n rfl (g_iload_n rfl (g_iconst mzi_2 (g_iadd ?_)))
        obtain ⟨h8, hp⟩ := hp
        refine g_iald hS.1 (mz_at hS (Nat.le_of_ble_eq_true rfl) mzcS_230) h8 (g_bipush mzb_48 ?_)
        refine g_icge (tg := 99) rfl ms_401_99 hC (fun h9 hC => ?_) (fun h9 hC => ?_)
        · have hp := hp.1 h9
          refine g_aload_n rfl (g_iload_n rfl (g_iconst mzi_3 (g_iadd ?_)))
          obtain ⟨h10, hp⟩ := hp
          refine g_iald hS.1 (mz_at hS (Nat.le_of_ble_eq_true rfl) mzcS_230) h10 (g_iconst mzi_3 ?_)
          refine g_icgt (tg := 99) rfl ms_401_99 hC (fun h11 hC => ?_) (fun h11 hC => ?_)
          · have hp := hp.1 h11
            refine g_iconst mzi_0 ?_
            exact g_zret (z := false) rfl (hr _ hC)
          · have hp := hp.2 h11
            refine g_aload_n rfl (g_iload_n rfl (g_iconst mzi_4 (g_iadd (g_iconst mzi_4 ?_))))
            obtain ⟨h12, hp⟩ := hp
            refine g_s3v (Nat.le_of_ble_eq_true rfl) (fun _ hq => cs_61 (Nat.le_trans (Nat.le_of_ble_eq_true rfl) hd) (hS.le (Nat.le_of_ble_eq_true rfl)) (hR.le (Nat.le_of_ble_eq_true rfl)) 230 3780 (mz_at hS (Nat.le_of_ble_eq_true rfl) mzcS_230) (v1 + 4) 4 N h12 hq) (g_lconst mzl_0 (g_con3 ?_))
            refine g_s3v (Nat.le_of_ble_eq_true rfl) (fun _ hq => cs_393 (Nat.le_trans (Nat.le_of_ble_eq_true rfl) hd) (hS.le (Nat.le_of_ble_eq_true rfl)) (hR.le (Nat.le_of_ble_eq_true rfl))  (cf_61_0 230 3780 (v1 + 4) 4 N) 0 2000000 trivial hq) ?_
            refine g_zeq (tg := 99) rfl ms_401_99 hC (fun h14 hC => ?_) (fun h14 hC => ?_)
            · have hp := hp.1 h14
              refine g_aload_n rfl (g_iload_n rfl (g_bipush mzb_8 (g_iadd (g_iconst mzi_4 ?_))))
              obtain ⟨h15, hp⟩ := hp
              refine g_s3v (Nat.le_of_ble_eq_true rfl) (fun _ hq => cs_61 (Nat.le_trans (Nat.le_of_ble_eq_true rfl) hd) (hS.le (Nat.le_of_ble_eq_true rfl)) (hR.le (Nat.le_of_ble_eq_true rfl)) 230 3780 (mz_at hS (Nat.le_of_ble_eq_true rfl) mzcS_230) (v1 + 8) 4 N h15 hq) (g_lconst mzl_0 (g_con3 ?_))
              refine g_s3v (Nat.le_of_ble_eq_true rfl) (fun _ hq => cs_393 (Nat.le_trans (Nat.le_of_ble_eq_true rfl) hd) (hS.le (Nat.le_of_ble_eq_true rfl)) (hR.le (Nat.le_of_ble_eq_true rfl))  (cf_61_0 230 3780 (v1 + 8) 4 N) 0 1000000000 trivial hq) ?_
              refine g_zeq (tg := 99) rfl ms_401_99 hC (fun h17 hC => ?_) (fun h17 hC => ?_)
              · have hp := hp.1 h17
                refine g_aload_n rfl (g_iload_n rfl (g_bipush mzb_12 ?_))
                have h18 := hp
                refine g_s3v (Nat.le_of_ble_eq_true rfl) (fun _ hq => cs_75 (Nat.le_trans (Nat.le_of_ble_eq_true rfl) hd) (hS.le (Nat.le_of_ble_eq_true rfl)) (hR.le (Nat.le_of_ble_eq_true rfl)) 230 (mz_at hS (Nat.le_of_ble_eq_true rfl) mzcS_230) v1 12 N h18 hq) ?_
                refine g_zeq (tg := 99) rfl ms_401_99 hC (fun h19 hC => ?_) (fun h19 hC => ?_)
                · refine g_iconst mzi_1 (g_goto (tg := 100) rfl ms_401_100 ?_)
                  exact g_zret (z := true) rfl (hr _ hC)
                · refine g_iconst mzi_0 ?_
                  exact g_zret (z := false) rfl (hr _ hC)
              · have hp := hp.2 h17
                refine g_iconst mzi_0 ?_
                exact g_zret (z := false) rfl (hr _ hC)
            · have hp := hp.2 h14
              refine g_iconst mzi_0 ?_
              exact g_zret (z := false) rfl (hr _ hC)
        · have hp := hp.2 h9
          refine g_iconst mzi_0 ?_
          exact g_zret (z := false) rfl (hr _ hC)
      · have hp := hp.2 h7
        refine g_iconst mzi_0 ?_
        exact g_zret (z := false) rfl (hr _ hC)
    · have hp := hp.2 h5
      refine g_iconst mzi_0 ?_
      exact g_zret (z := false) rfl (hr _ hC)
theorem cs_401 (hd : 2 ≤ d) (hS : mz_extR S 232) (hR : mz_rok R 232)  (v1 : Int32) (N : mz_N) (hp : cp_401_0 v1 N) (hq : Q (.inl (some (.int (mz_b01 (cf_401_0 v1 N))))) (mz_k S R N b t)) : mz_Ed (mz_X0 L xs) d 401 [.ref 230, .int v1] (mz_k S R N b t) Q :=
  by
  refine g_in mzq_401 (Nat.le_of_ble_eq_true rfl) (Nat.le_of_ble_eq_true rfl) (Nat.le_trans (Nat.le_of_ble_eq_true rfl) hd) ?_
  refine g_weak ?_ (cg_401_0 (d := d - 1) (by omega) hS hR v1 N (C0 := fun z => Q (.inl (some (.int (mz_b01 z)))) (mz_k S R N b t)) (fun _ h => h) hp hq)
  exact ⟨rfl, rfl, trivial⟩
/-! 402 KeptHouse$Access.isDoorRow ([II)Z -/
theorem ms_402_0 : mz_sf mk_402 0 = mk_402 := mz_sf_zero _
theorem ms_402_16 : mz_sf mk_402 16 = mt_402_16 := mz_sf_add ms_402_0 (t := 16) rfl rfl
theorem ms_402_42 : mz_sf mk_402 42 = mt_402_42 := mz_sf_add ms_402_16 (t := 26) rfl rfl
theorem ms_402_55 : mz_sf mk_402 55 = mt_402_55 := mz_sf_add ms_402_42 (t := 13) rfl rfl
theorem ms_402_56 : mz_sf mk_402 56 = mt_402_56 := mz_sf_add ms_402_55 (t := 1) rfl rfl
set_option maxRecDepth 100000 in
theorem mzq_402 : mz_PG0 402 = some (0, ⟨"KeptHouse$Access", "isDoorRow", "([II)Z"⟩, prog_2_method_18_code, 2, some .boolean, [], mk_402, []) := rfl
theorem cg_402_0 (hd : 2 ≤ d) (hS : mz_extR S 232) (hR : mz_rok R 232)  (v1 : Int32) (N : mz_N) {C0 : (Bool) → Prop} (hr : ∀ (w : Bool), C0 w → Q (.inl (some (.int (mz_b01 w)))) (mz_k S R N b t)) (hp : cp_402_0 v1 N) (hC : C0 (cf_402_0 v1 N)) : mz_G (d, mz_X0 L xs, some .boolean, [], mk_402, 2, Q) 0 mk_402 [(0, .ref 230), (1, .int v1)] [] true (mz_k S R N b t) := by
  unfold cf_402_0 at hC
  unfold cp_402_0 at hp
  refine g_aload_n rfl (g_iload_n rfl ?_)
  obtain ⟨h1, hp⟩ := hp
  refine g_iald hS.1 (mz_at hS (Nat.le_of_ble_eq_true rfl) mzcS_230) h1 (g_iconst mzi_1 ?_)
  refine g_icne (tg := 55) rfl ms_402_55 hC (fun h2 hC => ?_) (fun h2 hC => ?_)
  · have hp := hp.1 h2
    refine g_aload_n rfl (g_iload_n rfl (g_iconst mzi_1 (g_iadd ?_)))
    obtain ⟨h3, hp⟩ := hp
    refine g_iald hS.1 (mz_at hS (Nat.le_of_ble_eq_true rfl) mzcS_230) h3 (g_iconst mzi_5 ?_)
    refine g_icge (tg := 55) rfl ms_402_55 hC (fun h4 hC => ?_) (fun h4 hC => ?_)
    · have hp := hp.1 h4
      refine g_aload_n rfl (g_iload_n rfl (g_iconst mzi_2 (g_iadd ?_)))
      obtain ⟨h5, hp⟩ := hp
      refine g_iald hS.1 (mz_at hS (Nat.le_of_ble_eq_true rfl) mzcS_230) h5 (g_bipush mzb_110 ?_)
      refine g_icge (tg := 55) rfl ms_402_55 hC (fun h6 hC => ?_) (fun h6 hC => ?_)
      · have hp := hp.1 h6
        refine g_aload_n rfl (g_iload_n rfl (g_iconst mzi_1 (g_iadd ?_)))
        obtain ⟨h7, hp⟩ := hp
        refine g_iald hS.1 (mz_at hS (Nat.le_of_ble_eq_true rfl) mzcS_230) h7 (g_aload_n rfl (g_iload_n rfl (g_iconst mzi_2 (g_iadd ?_))))
        obtain ⟨h8, hp⟩ := hp
        refine g_iald hS.1 (mz_at hS (Nat.le_of_ble_eq_true rfl) mzcS_230) h8 ?_
        refine g_s2v (Nat.le_of_ble_eq_true rfl) (fun _ hq => cs_300 (Nat.le_trans (Nat.le_of_ble_eq_true rfl) hd) (hS.le (Nat.le_of_ble_eq_true rfl)) (hR.le (Nat.le_of_ble_eq_true rfl))  (mz_gI N 230 (v1 + 1)) (mz_gI N 230 (v1 + 2)) trivial hq) ?_
        refine g_zeq (tg := 55) rfl ms_402_55 hC (fun h10 hC => ?_) (fun h10 hC => ?_)
        · have hp := hp.1 h10
          refine g_aload_n rfl (g_iload_n rfl (g_iconst mzi_3 ?_))
          have h11 := hp
          refine g_s3v (Nat.le_of_ble_eq_true rfl) (fun _ hq => cs_75 (Nat.le_trans (Nat.le_of_ble_eq_true rfl) hd) (hS.le (Nat.le_of_ble_eq_true rfl)) (hR.le (Nat.le_of_ble_eq_true rfl)) 230 (mz_at hS (Nat.le_of_ble_eq_true rfl) mzcS_230) v1 3 N h11 hq) ?_
          refine g_zeq (tg := 55) rfl ms_402_55 hC (fun h12 hC => ?_) (fun h12 hC => ?_)
          · refine g_iconst mzi_1 (g_goto (tg := 56) rfl ms_402_56 ?_)
            exact g_zret (z := true) rfl (hr _ hC)
          · refine g_iconst mzi_0 ?_
            exact g_zret (z := false) rfl (hr _ hC)
        · have hp := hp.2 h10
          refine g_iconst mzi_0 ?_
          exact g_zret (z := false) rfl (hr _ hC)
      · have hp := hp.2 h6
        refine g_iconst mzi_0 ?_
        exact g_zret (z := false) rfl (hr _ hC)
    · have hp := hp.2 h4
      refine g_iconst mzi_0 ?_
      exact g_zret (z := false) rfl (hr _ hC)
  · have hp := hp.2 h2
    refine g_iconst mzi_0 ?_
    exact g_zret (z := false) rfl (hr _ hC)
theorem cs_402 (hd : 3 ≤ d) (hS : mz_extR S 232) (hR : mz_rok R 232)  (v1 : Int32) (N : mz_N) (hp : cp_402_0 v1 N) (hq : Q (.inl (some (.int (mz_b01 (cf_402_0 v1 N))))) (mz_k S R N b t)) : mz_Ed (mz_X0 L xs) d 402 [.ref 230, .int v1] (mz_k S R N b t) Q :=
  by
  refine g_in mzq_402 (Nat.le_of_ble_eq_true rfl) (Nat.le_of_ble_eq_true rfl) (Nat.le_trans (Nat.le_of_ble_eq_true rfl) hd) ?_
  refine g_weak ?_ (cg_402_0 (d := d - 1) (by omega) hS hR v1 N (C0 := fun z => Q (.inl (some (.int (mz_b01 z)))) (mz_k S R N b t)) (fun _ h => h) hp hq)
  exact ⟨rfl, rfl, trivial⟩
/-! 403 KeptHouse$Access.isCardRow ([II)Z -/
theorem ms_403_0 : mz_sf mk_403 0 = mk_403 := mz_sf_zero _
theorem ms_403_17 : mz_sf mk_403 17 = mt_403_17 := mz_sf_add ms_403_0 (t := 17) rfl rfl
theorem ms_403_36 : mz_sf mk_403 36 = mt_403_36 := mz_sf_add ms_403_17 (t := 19) rfl rfl
theorem ms_403_64 : mz_sf mk_403 64 = mt_403_64 := mz_sf_add ms_403_36 (t := 28) rfl rfl
theorem ms_403_68 : mz_sf mk_403 68 = mt_403_68 := mz_sf_add ms_403_64 (t := 4) rfl rfl
theorem ms_403_69 : mz_sf mk_403 69 = mt_403_69 := mz_sf_add ms_403_68 (t := 1) rfl rfl
set_option maxRecDepth 100000 in
theorem mzq_403 : mz_PG0 403 = some (0, ⟨"KeptHouse$Access", "isCardRow", "([II)Z"⟩, prog_2_method_21_code, 2, some .boolean, [], mk_403, []) := rfl
theorem cg_403_0 (hd : 1 ≤ d) (hS : mz_extR S 232) (hR : mz_rok R 232)  (v1 : Int32) (N : mz_N) {C0 : (Bool) → Prop} (hr : ∀ (w : Bool), C0 w → Q (.inl (some (.int (mz_b01 w)))) (mz_k S R N b t)) (hp : cp_403_0 v1 N) (hC : C0 (cf_403_0 v1 N)) : mz_G (d, mz_X0 L xs, some .boolean, [], mk_403, 2, Q) 0 mk_403 [(0, .ref 230), (1, .int v1)] [] true (mz_k S R N b t) := by
  unfold cf_403_0 at hC
  unfold cp_403_0 at hp
  refine g_aload_n rfl (g_iload_n rfl ?_)
  obtain ⟨h1, hp⟩ := hp
  refine g_iald hS.1 (mz_at hS (Nat.le_of_ble_eq_true rfl) mzcS_230) h1 (g_iconst mzi_1 ?_)
  refine g_icne (tg := 68) rfl ms_403_68 hC (fun h2 hC => ?_) (fun h2 hC => ?_)
  · have hp := hp.1 h2
    refine g_aload_n rfl (g_iload_n rfl (g_iconst mzi_1 (g_iadd ?_)))
    obtain ⟨h3, hp⟩ := hp
    refine g_iald hS.1 (mz_at hS (Nat.le_of_ble_eq_true rfl) mzcS_230) h3 (g_bipush mzb_24 ?_)
    refine g_icge (tg := 68) rfl ms_403_68 hC (fun h4 hC => ?_) (fun h4 hC => ?_)
    · have hp := hp.1 h4
      refine g_aload_n rfl (g_iload_n rfl (g_iconst mzi_2 (g_iadd ?_)))
      obtain ⟨h5, hp⟩ := hp
      refine g_iald hS.1 (mz_at hS (Nat.le_of_ble_eq_true rfl) mzcS_230) h5 (g_bipush mzb_24 ?_)
      refine g_icge (tg := 68) rfl ms_403_68 hC (fun h6 hC => ?_) (fun h6 hC => ?_)
      · have hp := hp.1 h6
        refine g_aload_n rfl (g_iload_n rfl (g_iconst mzi_3 (g_iadd ?_)))
        obtain ⟨h7, hp⟩ := hp
        refine g_iald hS.1 (mz_at hS (Nat.le_of_ble_eq_true rfl) mzcS_230) h7 (g_iconst mzi_2 ?_)
        refine g_icge (tg := 68) rfl ms_403_68 hC (fun h8 hC => ?_) (fun h8 hC => ?_)
        · have hp := hp.1 h8
          refine g_aload_n rfl (g_iload_n rfl (g_iconst mzi_4 (g_iadd (g_iconst mzi_4 ?_))))
          obtain ⟨h9, hp⟩ := hp
          refine g_s3v (Nat.le_of_ble_eq_true rfl) (fun _ hq => cs_61 (Nat.le_trans (Nat.le_of_ble_eq_true rfl) hd) (hS.le (Nat.le_of_ble_eq_true rfl)) (hR.le (Nat.le_of_ble_eq_true rfl)) 230 3780 (mz_at hS (Nat.le_of_ble_eq_true rfl) mzcS_230) (v1 + 4) 4 N h9 hq) (g_lconst mzl_0 (g_con3 ?_))
          refine g_s3v (Nat.le_of_ble_eq_true rfl) (fun _ hq => cs_393 (Nat.le_trans (Nat.le_of_ble_eq_true rfl) hd) (hS.le (Nat.le_of_ble_eq_true rfl)) (hR.le (Nat.le_of_ble_eq_true rfl))  (cf_61_0 230 3780 (v1 + 4) 4 N) 0 1048575 trivial hq) ?_
          refine g_zeq (tg := 68) rfl ms_403_68 hC (fun h11 hC => ?_) (fun h11 hC => ?_)
          · have hp := hp.1 h11
            refine g_aload_n rfl (g_iload_n rfl (g_bipush mzb_8 ?_))
            have h12 := hp
            refine g_s3v (Nat.le_of_ble_eq_true rfl) (fun _ hq => cs_75 (Nat.le_trans (Nat.le_of_ble_eq_true rfl) hd) (hS.le (Nat.le_of_ble_eq_true rfl)) (hR.le (Nat.le_of_ble_eq_true rfl)) 230 (mz_at hS (Nat.le_of_ble_eq_true rfl) mzcS_230) v1 8 N h12 hq) ?_
            refine g_zeq (tg := 68) rfl ms_403_68 hC (fun h13 hC => ?_) (fun h13 hC => ?_)
            · refine g_iconst mzi_1 (g_goto (tg := 69) rfl ms_403_69 ?_)
              exact g_zret (z := true) rfl (hr _ hC)
            · refine g_iconst mzi_0 ?_
              exact g_zret (z := false) rfl (hr _ hC)
          · have hp := hp.2 h11
            refine g_iconst mzi_0 ?_
            exact g_zret (z := false) rfl (hr _ hC)
        · have hp := hp.2 h8
          refine g_iconst mzi_0 ?_
          exact g_zret (z := false) rfl (hr _ hC)
      · have hp := hp.2 h6
        refine g_iconst mzi_0 ?_
        exact g_zret (z := false) rfl (hr _ hC)
    · have hp := hp.2 h4
      refine g_iconst mzi_0 ?_
      exact g_zret (z := false) rfl (hr _ hC)
  · have hp := hp.2 h2
    refine g_iconst mzi_0 ?_
    exact g_zret (z := false) rfl (hr _ hC)
theorem cs_403 (hd : 2 ≤ d) (hS : mz_extR S 232) (hR : mz_rok R 232)  (v1 : Int32) (N : mz_N) (hp : cp_403_0 v1 N) (hq : Q (.inl (some (.int (mz_b01 (cf_403_0 v1 N))))) (mz_k S R N b t)) : mz_Ed (mz_X0 L xs) d 403 [.ref 230, .int v1] (mz_k S R N b t) Q :=
  by
  refine g_in mzq_403 (Nat.le_of_ble_eq_true rfl) (Nat.le_of_ble_eq_true rfl) (Nat.le_trans (Nat.le_of_ble_eq_true rfl) hd) ?_
  refine g_weak ?_ (cg_403_0 (d := d - 1) (by omega) hS hR v1 N (C0 := fun z => Q (.inl (some (.int (mz_b01 z)))) (mz_k S R N b t)) (fun _ h => h) hp hq)
  exact ⟨rfl, rfl, trivial⟩
/-! 388 KeptHouse$Keeper.isLegal (II[II)Z -/
theorem ms_388_0 : mz_sf mk_388 0 = mk_388 := mz_sf_zero _
theorem ms_388_78 : mz_sf mk_388 78 = mt_388_78 := mz_sf_add ms_388_0 (t := 78) rfl rfl
theorem ms_388_84 : mz_sf mk_388 84 = mt_388_84 := mz_sf_add ms_388_78 (t := 6) rfl rfl
theorem ms_388_92 : mz_sf mk_388 92 = mt_388_92 := mz_sf_add ms_388_84 (t := 8) rfl rfl
theorem ms_388_98 : mz_sf mk_388 98 = mt_388_98 := mz_sf_add ms_388_92 (t := 6) rfl rfl
theorem ms_388_107 : mz_sf mk_388 107 = mt_388_107 := mz_sf_add ms_388_98 (t := 9) rfl rfl
theorem ms_388_109 : mz_sf mk_388 109 = mt_388_109 := mz_sf_add ms_388_107 (t := 2) rfl rfl
theorem ms_388_116 : mz_sf mk_388 116 = mt_388_116 := mz_sf_add ms_388_109 (t := 7) rfl rfl
theorem ms_388_122 : mz_sf mk_388 122 = mt_388_122 := mz_sf_add ms_388_116 (t := 6) rfl rfl
theorem ms_388_128 : mz_sf mk_388 128 = mt_388_128 := mz_sf_add ms_388_122 (t := 6) rfl rfl
theorem ms_388_134 : mz_sf mk_388 134 = mt_388_134 := mz_sf_add ms_388_128 (t := 6) rfl rfl
theorem ms_388_140 : mz_sf mk_388 140 = mt_388_140 := mz_sf_add ms_388_134 (t := 6) rfl rfl
theorem ms_388_146 : mz_sf mk_388 146 = mt_388_146 := mz_sf_add ms_388_140 (t := 6) rfl rfl
theorem ms_388_152 : mz_sf mk_388 152 = mt_388_152 := mz_sf_add ms_388_146 (t := 6) rfl rfl
theorem ms_388_158 : mz_sf mk_388 158 = mt_388_158 := mz_sf_add ms_388_152 (t := 6) rfl rfl
theorem ms_388_181 : mz_sf mk_388 181 = mt_388_181 := mz_sf_add ms_388_158 (t := 23) rfl rfl
theorem ms_388_194 : mz_sf mk_388 194 = mt_388_194 := mz_sf_add ms_388_181 (t := 13) rfl rfl
theorem ms_388_195 : mz_sf mk_388 195 = mt_388_195 := mz_sf_add ms_388_194 (t := 1) rfl rfl
set_option maxRecDepth 100000 in
theorem mzq_388 : mz_PG0 388 = some (4, ⟨"KeptHouse$Keeper", "isLegal", "(II[II)Z"⟩, prog_6_method_8_code, 4, some .boolean, [], mk_388, []) := rfl
theorem cg_388_0 (hd : 3 ≤ d) (hS : mz_extR S 232) (hR : mz_rok R 232)  (v0 : Int32) (v1 : Int32) (v3 : Int32) (N : mz_N) {C0 : (Bool) → Prop} (hr : ∀ (w : Bool), C0 w → Q (.inl (some (.int (mz_b01 w)))) (mz_k S R N b t)) (hp : cp_388_0 v0 v1 v3 N) (hC : C0 (cf_388_0 v0 v1 v3 N)) : mz_G (d, mz_X0 L xs, some .boolean, [], mk_388, 4, Q) 0 mk_388 [(0, .int v0), (1, .int v1), (2, .ref 230), (3, .int v3)] [] true (mz_k S R N b t) := by
  unfold cf_388_0 at hC
  unfold cp_388_0 at hp
  refine g_iload_n rfl ?_
  refine mz_cs hC (fun h1 hC => ?_) (fun h1 hC => ?_)
  · have hp := hp.1 h1
    refine g_brn (tg := 72) (by rw [h1]; rfl) (by decide) rfl ?_
    refine g_aload_n rfl (g_iload_n rfl ?_)
    have h35 := hp
    refine g_s2v (Nat.le_of_ble_eq_true rfl) (fun _ hq => cs_389 (Nat.le_trans (Nat.le_of_ble_eq_true rfl) hd) (hS.le (Nat.le_of_ble_eq_true rfl)) (hR.le (Nat.le_of_ble_eq_true rfl))  v3 N h35 hq) ?_
    exact g_zret (z := (cf_389_0 v3 N)) rfl (hr _ hC)
  · have hp := hp.2 h1
    refine mz_cs hC (fun h2 hC => ?_) (fun h2 hC => ?_)
    · have hp := hp.1 h2
      refine g_br (tg := 78) (by rw [h2]; rfl) ms_388_78 ?_
      refine g_aload_n rfl (g_iload_n rfl ?_)
      have h34 := hp
      refine g_s2v (Nat.le_of_ble_eq_true rfl) (fun _ hq => cs_390 (Nat.le_trans (Nat.le_of_ble_eq_true rfl) hd) (hS.le (Nat.le_of_ble_eq_true rfl)) (hR.le (Nat.le_of_ble_eq_true rfl))  v3 N h34 hq) ?_
      exact g_zret (z := (cf_390_0 v3 N)) rfl (hr _ hC)
    · have hp := hp.2 h2
      refine mz_cs hC (fun h3 hC => ?_) (fun h3 hC => ?_)
      · have hp := hp.1 h3
        refine g_br (tg := 84) (by rw [h3]; rfl) ms_388_84 ?_
        refine g_aload_n rfl (g_iload_n rfl (g_bipush mzb_20 ?_))
        have h33 := hp
        refine g_s3v (Nat.le_of_ble_eq_true rfl) (fun _ hq => cs_391 (Nat.le_trans (Nat.le_of_ble_eq_true rfl) hd) (hS.le (Nat.le_of_ble_eq_true rfl)) (hR.le (Nat.le_of_ble_eq_true rfl))  v3 20 N h33 hq) ?_
        exact g_zret (z := (cf_391_0 v3 20 N)) rfl (hr _ hC)
      · have hp := hp.2 h3
        refine mz_cs hC (fun h4 hC => ?_) (fun h4 hC => ?_)
        · have hp := hp.1 h4
          refine g_br (tg := 92) (by rw [h4]; rfl) ms_388_92 ?_
          refine g_aload_n rfl (g_iload_n rfl ?_)
          have h32 := hp
          refine g_s2v (Nat.le_of_ble_eq_true rfl) (fun _ hq => cs_392 (Nat.le_trans (Nat.le_of_ble_eq_true rfl) hd) (hS.le (Nat.le_of_ble_eq_true rfl)) (hR.le (Nat.le_of_ble_eq_true rfl))  v3 N h32 hq) ?_
          exact g_zret (z := (cf_392_0 v3 N)) rfl (hr _ hC)
        · have hp := hp.2 h4
          refine mz_cs hC (fun h5 hC => ?_) (fun h5 hC => ?_)
          · have hp := hp.1 h5
            refine g_br (tg := 98) (by rw [h5]; rfl) ms_388_98 ?_
            refine g_aload_n rfl (g_iload_n rfl (g_sipush mzs_200 ?_))
            have h31 := hp
            refine g_s3v (Nat.le_of_ble_eq_true rfl) (fun _ hq => cs_391 (Nat.le_trans (Nat.le_of_ble_eq_true rfl) hd) (hS.le (Nat.le_of_ble_eq_true rfl)) (hR.le (Nat.le_of_ble_eq_true rfl))  v3 200 N h31 hq) ?_
            exact g_zret (z := (cf_391_0 v3 200 N)) rfl (hr _ hC)
          · have hp := hp.2 h5
            refine mz_cs hC (fun h6 hC => ?_) (fun h6 hC => ?_)
            · have hp := hp.1 h6
              refine g_br (tg := 107) (by rw [h6]; rfl) ms_388_107 ?_
              refine g_iconst mzi_1 ?_
              exact g_zret (z := true) rfl (hr _ hC)
            · have hp := hp.2 h6
              refine mz_cs hC (fun h7 hC => ?_) (fun h7 hC => ?_)
              · have hp := hp.1 h7
                refine g_br (tg := 109) (by rw [h7]; rfl) ms_388_109 ?_
                refine g_iload_n rfl (g_aload_n rfl (g_iload_n rfl ?_))
                have h30 := hp
                refine g_s3v (Nat.le_of_ble_eq_true rfl) (fun _ hq => cs_394 (Nat.le_trans (Nat.le_of_ble_eq_true rfl) hd) (hS.le (Nat.le_of_ble_eq_true rfl)) (hR.le (Nat.le_of_ble_eq_true rfl))  v1 v3 N h30 hq) ?_
                exact g_zret (z := (cf_394_0 v1 v3 N)) rfl (hr _ hC)
              · have hp := hp.2 h7
                refine mz_cs hC (fun h8 hC => ?_) (fun h8 hC => ?_)
                · have hp := hp.1 h8
                  refine g_br (tg := 116) (by rw [h8]; rfl) ms_388_116 ?_
                  refine g_aload_n rfl (g_iload_n rfl ?_)
                  have h29 := hp
                  refine g_s2v (Nat.le_of_ble_eq_true rfl) (fun _ hq => cs_395 (Nat.le_trans (Nat.le_of_ble_eq_true rfl) hd) (hS.le (Nat.le_of_ble_eq_true rfl)) (hR.le (Nat.le_of_ble_eq_true rfl))  v3 N h29 hq) ?_
                  exact g_zret (z := (cf_395_0 v3 N)) rfl (hr _ hC)
                · have hp := hp.2 h8
                  refine mz_cs hC (fun h9 hC => ?_) (fun h9 hC => ?_)
                  · have hp := hp.1 h9
                    refine g_br (tg := 122) (by rw [h9]; rfl) ms_388_122 ?_
                    refine g_aload_n rfl (g_iload_n rfl ?_)
                    have h28 := hp
                    refine g_s2v (Nat.le_of_ble_eq_true rfl) (fun _ hq => cs_398 (Nat.le_trans (Nat.le_of_ble_eq_true rfl) hd) (hS.le (Nat.le_of_ble_eq_true rfl)) (hR.le (Nat.le_of_ble_eq_true rfl))  v3 N h28 hq) ?_
                    exact g_zret (z := (cf_398_0 v3 N)) rfl (hr _ hC)
                  · have hp := hp.2 h9
                    refine mz_cs hC (fun h10 hC => ?_) (fun h10 hC => ?_)
                    · have hp := hp.1 h10
                      refine g_br (tg := 128) (by rw [h10]; rfl) ms_388_128 ?_
                      refine g_aload_n rfl (g_iload_n rfl ?_)
                      have h27 := hp
                      refine g_s2v (Nat.le_of_ble_eq_true rfl) (fun _ hq => cs_399 (Nat.le_trans (Nat.le_of_ble_eq_true rfl) hd) (hS.le (Nat.le_of_ble_eq_true rfl)) (hR.le (Nat.le_of_ble_eq_true rfl))  v3 N h27 hq) ?_
                      exact g_zret (z := (cf_399_0 v3 N)) rfl (hr _ hC)
                    · have hp := hp.2 h10
                      refine mz_cs hC (fun h11 hC => ?_) (fun h11 hC => ?_)
                      · have hp := hp.1 h11
                        refine g_br (tg := 134) (by rw [h11]; rfl) ms_388_134 ?_
                        refine g_aload_n rfl (g_iload_n rfl ?_)
                        have h26 := hp
                        refine g_s2v (Nat.le_of_ble_eq_true rfl) (fun _ hq => cs_400 (Nat.le_trans (Nat.le_of_ble_eq_true rfl) hd) (hS.le (Nat.le_of_ble_eq_true rfl)) (hR.le (Nat.le_of_ble_eq_true rfl))  v3 N h26 hq) ?_
                        exact g_zret (z := (cf_400_0 v3 N)) rfl (hr _ hC)
                      · have hp := hp.2 h11
                        refine mz_cs hC (fun h12 hC => ?_) (fun h12 hC => ?_)
                        · have hp := hp.1 h12
                          refine g_br (tg := 140) (by rw [h12]; rfl) ms_388_140 ?_
                          refine g_aload_n rfl (g_iload_n rfl ?_)
                          have h25 := hp
                          refine g_s2v (Nat.le_of_ble_eq_true rfl) (fun _ hq => cs_401 (Nat.le_trans (Nat.le_of_ble_eq_true rfl) hd) (hS.le (Nat.le_of_ble_eq_true rfl)) (hR.le (Nat.le_of_ble_eq_true rfl))  v3 N h25 hq) ?_
                          exact g_zret (z := (cf_401_0 v3 N)) rfl (hr _ hC)
                        · have hp := hp.2 h12
                          refine mz_cs hC (fun h13 hC => ?_) (fun h13 hC => ?_)
                          · have hp := hp.1 h13
                            refine g_br (tg := 146) (by rw [h13]; rfl) ms_388_146 ?_
                            refine g_aload_n rfl (g_iload_n rfl ?_)
                            have h24 := hp
                            refine g_s2v (Nat.le_of_ble_eq_true rfl) (fun _ hq => cs_402 (Nat.le_trans (Nat.le_of_ble_eq_true rfl) hd) (hS.le (Nat.le_of_ble_eq_true rfl)) (hR.le (Nat.le_of_ble_eq_true rfl))  v3 N h24 hq) ?_
                            exact g_zret (z := (cf_402_0 v3 N)) rfl (hr _ hC)
                          · have hp := hp.2 h13
                            refine mz_cs hC (fun h14 hC => ?_) (fun h14 hC => ?_)
                            · have hp := hp.1 h14
                              refine g_br (tg := 152) (by rw [h14]; rfl) ms_388_152 ?_
                              refine g_aload_n rfl (g_iload_n rfl ?_)
                              have h23 := hp
                              refine g_s2v (Nat.le_of_ble_eq_true rfl) (fun _ hq => cs_403 (Nat.le_trans (Nat.le_of_ble_eq_true rfl) hd) (hS.le (Nat.le_of_ble_eq_true rfl)) (hR.le (Nat.le_of_ble_eq_true rfl))  v3 N h23 hq) ?_
                              exact g_zret (z := (cf_403_0 v3 N)) rfl (hr _ hC)
                            · have hp := hp.2 h14
                              refine g_br (tg := 158) ((mz_tsw_d (l := [1, 2, 3, 4, 5, 6, 7, 8, 9, 10, 11, 12, 13, 14]) (mz_rng 1 13) ⟨h1, h2, h3, h4, h5, h6, h7, h8, h9, h10, h11, h12, h13, h14, trivial⟩).trans (mz_tg_t rfl)) ms_388_158 ?_
                              refine g_aload_n rfl (g_iload_n rfl ?_)
                              obtain ⟨h15, hp⟩ := hp
                              refine g_iald hS.1 (mz_at hS (Nat.le_of_ble_eq_true rfl) mzcS_230) h15 (g_iconst mzi_1 ?_)
                              refine g_icne (tg := 194) rfl ms_388_194 hC (fun h16 hC => ?_) (fun h16 hC => ?_)
                              · have hp := hp.1 h16
                                refine g_aload_n rfl (g_iload_n rfl (g_iconst mzi_1 (g_iadd ?_)))
                                obtain ⟨h17, hp⟩ := hp
                                refine g_iald hS.1 (mz_at hS (Nat.le_of_ble_eq_true rfl) mzcS_230) h17 (g_aload_n rfl (g_iload_n rfl (g_iconst mzi_2 (g_iadd ?_))))
                                obtain ⟨h18, hp⟩ := hp
                                refine g_iald hS.1 (mz_at hS (Nat.le_of_ble_eq_true rfl) mzcS_230) h18 ?_
                                refine g_s2v (Nat.le_of_ble_eq_true rfl) (fun _ hq => cs_324 (Nat.le_trans (Nat.le_of_ble_eq_true rfl) hd) (hS.le (Nat.le_of_ble_eq_true rfl)) (hR.le (Nat.le_of_ble_eq_true rfl))  (mz_gI N 230 (v3 + 1)) (mz_gI N 230 (v3 + 2)) trivial hq) ?_
                                refine g_zeq (tg := 194) rfl ms_388_194 hC (fun h20 hC => ?_) (fun h20 hC => ?_)
                                · have hp := hp.1 h20
                                  refine g_aload_n rfl (g_iload_n rfl (g_iconst mzi_3 ?_))
                                  have h21 := hp
                                  refine g_s3v (Nat.le_of_ble_eq_true rfl) (fun _ hq => cs_75 (Nat.le_trans (Nat.le_of_ble_eq_true rfl) hd) (hS.le (Nat.le_of_ble_eq_true rfl)) (hR.le (Nat.le_of_ble_eq_true rfl)) 230 (mz_at hS (Nat.le_of_ble_eq_true rfl) mzcS_230) v3 3 N h21 hq) ?_
                                  refine g_zeq (tg := 194) rfl ms_388_194 hC (fun h22 hC => ?_) (fun h22 hC => ?_)
                                  · refine g_iconst mzi_1 (g_goto (tg := 195) rfl ms_388_195 ?_)
                                    exact g_zret (z := true) rfl (hr _ hC)
                                  · refine g_iconst mzi_0 ?_
                                    exact g_zret (z := false) rfl (hr _ hC)
                                · have hp := hp.2 h20
                                  refine g_iconst mzi_0 ?_
                                  exact g_zret (z := false) rfl (hr _ hC)
                              · have hp := hp.2 h16
                                refine g_iconst mzi_0 ?_
                                exact g_zret (z := false) rfl (hr _ hC)
theorem cs_388 (hd : 4 ≤ d) (hS : mz_extR S 232) (hR : mz_rok R 232)  (v0 : Int32) (v1 : Int32) (v3 : Int32) (N : mz_N) (hp : cp_388_0 v0 v1 v3 N) (hq : Q (.inl (some (.int (mz_b01 (cf_388_0 v0 v1 v3 N))))) (mz_k S R N b t)) : mz_Ed (mz_X0 L xs) d 388 [.int v0, .int v1, .ref 230, .int v3] (mz_k S R N b t) Q :=
  by
  refine g_in mzq_388 (Nat.le_of_ble_eq_true rfl) (Nat.le_of_ble_eq_true rfl) (Nat.le_trans (Nat.le_of_ble_eq_true rfl) hd) ?_
  refine g_weak ?_ (cg_388_0 (d := d - 1) (by omega) hS hR v0 v1 v3 N (C0 := fun z => Q (.inl (some (.int (mz_b01 z)))) (mz_k S R N b t)) (fun _ h => h) hp hq)
  exact ⟨rfl, rfl, rfl, rfl, trivial⟩
/-! 404 KeptHouse$Keeper.hasFewSpaces ()Z -/
theorem ms_404_0 : mz_sf mk_404 0 = mk_404 := mz_sf_zero _
theorem ms_404_12 : mz_sf mk_404 12 = mt_404_12 := mz_sf_add ms_404_0 (t := 12) rfl rfl
theorem ms_404_46 : mz_sf mk_404 46 = mt_404_46 := mz_sf_add ms_404_12 (t := 34) rfl rfl
theorem ms_404_52 : mz_sf mk_404 52 = mt_404_52 := mz_sf_add ms_404_46 (t := 6) rfl rfl
theorem ms_404_68 : mz_sf mk_404 68 = mt_404_68 := mz_sf_add ms_404_52 (t := 16) rfl rfl
theorem ms_404_69 : mz_sf mk_404 69 = mt_404_69 := mz_sf_add ms_404_68 (t := 1) rfl rfl
set_option maxRecDepth 100000 in
theorem mzq_404 : mz_PG0 404 = some (4, ⟨"KeptHouse$Keeper", "hasFewSpaces", "()Z"⟩, prog_6_method_15_code, 2, some .boolean, [], mk_404, []) := rfl
theorem cg_404_46 (hd : 4 ≤ d) (hS : mz_extR S 232) (hR : mz_rok R 232)  (v1 : Int32) (N : mz_N) {C0 : (Bool × mz_N) → Prop} (hr : ∀ (w : Bool) (N2 : mz_N), C0 (w, N2) → Q (.inl (some (.int (mz_b01 w)))) (mz_k S R N2 b t)) {C1 : ((Int32 × mz_N) ⊕ (Bool × mz_N)) → Prop} (hc1 : ∀ s2, C1 (.inl s2) → mz_G (d, mz_X0 L xs, some .boolean, [], mk_404, 2, Q) 12 mt_404_12 [(0, .ref 1), (1, .int s2.1)] [] false (mz_k S R s2.2 b t)) (hx1 : ∀ z, C1 (.inr z) → C0 z) (hp : cp_404_46 v1 N) (hC : C1 (cf_404_46 v1 N)) : mz_G (d, mz_X0 L xs, some .boolean, [], mk_404, 2, Q) 46 mt_404_46 [(0, .ref 1), (1, .int v1)] [] false (mz_k S R N b t) := by
  unfold cf_404_46 at hC
  unfold cp_404_46 at hp
  refine g_iinc rfl mzi_1 (Nat.le_of_ble_eq_true rfl) rfl (g_goto (tg := 12) rfl ms_404_12 ?_)
  refine g_weak ?_ (g_cl (hc1 ((v1 + 1), N) hC))
  exact ⟨rfl, rfl, trivial⟩
theorem cb_404_12 (hd : 4 ≤ d) (hS : mz_extR S 232) (hR : mz_rok R 232)   (s : Int32 × mz_N) {C0 : (Bool × mz_N) → Prop} (hr : ∀ (w : Bool) (N2 : mz_N), C0 (w, N2) → Q (.inl (some (.int (mz_b01 w)))) (mz_k S R N2 b t)) {C1 : ((Int32 × mz_N) ⊕ (Bool × mz_N)) → Prop} (hc1 : ∀ s2, C1 (.inl s2) → mz_G (d, mz_X0 L xs, some .boolean, [], mk_404, 2, Q) 12 mt_404_12 [(0, .ref 1), (1, .int s2.1)] [] false (mz_k S R s2.2 b t)) (hx1 : ∀ z, C1 (.inr z) → C0 z) (hp : cd_404_12  s) (hC : C1 (cq_404_12  s)) : mz_G (d, mz_X0 L xs, some .boolean, [], mk_404, 2, Q) 12 mt_404_12 [(0, .ref 1), (1, .int s.1)] [] false (mz_k S R s.2 b t) := by
  unfold cq_404_12 at hC
  unfold cd_404_12 at hp
  refine g_iload_n rfl (g_iconst mzi_5 ?_)
  refine g_icge (tg := 52) rfl ms_404_52 hC (fun h1 hC => ?_) (fun h1 hC => ?_)
  · have hp := hp.1 h1
    refine g_aload_n rfl (g_getR (mz_at hS (Nat.le_of_ble_eq_true rfl) mzcS_1) mzcf_4_14 (mz_rb hR (Nat.le_of_ble_eq_true rfl) rfl mzcR_1_14) (g_iload_n rfl ?_))
    obtain ⟨h2, hp⟩ := hp
    refine g_iald hS.1 (mz_at hS (Nat.le_of_ble_eq_true rfl) mzcS_231) h2 (g_iconst mzi_1 ?_)
    refine g_icne (tg := 46) rfl ms_404_46 hC (fun h3 hC => ?_) (fun h3 hC => ?_)
    · have hp := hp.1 h3
      refine g_iload_n rfl (g_aload_n rfl (g_getR (mz_at hS (Nat.le_of_ble_eq_true rfl) mzcS_1) mzcf_4_13 (mz_rb hR (Nat.le_of_ble_eq_true rfl) rfl mzcR_1_13) (g_iload_n rfl (g_bipush mzb_28 (g_imul (g_aload_n rfl (g_getR (mz_at hS (Nat.le_of_ble_eq_true rfl) mzcS_1) mzcf_4_0 (mz_rb hR (Nat.le_of_ble_eq_true rfl) rfl mzcR_1_0) ?_)))))))
      refine g_getR (mz_at hS (Nat.le_of_ble_eq_true rfl) mzcS_2) mzcf_5_4 (mz_rb hR (Nat.le_of_ble_eq_true rfl) rfl mzcR_2_4) ?_
      obtain ⟨h4, hp⟩ := hp
      refine g_s4n (Nat.le_of_ble_eq_true rfl) (fun _ hq => cs_58 (Nat.le_trans (Nat.le_of_ble_eq_true rfl) hd) (hS.le (Nat.le_of_ble_eq_true rfl)) (hR.le (Nat.le_of_ble_eq_true rfl)) 230 12 (mz_at hS (Nat.le_of_ble_eq_true rfl) mzcS_230) (mz_at hS (Nat.le_of_ble_eq_true rfl) mzcS_12) s.1 (s.1 * 28) s.2 h4 hq) ?_
      refine g_weak ?_ (g_cl (cg_404_46 hd hS hR s.1 (cf_58_0 230 12 s.1 (s.1 * 28) s.2) hr hc1 hx1 hp hC))
      exact ⟨rfl, rfl, trivial⟩
    · have hp := hp.2 h3
      refine g_weak ?_ (g_cl (cg_404_46 hd hS hR s.1 s.2 hr hc1 hx1 hp hC))
      exact ⟨rfl, rfl, trivial⟩
  · have hp := hp.2 h1
    refine g_aload_n rfl (g_getR (mz_at hS (Nat.le_of_ble_eq_true rfl) mzcS_1) mzcf_4_0 (mz_rb hR (Nat.le_of_ble_eq_true rfl) rfl mzcR_1_0) ?_)
    have h5 := hp
    refine g_v1v (Nat.le_of_ble_eq_true rfl) (mz_at hS (Nat.le_of_ble_eq_true rfl) mzcS_2) (fun _ hq => cs_116 (Nat.le_trans (Nat.le_of_ble_eq_true rfl) hd) (hS.le (Nat.le_of_ble_eq_true rfl)) (hR.le (Nat.le_of_ble_eq_true rfl))  s.2 h5 hq) (g_bipush mzb_40 ?_)
    refine g_icgt (tg := 68) rfl ms_404_68 hC (fun h6 hC => ?_) (fun h6 hC => ?_)
    · refine g_iconst mzi_0 ?_
      exact g_zret (z := false) rfl (hr _ _ (hx1 _ hC))
    · refine g_iconst mzi_1 (g_goto (tg := 69) rfl ms_404_69 ?_)
      exact g_zret (z := true) rfl (hr _ _ (hx1 _ hC))
theorem cg_404_12 (hd : 4 ≤ d) (hS : mz_extR S 232) (hR : mz_rok R 232)  (v1 : Int32) (N : mz_N) {C0 : (Bool × mz_N) → Prop} (hr : ∀ (w : Bool) (N2 : mz_N), C0 (w, N2) → Q (.inl (some (.int (mz_b01 w)))) (mz_k S R N2 b t)) (hp : cp_404_12 v1 N) (hC : C0 (cf_404_12 v1 N)) : mz_G (d, mz_X0 L xs, some .boolean, [], mk_404, 2, Q) 12 mt_404_12 [(0, .ref 1), (1, .int v1)] [] false (mz_k S R N b t) := by
  obtain ⟨n, hn⟩ := hp
  exact g_loop (G := fun s => mz_G (d, mz_X0 L xs, some .boolean, [], mk_404, 2, Q) 12 mt_404_12 [(0, .ref 1), (1, .int s.1)] [] false (mz_k S R s.2 b t)) (C := C0) (fun C2 hc hx s hP hC => cb_404_12 hd hS hR  s hr hc hx hP hC) n (v1, N) hn hC
theorem cg_404_0 (hd : 4 ≤ d) (hS : mz_extR S 232) (hR : mz_rok R 232)  (N : mz_N) {C0 : (Bool × mz_N) → Prop} (hr : ∀ (w : Bool) (N2 : mz_N), C0 (w, N2) → Q (.inl (some (.int (mz_b01 w)))) (mz_k S R N2 b t)) (hp : cp_404_0 N) (hC : C0 (cf_404_0 N)) : mz_G (d, mz_X0 L xs, some .boolean, [], mk_404, 2, Q) 0 mk_404 [(0, .ref 1)] [] true (mz_k S R N b t) := by
  unfold cf_404_0 at hC
  unfold cp_404_0 at hp
  refine g_aload_n rfl (g_getR (mz_at hS (Nat.le_of_ble_eq_true rfl) mzcS_1) mzcf_4_0 (mz_rb hR (Nat.le_of_ble_eq_true rfl) rfl mzcR_1_0) (g_getR (mz_at hS (Nat.le_of_ble_eq_true rfl) mzcS_2) mzcf_5_4 (mz_rb hR (Nat.le_of_ble_eq_true rfl) rfl mzcR_2_4) ?_))
  obtain ⟨h1, hp⟩ := hp
  refine g_s1n (Nat.le_of_ble_eq_true rfl) (fun _ hq => cs_19 (Nat.le_trans (Nat.le_of_ble_eq_true rfl) hd) (hS.le (Nat.le_of_ble_eq_true rfl)) (hR.le (Nat.le_of_ble_eq_true rfl)) 12 (mz_at hS (Nat.le_of_ble_eq_true rfl) mzcS_12) N h1 hq) (g_iconst mzi_0 (g_istore_n (Nat.le_of_ble_eq_true rfl) rfl ?_))
  refine g_weak ?_ (g_cl (cg_404_12 hd hS hR 0 (cf_19_0 12 N) hr hp hC))
  exact ⟨rfl, rfl, trivial⟩
theorem cs_404 (hd : 5 ≤ d) (hS : mz_extR S 232) (hR : mz_rok R 232)  (N : mz_N) (hp : cp_404_0 N) (hq : Q (.inl (some (.int (mz_b01 ((cf_404_0 N).1))))) (mz_k S R ((cf_404_0 N).2) b t)) : mz_Ed (mz_X0 L xs) d 404 [.ref 1] (mz_k S R N b t) Q :=
  by
  refine g_in mzq_404 (Nat.le_of_ble_eq_true rfl) (Nat.le_of_ble_eq_true rfl) (Nat.le_trans (Nat.le_of_ble_eq_true rfl) hd) ?_
  refine g_weak ?_ (cg_404_0 (d := d - 1) (by omega) hS hR N (C0 := fun z => Q (.inl (some (.int (mz_b01 z.1)))) (mz_k S R z.2 b t)) (fun _ _ h => h) hp hq)
  exact ⟨rfl, trivial⟩
/-! 405 KeptHouse$Keeper.areNumbersApart ()Z -/
theorem ms_405_0 : mz_sf mk_405 0 = mk_405 := mz_sf_zero _
theorem ms_405_2 : mz_sf mk_405 2 = mt_405_2 := mz_sf_add ms_405_0 (t := 2) rfl rfl
theorem ms_405_12 : mz_sf mk_405 12 = mt_405_12 := mz_sf_add ms_405_2 (t := 10) rfl rfl
theorem ms_405_35 : mz_sf mk_405 35 = mt_405_35 := mz_sf_add ms_405_12 (t := 23) rfl rfl
theorem ms_405_56 : mz_sf mk_405 56 = mt_405_56 := mz_sf_add ms_405_35 (t := 21) rfl rfl
theorem ms_405_85 : mz_sf mk_405 85 = mt_405_85 := mz_sf_add ms_405_56 (t := 29) rfl rfl
theorem ms_405_87 : mz_sf mk_405 87 = mt_405_87 := mz_sf_add ms_405_85 (t := 2) rfl rfl
theorem ms_405_93 : mz_sf mk_405 93 = mt_405_93 := mz_sf_add ms_405_87 (t := 6) rfl rfl
theorem ms_405_99 : mz_sf mk_405 99 = mt_405_99 := mz_sf_add ms_405_93 (t := 6) rfl rfl
set_option maxRecDepth 100000 in
theorem mzq_405 : mz_PG0 405 = some (4, ⟨"KeptHouse$Keeper", "areNumbersApart", "()Z"⟩, prog_6_method_16_code, 5, some .boolean, [], mk_405, []) := rfl
theorem cg_405_87 (hd : 1 ≤ d) (hS : mz_extR S 232) (hR : mz_rok R 232)  (v1 : Int32) (v2 : Int32) (N : mz_N) {C0 : (Bool) → Prop} (hr : ∀ (w : Bool), C0 w → Q (.inl (some (.int (mz_b01 w)))) (mz_k S R N b t)) {C1 : ((Int32) ⊕ (Bool)) → Prop} (hc1 : ∀ s2, C1 (.inl s2) → mz_G (d, mz_X0 L xs, some .boolean, [], mk_405, 5, Q) 2 mt_405_2 [(0, .ref 1), (1, .int s2)] [] false (mz_k S R N b t)) (hx1 : ∀ z, C1 (.inr z) → C0 z) {C2 : ((Int32) ⊕ ((Int32) ⊕ (Bool))) → Prop} (hc2 : ∀ s2, C2 (.inl s2) → mz_G (d, mz_X0 L xs, some .boolean, [], mk_405, 5, Q) 12 mt_405_12 [(0, .ref 1), (1, .int v1), (2, .int s2)] [] false (mz_k S R N b t)) (hx2 : ∀ z, C2 (.inr z) → C1 z) (hp : cp_405_87 v1 v2 N) (hC : C2 (cf_405_87 v1 v2 N)) : mz_G (d, mz_X0 L xs, some .boolean, [], mk_405, 5, Q) 87 mt_405_87 [(0, .ref 1), (1, .int v1), (2, .int v2)] [] false (mz_k S R N b t) := by
  unfold cf_405_87 at hC
  unfold cp_405_87 at hp
  refine g_iinc rfl mzi_1 (Nat.le_of_ble_eq_true rfl) rfl (g_goto (tg := 12) rfl ms_405_12 ?_)
  refine g_weak ?_ (g_cl (hc2 ((v2 + 1)) hC))
  exact ⟨rfl, rfl, rfl, trivial⟩
theorem cb_405_12 (hd : 1 ≤ d) (hS : mz_extR S 232) (hR : mz_rok R 232)  (v1 : Int32) (N : mz_N) (s : Int32) {C0 : (Bool) → Prop} (hr : ∀ (w : Bool), C0 w → Q (.inl (some (.int (mz_b01 w)))) (mz_k S R N b t)) {C1 : ((Int32) ⊕ (Bool)) → Prop} (hc1 : ∀ s2, C1 (.inl s2) → mz_G (d, mz_X0 L xs, some .boolean, [], mk_405, 5, Q) 2 mt_405_2 [(0, .ref 1), (1, .int s2)] [] false (mz_k S R N b t)) (hx1 : ∀ z, C1 (.inr z) → C0 z) {C2 : ((Int32) ⊕ ((Int32) ⊕ (Bool))) → Prop} (hc2 : ∀ s2, C2 (.inl s2) → mz_G (d, mz_X0 L xs, some .boolean, [], mk_405, 5, Q) 12 mt_405_12 [(0, .ref 1), (1, .int v1), (2, .int s2)] [] false (mz_k S R N b t)) (hx2 : ∀ z, C2 (.inr z) → C1 z) (hp : cd_405_12 v1 N s) (hC : C2 (cq_405_12 v1 N s)) : mz_G (d, mz_X0 L xs, some .boolean, [], mk_405, 5, Q) 12 mt_405_12 [(0, .ref 1), (1, .int v1), (2, .int s)] [] false (mz_k S R N b t) := by
  unfold cq_405_12 at hC
  unfold cd_405_12 at hp
  refine g_iload_n rfl (g_bipush mzb_16 ?_)
  refine g_icge (tg := 93) rfl ms_405_93 hC (fun h1 hC => ?_) (fun h1 hC => ?_)
  · have hp := hp.1 h1
    refine g_bipush mzb_51 (g_iload_n rfl (g_iadd (g_bipush mzb_28 (g_imul (g_istore_n (Nat.le_of_ble_eq_true rfl) rfl (g_bipush mzb_51 (g_iload_n rfl ?_)))))))
    refine g_iadd (g_bipush mzb_28 (g_imul (g_istore (Nat.le_of_ble_eq_true rfl) rfl (g_aload_n rfl (g_getR (mz_at hS (Nat.le_of_ble_eq_true rfl) mzcS_1) mzcf_4_13 (mz_rb hR (Nat.le_of_ble_eq_true rfl) rfl mzcR_1_13) (g_iload_n rfl ?_))))))
    obtain ⟨h2, hp⟩ := hp
    refine g_iald hS.1 (mz_at hS (Nat.le_of_ble_eq_true rfl) mzcS_230) h2 (g_iconst mzi_1 ?_)
    refine g_icne (tg := 87) rfl ms_405_87 hC (fun h3 hC => ?_) (fun h3 hC => ?_)
    · have hp := hp.1 h3
      refine g_aload_n rfl (g_getR (mz_at hS (Nat.le_of_ble_eq_true rfl) mzcS_1) mzcf_4_13 (mz_rb hR (Nat.le_of_ble_eq_true rfl) rfl mzcR_1_13) (g_iload rfl ?_))
      obtain ⟨h4, hp⟩ := hp
      refine g_iald hS.1 (mz_at hS (Nat.le_of_ble_eq_true rfl) mzcS_230) h4 (g_iconst mzi_1 ?_)
      refine g_icne (tg := 87) rfl ms_405_87 hC (fun h5 hC => ?_) (fun h5 hC => ?_)
      · have hp := hp.1 h5
        refine g_aload_n rfl (g_getR (mz_at hS (Nat.le_of_ble_eq_true rfl) mzcS_1) mzcf_4_13 (mz_rb hR (Nat.le_of_ble_eq_true rfl) rfl mzcR_1_13) (g_iload_n rfl (g_bipush mzb_8 (g_iadd (g_iconst mzi_4 ?_)))))
        obtain ⟨h6, hp⟩ := hp
        refine g_s3v (Nat.le_of_ble_eq_true rfl) (fun _ hq => cs_61 (Nat.le_trans (Nat.le_of_ble_eq_true rfl) hd) (hS.le (Nat.le_of_ble_eq_true rfl)) (hR.le (Nat.le_of_ble_eq_true rfl)) 230 3780 (mz_at hS (Nat.le_of_ble_eq_true rfl) mzcS_230) (((51 + v1) * 28) + 8) 4 N h6 hq) (g_aload_n rfl (g_getR (mz_at hS (Nat.le_of_ble_eq_true rfl) mzcS_1) mzcf_4_13 (mz_rb hR (Nat.le_of_ble_eq_true rfl) rfl mzcR_1_13) (g_iload rfl (g_bipush mzb_8 (g_iadd (g_iconst mzi_4 ?_))))))
        obtain ⟨h7, hp⟩ := hp
        refine g_s3v (Nat.le_of_ble_eq_true rfl) (fun _ hq => cs_61 (Nat.le_trans (Nat.le_of_ble_eq_true rfl) hd) (hS.le (Nat.le_of_ble_eq_true rfl)) (hR.le (Nat.le_of_ble_eq_true rfl)) 230 3780 (mz_at hS (Nat.le_of_ble_eq_true rfl) mzcS_230) (((51 + s) * 28) + 8) 4 N h7 hq) (g_lcmp ?_)
        refine g_lne (tg := 87) rfl ms_405_87 hC (fun h8 hC => ?_) (fun h8 hC => ?_)
        · have hp := hp.1 h8
          refine g_iconst mzi_0 ?_
          exact g_zret (z := false) rfl (hr _ (hx1 _ (hx2 _ hC)))
        · have hp := hp.2 h8
          refine g_weak ?_ (g_cl (cg_405_87 hd hS hR v1 s N hr hc1 hx1 hc2 hx2 hp hC))
          exact ⟨rfl, rfl, rfl, trivial⟩
      · have hp := hp.2 h5
        refine g_weak ?_ (g_cl (cg_405_87 hd hS hR v1 s N hr hc1 hx1 hc2 hx2 hp hC))
        exact ⟨rfl, rfl, rfl, trivial⟩
    · have hp := hp.2 h3
      refine g_weak ?_ (g_cl (cg_405_87 hd hS hR v1 s N hr hc1 hx1 hc2 hx2 hp hC))
      exact ⟨rfl, rfl, rfl, trivial⟩
  · have hp := hp.2 h1
    refine g_iinc rfl mzi_1 (Nat.le_of_ble_eq_true rfl) rfl (g_goto (tg := 2) rfl ms_405_2 ?_)
    refine g_weak ?_ (g_cl (hc1 ((v1 + 1)) (hx2 _ hC)))
    exact ⟨rfl, rfl, trivial⟩
theorem cg_405_12 (hd : 1 ≤ d) (hS : mz_extR S 232) (hR : mz_rok R 232)  (v1 : Int32) (v2 : Int32) (N : mz_N) {C0 : (Bool) → Prop} (hr : ∀ (w : Bool), C0 w → Q (.inl (some (.int (mz_b01 w)))) (mz_k S R N b t)) {C1 : ((Int32) ⊕ (Bool)) → Prop} (hc1 : ∀ s2, C1 (.inl s2) → mz_G (d, mz_X0 L xs, some .boolean, [], mk_405, 5, Q) 2 mt_405_2 [(0, .ref 1), (1, .int s2)] [] false (mz_k S R N b t)) (hx1 : ∀ z, C1 (.inr z) → C0 z) (hp : cp_405_12 v1 v2 N) (hC : C1 (cf_405_12 v1 v2 N)) : mz_G (d, mz_X0 L xs, some .boolean, [], mk_405, 5, Q) 12 mt_405_12 [(0, .ref 1), (1, .int v1), (2, .int v2)] [] false (mz_k S R N b t) := by
  obtain ⟨n, hn⟩ := hp
  exact g_loop (G := fun s => mz_G (d, mz_X0 L xs, some .boolean, [], mk_405, 5, Q) 12 mt_405_12 [(0, .ref 1), (1, .int v1), (2, .int s)] [] false (mz_k S R N b t)) (C := C1) (fun C2 hc hx s hP hC => cb_405_12 hd hS hR v1 N s hr hc1 hx1 hc hx hP hC) n (v2) hn hC
theorem cb_405_2 (hd : 1 ≤ d) (hS : mz_extR S 232) (hR : mz_rok R 232)  (N : mz_N) (s : Int32) {C0 : (Bool) → Prop} (hr : ∀ (w : Bool), C0 w → Q (.inl (some (.int (mz_b01 w)))) (mz_k S R N b t)) {C1 : ((Int32) ⊕ (Bool)) → Prop} (hc1 : ∀ s2, C1 (.inl s2) → mz_G (d, mz_X0 L xs, some .boolean, [], mk_405, 5, Q) 2 mt_405_2 [(0, .ref 1), (1, .int s2)] [] false (mz_k S R N b t)) (hx1 : ∀ z, C1 (.inr z) → C0 z) (hp : cd_405_2 N s) (hC : C1 (cq_405_2 N s)) : mz_G (d, mz_X0 L xs, some .boolean, [], mk_405, 5, Q) 2 mt_405_2 [(0, .ref 1), (1, .int s)] [] false (mz_k S R N b t) := by
  unfold cq_405_2 at hC
  unfold cd_405_2 at hp
  refine g_iload_n rfl (g_bipush mzb_16 ?_)
  refine g_icge (tg := 99) rfl ms_405_99 hC (fun h1 hC => ?_) (fun h1 hC => ?_)
  · have hp := hp.1 h1
    refine g_iload_n rfl (g_iconst mzi_1 (g_iadd (g_istore_n (Nat.le_of_ble_eq_true rfl) rfl ?_)))
    refine g_weak ?_ (g_cl (cg_405_12 hd hS hR s (s + 1) N hr hc1 hx1 hp hC))
    exact ⟨rfl, rfl, rfl, trivial⟩
  · have hp := hp.2 h1
    refine g_iconst mzi_1 ?_
    exact g_zret (z := true) rfl (hr _ (hx1 _ hC))
theorem cg_405_2 (hd : 1 ≤ d) (hS : mz_extR S 232) (hR : mz_rok R 232)  (v1 : Int32) (N : mz_N) {C0 : (Bool) → Prop} (hr : ∀ (w : Bool), C0 w → Q (.inl (some (.int (mz_b01 w)))) (mz_k S R N b t)) (hp : cp_405_2 v1 N) (hC : C0 (cf_405_2 v1 N)) : mz_G (d, mz_X0 L xs, some .boolean, [], mk_405, 5, Q) 2 mt_405_2 [(0, .ref 1), (1, .int v1)] [] false (mz_k S R N b t) := by
  obtain ⟨n, hn⟩ := hp
  exact g_loop (G := fun s => mz_G (d, mz_X0 L xs, some .boolean, [], mk_405, 5, Q) 2 mt_405_2 [(0, .ref 1), (1, .int s)] [] false (mz_k S R N b t)) (C := C0) (fun C2 hc hx s hP hC => cb_405_2 hd hS hR N s hr hc hx hP hC) n (v1) hn hC
theorem cg_405_0 (hd : 1 ≤ d) (hS : mz_extR S 232) (hR : mz_rok R 232)  (N : mz_N) {C0 : (Bool) → Prop} (hr : ∀ (w : Bool), C0 w → Q (.inl (some (.int (mz_b01 w)))) (mz_k S R N b t)) (hp : cp_405_0 N) (hC : C0 (cf_405_0 N)) : mz_G (d, mz_X0 L xs, some .boolean, [], mk_405, 5, Q) 0 mk_405 [(0, .ref 1)] [] true (mz_k S R N b t) := by
  unfold cf_405_0 at hC
  unfold cp_405_0 at hp
  refine g_iconst mzi_0 (g_istore_n (Nat.le_of_ble_eq_true rfl) rfl ?_)
  refine g_weak ?_ (g_cl (cg_405_2 hd hS hR 0 N hr hp hC))
  exact ⟨rfl, rfl, trivial⟩
theorem cs_405 (hd : 2 ≤ d) (hS : mz_extR S 232) (hR : mz_rok R 232)  (N : mz_N) (hp : cp_405_0 N) (hq : Q (.inl (some (.int (mz_b01 (cf_405_0 N))))) (mz_k S R N b t)) : mz_Ed (mz_X0 L xs) d 405 [.ref 1] (mz_k S R N b t) Q :=
  by
  refine g_in mzq_405 (Nat.le_of_ble_eq_true rfl) (Nat.le_of_ble_eq_true rfl) (Nat.le_trans (Nat.le_of_ble_eq_true rfl) hd) ?_
  refine g_weak ?_ (cg_405_0 (d := d - 1) (by omega) hS hR N (C0 := fun z => Q (.inl (some (.int (mz_b01 z)))) (mz_k S R N b t)) (fun _ h => h) hp hq)
  exact ⟨rfl, trivial⟩
/-! 387 KeptHouse$Keeper.isWithinBounds ()Z -/
theorem ms_387_0 : mz_sf mk_387 0 = mk_387 := mz_sf_zero _
theorem ms_387_2 : mz_sf mk_387 2 = mt_387_2 := mz_sf_add ms_387_0 (t := 2) rfl rfl
theorem ms_387_41 : mz_sf mk_387 41 = mt_387_41 := mz_sf_add ms_387_2 (t := 39) rfl rfl
theorem ms_387_43 : mz_sf mk_387 43 = mt_387_43 := mz_sf_add ms_387_41 (t := 2) rfl rfl
theorem ms_387_49 : mz_sf mk_387 49 = mt_387_49 := mz_sf_add ms_387_43 (t := 6) rfl rfl
theorem ms_387_80 : mz_sf mk_387 80 = mt_387_80 := mz_sf_add ms_387_49 (t := 31) rfl rfl
theorem ms_387_111 : mz_sf mk_387 111 = mt_387_111 := mz_sf_add ms_387_80 (t := 31) rfl rfl
theorem ms_387_112 : mz_sf mk_387 112 = mt_387_112 := mz_sf_add ms_387_111 (t := 1) rfl rfl
set_option maxRecDepth 100000 in
theorem mzq_387 : mz_PG0 387 = some (4, ⟨"KeptHouse$Keeper", "isWithinBounds", "()Z"⟩, prog_6_method_14_code, 2, some .boolean, [], mk_387, []) := rfl
theorem cg_387_43 (hd : 5 ≤ d) (hS : mz_extR S 232) (hR : mz_rok R 232)  (v1 : Int32) (N : mz_N) (b : Bool) {C0 : (Bool × mz_N) → Prop} (hr : ∀ (w : Bool) (N2 : mz_N), C0 (w, N2) → Q (.inl (some (.int (mz_b01 w)))) (mz_k S R N2 b t)) {C1 : ((Int32) ⊕ (Bool × mz_N)) → Prop} (hc1 : ∀ s2, C1 (.inl s2) → mz_G (d, mz_X0 L xs, some .boolean, [], mk_387, 2, Q) 2 mt_387_2 [(0, .ref 1), (1, .int s2)] [] false (mz_k S R N b t)) (hx1 : ∀ z, C1 (.inr z) → C0 z) (hp : cp_387_43 v1 N b) (hC : C1 (cf_387_43 v1 N b)) : mz_G (d, mz_X0 L xs, some .boolean, [], mk_387, 2, Q) 43 mt_387_43 [(0, .ref 1), (1, .int v1)] [] false (mz_k S R N b t) := by
  unfold cf_387_43 at hC
  unfold cp_387_43 at hp
  refine g_iinc rfl mzi_1 (Nat.le_of_ble_eq_true rfl) rfl (g_goto (tg := 2) rfl ms_387_2 ?_)
  refine g_weak ?_ (g_cl (hc1 ((v1 + 1)) hC))
  exact ⟨rfl, rfl, trivial⟩
theorem cg_387_111 (hd : 5 ≤ d) (hS : mz_extR S 232) (hR : mz_rok R 232)  (N : mz_N) (b : Bool) {C0 : (Bool × mz_N) → Prop} (hr : ∀ (w : Bool) (N2 : mz_N), C0 (w, N2) → Q (.inl (some (.int (mz_b01 w)))) (mz_k S R N2 b t)) (hp : cp_387_111 N b) (hC : C0 (cf_387_111 N b)) : mz_G (d, mz_X0 L xs, some .boolean, [], mk_387, 2, Q) 111 mt_387_111 [] [] false (mz_k S R N b t) := by
  unfold cf_387_111 at hC
  unfold cp_387_111 at hp
  refine g_iconst mzi_0 ?_
  exact g_zret (z := false) rfl (hr _ _ hC)
theorem cb_387_2 (hd : 5 ≤ d) (hS : mz_extR S 232) (hR : mz_rok R 232)  (N : mz_N) (b : Bool) (s : Int32) {C0 : (Bool × mz_N) → Prop} (hr : ∀ (w : Bool) (N2 : mz_N), C0 (w, N2) → Q (.inl (some (.int (mz_b01 w)))) (mz_k S R N2 b t)) {C1 : ((Int32) ⊕ (Bool × mz_N)) → Prop} (hc1 : ∀ s2, C1 (.inl s2) → mz_G (d, mz_X0 L xs, some .boolean, [], mk_387, 2, Q) 2 mt_387_2 [(0, .ref 1), (1, .int s2)] [] false (mz_k S R N b t)) (hx1 : ∀ z, C1 (.inr z) → C0 z) (hp : cd_387_2 N b s) (hC : C1 (cq_387_2 N b s)) : mz_G (d, mz_X0 L xs, some .boolean, [], mk_387, 2, Q) 2 mt_387_2 [(0, .ref 1), (1, .int s)] [] false (mz_k S R N b t) := by
  unfold cq_387_2 at hC
  unfold cd_387_2 at hp
  refine g_iload_n rfl (g_sipush mzs_135 ?_)
  refine g_icge (tg := 49) rfl ms_387_49 hC (fun h1 hC => ?_) (fun h1 hC => ?_)
  · have hp := hp.1 h1
    refine g_aload_n rfl (g_getR (mz_at hS (Nat.le_of_ble_eq_true rfl) mzcS_1) mzcf_4_14 (mz_rb hR (Nat.le_of_ble_eq_true rfl) rfl mzcR_1_14) (g_iload_n rfl ?_))
    obtain ⟨h2, hp⟩ := hp
    refine g_iald hS.1 (mz_at hS (Nat.le_of_ble_eq_true rfl) mzcS_231) h2 (g_iconst mzi_1 ?_)
    refine g_icne (tg := 43) rfl ms_387_43 hC (fun h3 hC => ?_) (fun h3 hC => ?_)
    · have hp := hp.1 h3
      refine g_iload_n rfl ?_
      obtain ⟨h4, hp⟩ := hp
      refine g_s1v (Nat.le_of_ble_eq_true rfl) (fun _ hq => cs_55 (Nat.le_trans (Nat.le_of_ble_eq_true rfl) hd) (hS.le (Nat.le_of_ble_eq_true rfl)) (hR.le (Nat.le_of_ble_eq_true rfl))  s h4 hq) (g_iload_n rfl ?_)
      obtain ⟨h5, hp⟩ := hp
      refine g_s1v (Nat.le_of_ble_eq_true rfl) (fun _ hq => cs_56 (Nat.le_trans (Nat.le_of_ble_eq_true rfl) hd) (hS.le (Nat.le_of_ble_eq_true rfl)) (hR.le (Nat.le_of_ble_eq_true rfl))  s h5 hq) (g_aload_n rfl (g_getR (mz_at hS (Nat.le_of_ble_eq_true rfl) mzcS_1) mzcf_4_13 (mz_rb hR (Nat.le_of_ble_eq_true rfl) rfl mzcR_1_13) (g_iload_n rfl (g_bipush mzb_28 (g_imul ?_)))))
      obtain ⟨h6, hp⟩ := hp
      refine g_s4v (Nat.le_of_ble_eq_true rfl) (fun _ hq => cs_388 (Nat.le_trans (Nat.le_of_ble_eq_true rfl) hd) (hS.le (Nat.le_of_ble_eq_true rfl)) (hR.le (Nat.le_of_ble_eq_true rfl))  (cf_55_0 s) (cf_56_0 s) (s * 28) N h6 hq) ?_
      refine g_zne (tg := 43) rfl ms_387_43 hC (fun h7 hC => ?_) (fun h7 hC => ?_)
      · have hp := hp.1 h7
        refine g_weak ?_ (g_cl (cg_387_43 hd hS hR s N b hr hc1 hx1 hp hC))
        exact ⟨rfl, rfl, trivial⟩
      · have hp := hp.2 h7
        refine g_iconst mzi_0 ?_
        exact g_zret (z := false) rfl (hr _ _ (hx1 _ hC))
    · have hp := hp.2 h3
      refine g_weak ?_ (g_cl (cg_387_43 hd hS hR s N b hr hc1 hx1 hp hC))
      exact ⟨rfl, rfl, trivial⟩
  · have hp := hp.2 h1
    refine g_aload_n rfl ?_
    obtain ⟨h8, hp⟩ := hp
    refine g_v1v (Nat.le_of_ble_eq_true rfl) (mz_at hS (Nat.le_of_ble_eq_true rfl) mzcS_1) (fun _ hq => cs_404 (Nat.le_trans (Nat.le_of_ble_eq_true rfl) hd) (hS.le (Nat.le_of_ble_eq_true rfl)) (hR.le (Nat.le_of_ble_eq_true rfl))  N h8 hq) ?_
    refine g_zeq (tg := 111) rfl ms_387_111 hC (fun h9 hC => ?_) (fun h9 hC => ?_)
    · have hp := hp.1 h9
      refine g_aload_n rfl ?_
      obtain ⟨h10, hp⟩ := hp
      refine g_v1v (Nat.le_of_ble_eq_true rfl) (mz_at hS (Nat.le_of_ble_eq_true rfl) mzcS_1) (fun _ hq => cs_405 (Nat.le_trans (Nat.le_of_ble_eq_true rfl) hd) (hS.le (Nat.le_of_ble_eq_true rfl)) (hR.le (Nat.le_of_ble_eq_true rfl))  ((cf_404_0 N).2) h10 hq) ?_
      refine g_zeq (tg := 111) rfl ms_387_111 hC (fun h11 hC => ?_) (fun h11 hC => ?_)
      · have hp := hp.1 h11
        refine g_aload_n rfl (g_getR (mz_at hS (Nat.le_of_ble_eq_true rfl) mzcS_1) mzcf_4_1 (mz_rb hR (Nat.le_of_ble_eq_true rfl) rfl mzcR_1_1) (g_aload_n rfl (g_getR (mz_at hS (Nat.le_of_ble_eq_true rfl) mzcS_1) mzcf_4_13 (mz_rb hR (Nat.le_of_ble_eq_true rfl) rfl mzcR_1_13) (g_sipush mzs_728 ?_))))
        obtain ⟨h12, hp⟩ := hp
        refine g_v3v (Nat.le_of_ble_eq_true rfl) (mz_at hS (Nat.le_of_ble_eq_true rfl) mzcS_41) (fun _ hq => cs_74 (Nat.le_trans (Nat.le_of_ble_eq_true rfl) hd) (hS.le (Nat.le_of_ble_eq_true rfl)) (hR.le (Nat.le_of_ble_eq_true rfl)) 230 (mz_at hS (Nat.le_of_ble_eq_true rfl) mzcS_230) 728 ((cf_404_0 N).2) h12 hq) ?_
        refine g_zeq (tg := 111) rfl ms_387_111 hC (fun h13 hC => ?_) (fun h13 hC => ?_)
        · have hp := hp.1 h13
          refine g_aload_n rfl (g_getR (mz_at hS (Nat.le_of_ble_eq_true rfl) mzcS_1) mzcf_4_1 (mz_rb hR (Nat.le_of_ble_eq_true rfl) rfl mzcR_1_1) (g_getR (mz_at hS (Nat.le_of_ble_eq_true rfl) mzcS_41) mzcf_6_3 (mz_rb_ot b hR (Nat.le_of_ble_eq_true rfl)) (g_aload_n rfl (g_getR (mz_at hS (Nat.le_of_ble_eq_true rfl) mzcS_1) mzcf_4_1 (mz_rb hR (Nat.le_of_ble_eq_true rfl) rfl mzcR_1_1) (g_getR (mz_at hS (Nat.le_of_ble_eq_true rfl) mzcS_41) mzcf_6_8 (mz_rb hR (Nat.le_of_ble_eq_true rfl) rfl mzcR_41_8) (g_aload_n rfl (g_getR (mz_at hS (Nat.le_of_ble_eq_true rfl) mzcS_1) mzcf_4_1 (mz_rb hR (Nat.le_of_ble_eq_true rfl) rfl mzcR_1_1) ?_)))))))
          refine g_getI (mz_at hS (Nat.le_of_ble_eq_true rfl) mzcS_41) mzcf_6_9 ?_
          obtain ⟨h14, hp⟩ := hp
          refine g_v3v (Nat.le_of_ble_eq_true rfl) (mz_at hS (mz_oL0 (mz_ot_or b) (Nat.le_of_ble_eq_true rfl)) (mz_oA0 (mz_ot_or b))) (fun _ hq => cs_23 (Nat.le_trans (Nat.le_of_ble_eq_true rfl) hd) (hS.le (Nat.le_of_ble_eq_true rfl)) (hR.le (Nat.le_of_ble_eq_true rfl)) (mz_ot b) 55 (mz_ot_or b) (mz_at hS (Nat.le_of_ble_eq_true rfl) mzcS_55) (((cf_74_0 230 728 ((cf_404_0 N).2)).2).1 41 9) ((cf_74_0 230 728 ((cf_404_0 N).2)).2) h14 hq) ?_
          refine g_zeq (tg := 111) rfl ms_387_111 hC (fun h15 hC => ?_) (fun h15 hC => ?_)
          · have hp := hp.1 h15
            refine g_iconst mzi_1 (g_goto (tg := 112) rfl ms_387_112 ?_)
            exact g_zret (z := true) rfl (hr _ _ (hx1 _ hC))
          · have hp := hp.2 h15
            refine g_weak ?_ (g_cl (cg_387_111 hd hS hR ((cf_23_0 (mz_ot b) 55 (((cf_74_0 230 728 ((cf_404_0 N).2)).2).1 41 9) ((cf_74_0 230 728 ((cf_404_0 N).2)).2)).2) b hr hp (hx1 _ hC)))
            exact trivial
        · have hp := hp.2 h13
          refine g_weak ?_ (g_cl (cg_387_111 hd hS hR ((cf_74_0 230 728 ((cf_404_0 N).2)).2) b hr hp (hx1 _ hC)))
          exact trivial
      · have hp := hp.2 h11
        refine g_weak ?_ (g_cl (cg_387_111 hd hS hR ((cf_404_0 N).2) b hr hp (hx1 _ hC)))
        exact trivial
    · have hp := hp.2 h9
      refine g_weak ?_ (g_cl (cg_387_111 hd hS hR ((cf_404_0 N).2) b hr hp (hx1 _ hC)))
      exact trivial
theorem cg_387_2 (hd : 5 ≤ d) (hS : mz_extR S 232) (hR : mz_rok R 232)  (v1 : Int32) (N : mz_N) (b : Bool) {C0 : (Bool × mz_N) → Prop} (hr : ∀ (w : Bool) (N2 : mz_N), C0 (w, N2) → Q (.inl (some (.int (mz_b01 w)))) (mz_k S R N2 b t)) (hp : cp_387_2 v1 N b) (hC : C0 (cf_387_2 v1 N b)) : mz_G (d, mz_X0 L xs, some .boolean, [], mk_387, 2, Q) 2 mt_387_2 [(0, .ref 1), (1, .int v1)] [] false (mz_k S R N b t) := by
  obtain ⟨n, hn⟩ := hp
  exact g_loop (G := fun s => mz_G (d, mz_X0 L xs, some .boolean, [], mk_387, 2, Q) 2 mt_387_2 [(0, .ref 1), (1, .int s)] [] false (mz_k S R N b t)) (C := C0) (fun C2 hc hx s hP hC => cb_387_2 hd hS hR N b s hr hc hx hP hC) n (v1) hn hC
theorem cg_387_0 (hd : 5 ≤ d) (hS : mz_extR S 232) (hR : mz_rok R 232)  (N : mz_N) (b : Bool) {C0 : (Bool × mz_N) → Prop} (hr : ∀ (w : Bool) (N2 : mz_N), C0 (w, N2) → Q (.inl (some (.int (mz_b01 w)))) (mz_k S R N2 b t)) (hp : cp_387_0 N b) (hC : C0 (cf_387_0 N b)) : mz_G (d, mz_X0 L xs, some .boolean, [], mk_387, 2, Q) 0 mk_387 [(0, .ref 1)] [] true (mz_k S R N b t) := by
  unfold cf_387_0 at hC
  unfold cp_387_0 at hp
  refine g_iconst mzi_0 (g_istore_n (Nat.le_of_ble_eq_true rfl) rfl ?_)
  refine g_weak ?_ (g_cl (cg_387_2 hd hS hR 0 N b hr hp hC))
  exact ⟨rfl, rfl, trivial⟩
theorem cs_387 (hd : 6 ≤ d) (hS : mz_extR S 232) (hR : mz_rok R 232)  (N : mz_N) (b : Bool) (hp : cp_387_0 N b) (hq : Q (.inl (some (.int (mz_b01 ((cf_387_0 N b).1))))) (mz_k S R ((cf_387_0 N b).2) b t)) : mz_Ed (mz_X0 L xs) d 387 [.ref 1] (mz_k S R N b t) Q :=
  by
  refine g_in mzq_387 (Nat.le_of_ble_eq_true rfl) (Nat.le_of_ble_eq_true rfl) (Nat.le_trans (Nat.le_of_ble_eq_true rfl) hd) ?_
  refine g_weak ?_ (cg_387_0 (d := d - 1) (by omega) hS hR N b (C0 := fun z => Q (.inl (some (.int (mz_b01 z.1)))) (mz_k S R z.2 b t)) (fun _ _ h => h) hp hq)
  exact ⟨rfl, trivial⟩
/-! 385 KeptHouse$Keeper.judgeReel ()I -/
theorem ms_385_0 : mz_sf mk_385 0 = mk_385 := mz_sf_zero _
theorem ms_385_10 : mz_sf mk_385 10 = mt_385_10 := mz_sf_add ms_385_0 (t := 10) rfl rfl
theorem ms_385_28 : mz_sf mk_385 28 = mt_385_28 := mz_sf_add ms_385_10 (t := 18) rfl rfl
theorem ms_385_44 : mz_sf mk_385 44 = mt_385_44 := mz_sf_add ms_385_28 (t := 16) rfl rfl
theorem ms_385_76 : mz_sf mk_385 76 = mt_385_76 := mz_sf_add ms_385_44 (t := 32) rfl rfl
theorem ms_385_78 : mz_sf mk_385 78 = mt_385_78 := mz_sf_add ms_385_76 (t := 2) rfl rfl
theorem ms_385_88 : mz_sf mk_385 88 = mt_385_88 := mz_sf_add ms_385_78 (t := 10) rfl rfl
theorem ms_385_99 : mz_sf mk_385 99 = mt_385_99 := mz_sf_add ms_385_88 (t := 11) rfl rfl
theorem ms_385_100 : mz_sf mk_385 100 = mt_385_100 := mz_sf_add ms_385_99 (t := 1) rfl rfl
set_option maxRecDepth 100000 in
theorem mzq_385 : mz_PG0 385 = some (4, ⟨"KeptHouse$Keeper", "judgeReel", "()I"⟩, prog_6_method_12_code, 2, some .int, [], mk_385, []) := rfl
theorem cg_385_99 (hd : 6 ≤ d) (hS : mz_extR S 232) (hR : mz_rok R 232)  (N : mz_N) (b : Bool) {C0 : (Int32 × mz_N) → Prop} (hr : ∀ (w : Int32) (N2 : mz_N), C0 (w, N2) → Q (.inl (some (.int w))) (mz_k S R N2 b t)) (hp : cp_385_99 N b) (hC : C0 (cf_385_99 N b)) : mz_G (d, mz_X0 L xs, some .int, [], mk_385, 2, Q) 99 mt_385_99 [] [] false (mz_k S R N b t) := by
  unfold cf_385_99 at hC
  unfold cp_385_99 at hp
  refine g_iconst mzi_4 ?_
  exact g_iret rfl (hr _ _ hC)
theorem cg_385_0 (hd : 6 ≤ d) (hS : mz_extR S 232) (hR : mz_rok R 232)  (N : mz_N) (b : Bool) {C0 : (Int32 × mz_N) → Prop} (hr : ∀ (w : Int32) (N2 : mz_N), C0 (w, N2) → Q (.inl (some (.int w))) (mz_k S R N2 b t)) (hp : cp_385_0 N b) (hC : C0 (cf_385_0 N b)) : mz_G (d, mz_X0 L xs, some .int, [], mk_385, 2, Q) 0 mk_385 [(0, .ref 1)] [] true (mz_k S R N b t) := by
  unfold cf_385_0 at hC
  unfold cp_385_0 at hp
  refine g_aload_n rfl (g_getI (mz_at hS (Nat.le_of_ble_eq_true rfl) mzcS_1) mzcf_4_12 (g_iconst mzi_2 ?_))
  refine g_icge (tg := 10) rfl ms_385_10 hC (fun h1 hC => ?_) (fun h1 hC => ?_)
  · have hp := hp.1 h1
    refine g_iconst mzi_1 ?_
    exact g_iret rfl (hr _ _ hC)
  · have hp := hp.2 h1
    refine g_aload_n rfl (g_getR (mz_at hS (Nat.le_of_ble_eq_true rfl) mzcS_1) mzcf_4_11 (mz_rb hR (Nat.le_of_ble_eq_true rfl) rfl mzcR_1_11) (g_iconst mzi_0 (g_iald hS.1 (mz_at hS (Nat.le_of_ble_eq_true rfl) mzcS_229) (mz_ibd (by decide)) (g_sipush mzs_256 (g_aload_n rfl (g_getR (mz_at hS (Nat.le_of_ble_eq_true rfl) mzcS_1) mzcf_4_11 (mz_rb hR (Nat.le_of_ble_eq_true rfl) rfl mzcR_1_11) (g_iconst mzi_1 ?_)))))))
    refine g_iald hS.1 (mz_at hS (Nat.le_of_ble_eq_true rfl) mzcS_229) (mz_ibd (by decide)) (g_imul (g_iadd (g_istore_n (Nat.le_of_ble_eq_true rfl) rfl (g_aload_n rfl (g_getI (mz_at hS (Nat.le_of_ble_eq_true rfl) mzcS_1) mzcf_4_12 (g_bipush mzb_6 (g_iload_n rfl ?_)))))))
    refine g_bipush mzb_30 (g_imul (g_iadd ?_))
    refine g_iceq (tg := 44) rfl ms_385_44 hC (fun h2 hC => ?_) (fun h2 hC => ?_)
    · have hp := hp.1 h2
      refine g_aload_n rfl (g_getR (mz_at hS (Nat.le_of_ble_eq_true rfl) mzcS_1) mzcf_4_11 (mz_rb hR (Nat.le_of_ble_eq_true rfl) rfl mzcR_1_11) (g_iconst mzi_0 (g_aload_n rfl (g_getI (mz_at hS (Nat.le_of_ble_eq_true rfl) mzcS_1) mzcf_4_12 (g_iconst mzi_4 (g_isub ?_))))))
      obtain ⟨h3, hp⟩ := hp
      refine g_s3v (Nat.le_of_ble_eq_true rfl) (fun _ hq => cs_16 (Nat.le_trans (Nat.le_of_ble_eq_true rfl) hd) (hS.le (Nat.le_of_ble_eq_true rfl)) (mz_rs_of hR (Nat.le_of_ble_eq_true rfl)) 229 4100 (mz_at hS (Nat.le_of_ble_eq_true rfl) mzcS_229) 0 ((N.1 1 12) - 4) N h3 hq) (g_aload_n rfl (g_getR (mz_at hS (Nat.le_of_ble_eq_true rfl) mzcS_1) mzcf_4_11 (mz_rb hR (Nat.le_of_ble_eq_true rfl) rfl mzcR_1_11) (g_aload_n rfl (g_getI (mz_at hS (Nat.le_of_ble_eq_true rfl) mzcS_1) mzcf_4_12 (g_iconst mzi_4 (g_isub (g_iconst mzi_4 ?_)))))))
      obtain ⟨h4, hp⟩ := hp
      refine g_s3v (Nat.le_of_ble_eq_true rfl) (fun _ hq => cs_61 (Nat.le_trans (Nat.le_of_ble_eq_true rfl) hd) (hS.le (Nat.le_of_ble_eq_true rfl)) (hR.le (Nat.le_of_ble_eq_true rfl)) 229 4100 (mz_at hS (Nat.le_of_ble_eq_true rfl) mzcS_229) ((N.1 1 12) - 4) 4 N h4 hq) (g_l2i ?_)
      refine g_iceq (tg := 78) rfl ms_385_78 hC (fun h5 hC => ?_) (fun h5 hC => ?_)
      · have hp := hp.1 h5
        refine g_aload_n rfl (g_iload_n rfl ?_)
        obtain ⟨h6, hp⟩ := hp
        refine g_v2v (Nat.le_of_ble_eq_true rfl) (mz_at hS (Nat.le_of_ble_eq_true rfl) mzcS_1) (fun _ hq => cs_386 (Nat.le_trans (Nat.le_of_ble_eq_true rfl) hd) (hS.le (Nat.le_of_ble_eq_true rfl)) (hR.le (Nat.le_of_ble_eq_true rfl))  ((mz_gI N 229 0) + (256 * (mz_gI N 229 1))) N h6 hq) ?_
        refine g_zne (tg := 88) rfl ms_385_88 hC (fun h7 hC => ?_) (fun h7 hC => ?_)
        · have hp := hp.1 h7
          refine g_aload_n rfl ?_
          obtain ⟨h8, hp⟩ := hp
          refine g_v1v (Nat.le_of_ble_eq_true rfl) (mz_at hS (Nat.le_of_ble_eq_true rfl) mzcS_1) (fun _ hq => cs_387 (Nat.le_trans (Nat.le_of_ble_eq_true rfl) hd) (hS.le (Nat.le_of_ble_eq_true rfl)) (hR.le (Nat.le_of_ble_eq_true rfl))  ((cf_386_0 ((mz_gI N 229 0) + (256 * (mz_gI N 229 1))) N).2) b h8 hq) ?_
          refine g_zeq (tg := 99) rfl ms_385_99 hC (fun h9 hC => ?_) (fun h9 hC => ?_)
          · have hp := hp.1 h9
            refine g_iconst mzi_0 (g_goto (tg := 100) rfl ms_385_100 ?_)
            exact g_iret rfl (hr _ _ hC)
          · have hp := hp.2 h9
            refine g_weak ?_ (g_cl (cg_385_99 hd hS hR ((cf_387_0 ((cf_386_0 ((mz_gI N 229 0) + (256 * (mz_gI N 229 1))) N).2) b).2) b hr hp hC))
            exact trivial
        · have hp := hp.2 h7
          refine g_iconst mzi_3 ?_
          exact g_iret rfl (hr _ _ hC)
      · have hp := hp.2 h5
        refine g_iconst mzi_2 ?_
        exact g_iret rfl (hr _ _ hC)
    · have hp := hp.2 h2
      refine g_iconst mzi_1 ?_
      exact g_iret rfl (hr _ _ hC)
theorem cs_385 (hd : 7 ≤ d) (hS : mz_extR S 232) (hR : mz_rok R 232)  (N : mz_N) (b : Bool) (hp : cp_385_0 N b) (hq : Q (.inl (some (.int ((cf_385_0 N b).1)))) (mz_k S R ((cf_385_0 N b).2) b t)) : mz_Ed (mz_X0 L xs) d 385 [.ref 1] (mz_k S R N b t) Q :=
  by
  refine g_in mzq_385 (Nat.le_of_ble_eq_true rfl) (Nat.le_of_ble_eq_true rfl) (Nat.le_trans (Nat.le_of_ble_eq_true rfl) hd) ?_
  refine g_weak ?_ (cg_385_0 (d := d - 1) (by omega) hS hR N b (C0 := fun z => Q (.inl (some (.int z.1))) (mz_k S R z.2 b t)) (fun _ _ h => h) hp hq)
  exact ⟨rfl, trivial⟩
/-! 407 KeptHouse$Store.replaceKeys ([I[I)V -/
theorem ms_407_0 : mz_sf mk_407 0 = mk_407 := mz_sf_zero _
theorem ms_407_26 : mz_sf mk_407 26 = mt_407_26 := mz_sf_add ms_407_0 (t := 26) rfl rfl
set_option maxRecDepth 100000 in
theorem mzq_407 : mz_PG0 407 = some (8, ⟨"KeptHouse$Store", "replaceKeys", "([I[I)V"⟩, prog_10_method_17_code, 3, none, [], mk_407, []) := rfl
theorem cg_407_0 (hd : 0 ≤ d) (hS : mz_extR S 232) (hR : mz_rok R 232)  (N : mz_N) {C0 : (mz_N) → Prop} (hr : ∀ (N2 : mz_N), C0 N2 → Q (.inl none) (mz_k S R N2 b t)) (hp : cp_407_0 N) (hC : C0 (cf_407_0 N)) : mz_G (d, mz_X0 L xs, none, [], mk_407, 3, Q) 0 mk_407 [(0, .ref 219), (1, .ref 230), (2, .ref 231)] [] true (mz_k S R N b t) := by
  unfold cf_407_0 at hC
  unfold cp_407_0 at hp
  refine g_aload_n rfl (g_iconst mzi_0 (g_aload_n rfl (g_getR (mz_at hS (Nat.le_of_ble_eq_true rfl) mzcS_219) mzcf_8_1 (mz_rb hR (Nat.le_of_ble_eq_true rfl) rfl mzcR_219_1) (g_iconst mzi_0 (g_sipush mzs_3780 (g_cpI (Nat.le_of_ble_eq_true rfl) (mz_at hS (Nat.le_of_ble_eq_true rfl) mzcS_230) (mz_at hS (Nat.le_of_ble_eq_true rfl) mzcS_223) (mz_cpd (by decide)) (g_aload_n rfl ?_)))))))
  refine g_iconst mzi_0 (g_aload_n rfl (g_getR (mz_at hS (Nat.le_of_ble_eq_true rfl) mzcS_219) mzcf_8_2 (mz_rb hR (Nat.le_of_ble_eq_true rfl) rfl mzcR_219_2) (g_iconst mzi_0 (g_sipush mzs_135 (g_cpI (Nat.le_of_ble_eq_true rfl) (mz_at hS (Nat.le_of_ble_eq_true rfl) mzcS_231) (mz_at hS (Nat.le_of_ble_eq_true rfl) mzcS_224) (mz_cpd (by decide)) ?_)))))
  exact g_vret rfl (hr _ hC)
theorem cs_407 (hd : 1 ≤ d) (hS : mz_extR S 232) (hR : mz_rok R 232)  (N : mz_N) (hp : cp_407_0 N) (hq : Q (.inl none) (mz_k S R (cf_407_0 N) b t)) : mz_Ed (mz_X0 L xs) d 407 [.ref 219, .ref 230, .ref 231] (mz_k S R N b t) Q :=
  by
  refine g_in mzq_407 (Nat.le_of_ble_eq_true rfl) (Nat.le_of_ble_eq_true rfl) (Nat.le_trans (Nat.le_of_ble_eq_true rfl) hd) ?_
  refine g_weak ?_ (cg_407_0 (d := d - 1) (by omega) hS hR N (C0 := fun z => Q (.inl none) (mz_k S R z b t)) (fun _ h => h) hp hq)
  exact ⟨rfl, rfl, rfl, trivial⟩
/-! 406 KeptHouse$Keeper.takeReel ()Z -/
theorem ms_406_0 : mz_sf mk_406 0 = mk_406 := mz_sf_zero _
theorem ms_406_20 : mz_sf mk_406 20 = mt_406_20 := mz_sf_add ms_406_0 (t := 20) rfl rfl
set_option maxRecDepth 100000 in
theorem mzq_406 : mz_PG0 406 = some (4, ⟨"KeptHouse$Keeper", "takeReel", "()Z"⟩, prog_6_method_17_code, 1, some .boolean, [], mk_406, []) := rfl
theorem cg_406_0 (hd : 3 ≤ d) (hS : mz_extR S 232) (hR : mz_rok R 232)  (N : mz_N) {C0 : (Bool × mz_N) → Prop} (hr : ∀ (w : Bool) (N2 : mz_N), C0 (w, N2) → Q (.inl (some (.int (mz_b01 w)))) (mz_k S R N2 b t)) (hp : cp_406_0 N) (hC : C0 (cf_406_0 N)) : mz_G (d, mz_X0 L xs, some .boolean, [], mk_406, 1, Q) 0 mk_406 [(0, .ref 1)] [] true (mz_k S R N b t) := by
  unfold cf_406_0 at hC
  unfold cp_406_0 at hp
  refine g_aload_n rfl (g_getR (mz_at hS (Nat.le_of_ble_eq_true rfl) mzcS_1) mzcf_4_8 (mz_rb hR (Nat.le_of_ble_eq_true rfl) rfl mzcR_1_8) (g_aload_n rfl (g_getR (mz_at hS (Nat.le_of_ble_eq_true rfl) mzcS_1) mzcf_4_13 (mz_rb hR (Nat.le_of_ble_eq_true rfl) rfl mzcR_1_13) (g_aload_n rfl (g_getR (mz_at hS (Nat.le_of_ble_eq_true rfl) mzcS_1) mzcf_4_14 (mz_rb hR (Nat.le_of_ble_eq_true rfl) rfl mzcR_1_14) ?_)))))
  have h1 := hp
  refine g_v3v (Nat.le_of_ble_eq_true rfl) (mz_at hS (Nat.le_of_ble_eq_true rfl) mzcS_219) (fun _ hq => cs_137 (Nat.le_trans (Nat.le_of_ble_eq_true rfl) hd) (hS.le (Nat.le_of_ble_eq_true rfl)) (hR.le (Nat.le_of_ble_eq_true rfl)) 230 231 (mz_at hS (Nat.le_of_ble_eq_true rfl) mzcS_230) (mz_at hS (Nat.le_of_ble_eq_true rfl) mzcS_231) N h1 hq) ?_
  refine g_zne (tg := 20) rfl ms_406_20 hC (fun h2 hC => ?_) (fun h2 hC => ?_)
  · refine g_aload_n rfl (g_getR (mz_at hS (Nat.le_of_ble_eq_true rfl) mzcS_1) mzcf_4_8 (mz_rb hR (Nat.le_of_ble_eq_true rfl) rfl mzcR_1_8) (g_aload_n rfl (g_getR (mz_at hS (Nat.le_of_ble_eq_true rfl) mzcS_1) mzcf_4_13 (mz_rb hR (Nat.le_of_ble_eq_true rfl) rfl mzcR_1_13) (g_aload_n rfl (g_getR (mz_at hS (Nat.le_of_ble_eq_true rfl) mzcS_1) mzcf_4_14 (mz_rb hR (Nat.le_of_ble_eq_true rfl) rfl mzcR_1_14) ?_)))))
    refine g_v3n (Nat.le_of_ble_eq_true rfl) (mz_at hS (Nat.le_of_ble_eq_true rfl) mzcS_219) (fun _ hq => cs_407 (Nat.le_trans (Nat.le_of_ble_eq_true rfl) hd) (hS.le (Nat.le_of_ble_eq_true rfl)) (hR.le (Nat.le_of_ble_eq_true rfl))  ((cf_137_0 230 231 N).2) trivial hq) (g_iconst mzi_1 ?_)
    exact g_zret (z := true) rfl (hr _ _ hC)
  · refine g_iconst mzi_0 ?_
    exact g_zret (z := false) rfl (hr _ _ hC)
theorem cs_406 (hd : 4 ≤ d) (hS : mz_extR S 232) (hR : mz_rok R 232)  (N : mz_N) (hp : cp_406_0 N) (hq : Q (.inl (some (.int (mz_b01 ((cf_406_0 N).1))))) (mz_k S R ((cf_406_0 N).2) b t)) : mz_Ed (mz_X0 L xs) d 406 [.ref 1] (mz_k S R N b t) Q :=
  by
  refine g_in mzq_406 (Nat.le_of_ble_eq_true rfl) (Nat.le_of_ble_eq_true rfl) (Nat.le_trans (Nat.le_of_ble_eq_true rfl) hd) ?_
  refine g_weak ?_ (cg_406_0 (d := d - 1) (by omega) hS hR N (C0 := fun z => Q (.inl (some (.int (mz_b01 z.1)))) (mz_k S R z.2 b t)) (fun _ _ h => h) hp hq)
  exact ⟨rfl, trivial⟩
/-! 384 KeptHouse.put ()I -/
theorem ms_384_0 : mz_sf mk_384 0 = mk_384 := mz_sf_zero _
theorem ms_384_18 : mz_sf mk_384 18 = mt_384_18 := mz_sf_add ms_384_0 (t := 18) rfl rfl
theorem ms_384_32 : mz_sf mk_384 32 = mt_384_32 := mz_sf_add ms_384_18 (t := 14) rfl rfl
set_option maxRecDepth 100000 in
theorem mzq_384 : mz_PG0 384 = some (11, ⟨"KeptHouse", "put", "()I"⟩, prog_1_method_72_code, 2, some .int, [], mk_384, []) := rfl
theorem cg_384_0 (hd : 7 ≤ d) (hS : mz_extR S 232) (hR : mz_rok R 232)  (N : mz_N) (b : Bool) {C0 : (Nat × Int32 × mz_N × Bool) → Prop} (hr : ∀ (w : Int32) (N2 : mz_N) (b2 : Bool), C0 (0, w, N2, b2) → Q (.inl (some (.int w))) (mz_k S R N2 b2 t)) (ht : ∀ (c : Nat) (w : Int32) (N2 : mz_N) (b2 : Bool), ¬ c = 0 → C0 (c, w, N2, b2) → Q (.inr (c - 1)) (mz_k S R N2 b2 (t + 1))) (h1000 : t < 1000) (hp : cp_384_0 N b) (hC : C0 (cf_384_0 N b)) : mz_G (d, mz_X0 L xs, some .int, [], mk_384, 2, Q) 0 mk_384 [(0, .ref 0)] [] true (mz_k S R N b t) := by
  unfold cf_384_0 at hC
  unfold cp_384_0 at hp
  refine g_aload_n rfl ?_
  obtain ⟨h1, hp⟩ := hp
  refine g_v1nt (Nat.le_of_ble_eq_true rfl) (mz_at hS (Nat.le_of_ble_eq_true rfl) mzcS_0) rfl (fun _ hz0 hz1 => cs_104 (Nat.le_trans (Nat.le_of_ble_eq_true rfl) hd) (hS.le (Nat.le_of_ble_eq_true rfl)) (hR.le (Nat.le_of_ble_eq_true rfl))  N h1 h1000 hz0 hz1) hC (fun h7 hC => ?_) (fun h7 hC => ?_)
  · have hp := hp.1 h7
    refine g_aload_n rfl (g_getR (mz_at hS (Nat.le_of_ble_eq_true rfl) mzcS_0) mzcf_11_0 (mz_rb hR (Nat.le_of_ble_eq_true rfl) rfl mzcR_0_0) ?_)
    obtain ⟨h2, hp⟩ := hp
    refine g_v1v (Nat.le_of_ble_eq_true rfl) (mz_at hS (Nat.le_of_ble_eq_true rfl) mzcS_1) (fun _ hq => cs_385 (Nat.le_trans (Nat.le_of_ble_eq_true rfl) hd) (hS.le (Nat.le_of_ble_eq_true rfl)) (hR.le (Nat.le_of_ble_eq_true rfl))  N b h2 hq) (g_istore_n (Nat.le_of_ble_eq_true rfl) rfl (g_iload_n rfl ?_))
    refine g_ifeq (tg := 18) rfl ms_384_18 hC (fun h3 hC => ?_) (fun h3 hC => ?_)
    · have hp := hp.1 h3
      refine g_aload_n rfl (g_getR (mz_at hS (Nat.le_of_ble_eq_true rfl) mzcS_0) mzcf_11_0 (mz_rb hR (Nat.le_of_ble_eq_true rfl) rfl mzcR_0_0) ?_)
      obtain ⟨h4, hp⟩ := hp
      refine g_v1v (Nat.le_of_ble_eq_true rfl) (mz_at hS (Nat.le_of_ble_eq_true rfl) mzcS_1) (fun _ hq => cs_406 (Nat.le_trans (Nat.le_of_ble_eq_true rfl) hd) (hS.le (Nat.le_of_ble_eq_true rfl)) (hR.le (Nat.le_of_ble_eq_true rfl))  ((cf_385_0 N b).2) h4 hq) ?_
      refine g_zne (tg := 32) rfl ms_384_32 hC (fun h5 hC => ?_) (fun h5 hC => ?_)
      · have hp := hp.1 h5
        refine g_aload_n rfl (g_getR (mz_at hS (Nat.le_of_ble_eq_true rfl) mzcS_0) mzcf_11_0 (mz_rb hR (Nat.le_of_ble_eq_true rfl) rfl mzcR_0_0) ?_)
        have h6 := hp
        refine g_v1n (Nat.le_of_ble_eq_true rfl) (mz_at hS (Nat.le_of_ble_eq_true rfl) mzcS_1) (fun _ hq => cs_17 (Nat.le_trans (Nat.le_of_ble_eq_true rfl) hd) (hS.le (Nat.le_of_ble_eq_true rfl)) (hR.le (Nat.le_of_ble_eq_true rfl))  ((cf_406_0 ((cf_385_0 N b).2)).2) b h6 hq) (g_iconst mzi_0 ?_)
        exact g_iret rfl (hr _ _ _ hC)
      · have hp := hp.2 h5
        refine g_sipush mzs_m1001 ?_
        exact g_iret rfl (hr _ _ _ hC)
    · have hp := hp.2 h3
      refine g_iload_n rfl ?_
      exact g_iret rfl (hr _ _ _ hC)
  · have hp := hp.2 h7
    exact ht _ _ _ _ h7 hC
theorem cs_384 (hd : 8 ≤ d) (hS : mz_extR S 232) (hR : mz_rok R 232)  (N : mz_N) (b : Bool) (hp : cp_384_0 N b) (h1000 : t < 1000) (h0 : (cf_384_0 N b).1 = 0 → Q (.inl (some (.int ((cf_384_0 N b).2.1)))) (mz_k S R ((cf_384_0 N b).2.2.1) ((cf_384_0 N b).2.2.2) t)) (h1 : ¬ (cf_384_0 N b).1 = 0 → Q (.inr (((cf_384_0 N b).1) - 1)) (mz_k S R ((cf_384_0 N b).2.2.1) ((cf_384_0 N b).2.2.2) (t + 1))) : mz_Ed (mz_X0 L xs) d 384 [.ref 0] (mz_k S R N b t) Q :=
  by
  refine g_in mzq_384 (Nat.le_of_ble_eq_true rfl) (Nat.le_of_ble_eq_true rfl) (Nat.le_trans (Nat.le_of_ble_eq_true rfl) hd) ?_
  refine g_weak ?_ (cg_384_0 (d := d - 1) (by omega) hS hR N b (C0 := fun z => (z.1 = 0 → Q (.inl (some (.int z.2.1))) (mz_k S R z.2.2.1 z.2.2.2 t)) ∧ (¬ z.1 = 0 → Q (.inr (z.1 - 1)) (mz_k S R z.2.2.1 z.2.2.2 (t + 1)))) (fun _ _ _ h => h.1 rfl) (fun c _ _ _ hc h => h.2 hc) h1000 hp ⟨h0, h1⟩)
  exact ⟨rfl, trivial⟩
/-! 383 KeptHouseLaw.put (LKeptHouse;[J)I -/
theorem ms_383_0 : mz_sf mk_383 0 = mk_383 := mz_sf_zero _
theorem ms_383_12 : mz_sf mk_383 12 = mt_383_12 := mz_sf_add ms_383_0 (t := 12) rfl rfl
theorem ms_383_14 : mz_sf mk_383 14 = mt_383_14 := mz_sf_add ms_383_12 (t := 2) rfl rfl
set_option maxRecDepth 100000 in
theorem mzq_383 : mz_PG0 383 = some (13, ⟨"KeptHouseLaw", "put", "(LKeptHouse;[J)I"⟩, method_66_code, 3, some .int, [(0, 8, 11, 15)], mk_383, [(1, 11, 12)]) := rfl
theorem cg_383_0 (hd : 8 ≤ d) (hS : mz_extR S 343) (hR : mz_rok R 343)  (N : mz_N) (b : Bool) (t : Nat) {C0 : (Int32 × mz_N × Bool × Nat) → Prop} (hr : ∀ (w : Int32) (N2 : mz_N) (b2 : Bool) (t2 : Nat), C0 (w, N2, b2, t2) → Q (.inl (some (.int w))) (mz_k S R N2 b2 t2)) (hp : cp_383_0 N b t) (hC : C0 (cf_383_0 N b t)) : mz_G (d, mz_X0 L xs, some .int, [(1, 11, 12)], mk_383, 3, Q) 0 mk_383 [(0, .ref 0), (1, .ref 342)] [] true (mz_k S R N b t) := by
  unfold cf_383_0 at hC
  unfold cp_383_0 at hp
  refine g_aload_n rfl (g_iconst mzi_0 (g_aload_n rfl ?_))
  obtain ⟨h1, hp⟩ := hp
  obtain ⟨h1000, hp⟩ := hp
  refine g_v1vh (Nat.le_of_ble_eq_true rfl) (mz_at hS (Nat.le_of_ble_eq_true rfl) mzcS_0) (fun _ hz0 hz1 => cs_384 (Nat.le_trans (Nat.le_of_ble_eq_true rfl) hd) (hS.le (Nat.le_of_ble_eq_true rfl)) (hR.le (Nat.le_of_ble_eq_true rfl))  N b h1 h1000 hz0 hz1) hC (fun h2 hC => ?_) (fun h2 hC => ?_)
  · have hp := hp.1 h2
    refine g_i2l (g_last (mz_at hS (Nat.le_of_ble_eq_true rfl) mzcS_342) (mz_ibd (by decide)) (g_goto (tg := 14) rfl ms_383_14 (g_iconst mzi_0 ?_)))
    exact g_iret rfl (hr _ _ _ _ hC)
  · have hp := hp.2 h2
    have h4 := hp
    refine ⟨(1, 11, 12), (by rw [h4]; rfl), ?_⟩
    show mz_G (d, mz_X0 L xs, some .int, [(1, 11, 12)], mk_383, 3, Q) 12 (mz_sf mk_383 12) [] [] false (mz_k S R ((cf_384_0 N b).2.2.1) ((cf_384_0 N b).2.2.2) (t + 1))
    rw [ms_383_12]
    refine g_iconst mzi_1 ?_
    exact g_iret rfl (hr _ _ _ _ hC)
theorem cs_383 (hd : 9 ≤ d) (hS : mz_extR S 343) (hR : mz_rok R 343)  (N : mz_N) (b : Bool) (t : Nat) (hp : cp_383_0 N b t) (hq : Q (.inl (some (.int ((cf_383_0 N b t).1)))) (mz_k S R ((cf_383_0 N b t).2.1) ((cf_383_0 N b t).2.2.1) ((cf_383_0 N b t).2.2.2))) : mz_Ed (mz_X0 L xs) d 383 [.ref 0, .ref 342] (mz_k S R N b t) Q :=
  by
  refine g_in mzq_383 (Nat.le_of_ble_eq_true rfl) (Nat.le_of_ble_eq_true rfl) (Nat.le_trans (Nat.le_of_ble_eq_true rfl) hd) ?_
  refine g_weak ?_ (cg_383_0 (d := d - 1) (by omega) hS hR N b t (C0 := fun z => Q (.inl (some (.int z.1))) (mz_k S R z.2.1 z.2.2.1 z.2.2.2)) (fun _ _ _ _ h => h) hp hq)
  exact ⟨rfl, rfl, trivial⟩
/-! 410 KeptHouseModel.set (IIJ)V -/
theorem ms_410_0 : mz_sf mk_410 0 = mk_410 := mz_sf_zero _
theorem ms_410_3 : mz_sf mk_410 3 = mt_410_3 := mz_sf_add ms_410_0 (t := 3) rfl rfl
theorem ms_410_27 : mz_sf mk_410 27 = mt_410_27 := mz_sf_add ms_410_3 (t := 24) rfl rfl
theorem ms_410_33 : mz_sf mk_410 33 = mt_410_33 := mz_sf_add ms_410_27 (t := 6) rfl rfl
set_option maxRecDepth 100000 in
theorem mzq_410 : mz_PG0 410 = some (12, ⟨"KeptHouseModel", "set", "(IIJ)V"⟩, prog_14_method_165_code, 6, none, [], mk_410, []) := rfl
theorem cg_410_27 (hd : 0 ≤ d) (hS : mz_extR S 342) (hR : mz_rok R 342)  (v1 : Int32) (v2 : Int32) (v3 : Int64) (v5 : Int32) (N : mz_N) {C0 : (mz_N) → Prop} (hr : ∀ (N2 : mz_N), C0 N2 → Q (.inl none) (mz_k S R N2 b t)) {C1 : ((Int32 × mz_N) ⊕ (mz_N)) → Prop} (hc1 : ∀ s2, C1 (.inl s2) → mz_G (d, mz_X0 L xs, none, [], mk_410, 6, Q) 3 mt_410_3 [(0, .ref 232), (1, .int v1), (2, .int v2), (3, .long v3), (5, .int s2.1)] [] false (mz_k S R s2.2 b t)) (hx1 : ∀ z, C1 (.inr z) → C0 z) (hp : cp_410_27 v1 v2 v3 v5 N) (hC : C1 (cf_410_27 v1 v2 v3 v5 N)) : mz_G (d, mz_X0 L xs, none, [], mk_410, 6, Q) 27 mt_410_27 [(0, .ref 232), (1, .int v1), (2, .int v2), (3, .long v3), (5, .int v5)] [] false (mz_k S R N b t) := by
  unfold cf_410_27 at hC
  unfold cp_410_27 at hp
  refine g_iinc rfl mzi_1 (Nat.le_of_ble_eq_true rfl) rfl (g_goto (tg := 3) rfl ms_410_3 ?_)
  refine g_weak ?_ (g_cl (hc1 ((v5 + 1), N) hC))
  exact ⟨rfl, rfl, rfl, rfl, rfl, trivial⟩
theorem cb_410_3 (hd : 0 ≤ d) (hS : mz_extR S 342) (hR : mz_rok R 342)  (v1 : Int32) (v2 : Int32) (v3 : Int64) (s : Int32 × mz_N) {C0 : (mz_N) → Prop} (hr : ∀ (N2 : mz_N), C0 N2 → Q (.inl none) (mz_k S R N2 b t)) {C1 : ((Int32 × mz_N) ⊕ (mz_N)) → Prop} (hc1 : ∀ s2, C1 (.inl s2) → mz_G (d, mz_X0 L xs, none, [], mk_410, 6, Q) 3 mt_410_3 [(0, .ref 232), (1, .int v1), (2, .int v2), (3, .long v3), (5, .int s2.1)] [] false (mz_k S R s2.2 b t)) (hx1 : ∀ z, C1 (.inr z) → C0 z) (hp : cd_410_3 v1 v2 v3 s) (hC : C1 (cq_410_3 v1 v2 v3 s)) : mz_G (d, mz_X0 L xs, none, [], mk_410, 6, Q) 3 mt_410_3 [(0, .ref 232), (1, .int v1), (2, .int v2), (3, .long v3), (5, .int s.1)] [] false (mz_k S R s.2 b t) := by
  unfold cq_410_3 at hC
  unfold cd_410_3 at hp
  refine g_iload rfl (g_iload_n rfl ?_)
  refine g_icge (tg := 33) rfl ms_410_33 hC (fun h1 hC => ?_) (fun h1 hC => ?_)
  · have hp := hp.1 h1
    refine g_aload_n rfl (g_getR (mz_at hS (Nat.le_of_ble_eq_true rfl) mzcS_232) mzcf_12_132 (mz_rb hR (Nat.le_of_ble_eq_true rfl) rfl mzcR_232_132) (g_iload_n rfl (g_iload rfl (g_iadd (g_lload_n rfl (g_bipush mzb_8 (g_iload rfl ?_)))))))
    refine g_imul (g_lshr (g_l2i (g_i2b ?_)))
    obtain ⟨h2, hp⟩ := hp
    refine g_bast (mz_at hS (Nat.le_of_ble_eq_true rfl) mzcS_332) h2 ?_
    refine g_weak ?_ (g_cl (cg_410_27 hd hS hR v1 v2 v3 s.1 (mz_wI s.2 332 (v1 + s.1) (mz_nb (mz_i2b ((mz_lshr v3 (8 * s.1)).toInt32)))) hr hc1 hx1 hp hC))
    exact ⟨rfl, rfl, rfl, rfl, rfl, trivial⟩
  · have hp := hp.2 h1
    exact g_vret rfl (hr _ (hx1 _ hC))
theorem cg_410_3 (hd : 0 ≤ d) (hS : mz_extR S 342) (hR : mz_rok R 342)  (v1 : Int32) (v2 : Int32) (v3 : Int64) (v5 : Int32) (N : mz_N) {C0 : (mz_N) → Prop} (hr : ∀ (N2 : mz_N), C0 N2 → Q (.inl none) (mz_k S R N2 b t)) (hp : cp_410_3 v1 v2 v3 v5 N) (hC : C0 (cf_410_3 v1 v2 v3 v5 N)) : mz_G (d, mz_X0 L xs, none, [], mk_410, 6, Q) 3 mt_410_3 [(0, .ref 232), (1, .int v1), (2, .int v2), (3, .long v3), (5, .int v5)] [] false (mz_k S R N b t) := by
  obtain ⟨n, hn⟩ := hp
  exact g_loop (G := fun s => mz_G (d, mz_X0 L xs, none, [], mk_410, 6, Q) 3 mt_410_3 [(0, .ref 232), (1, .int v1), (2, .int v2), (3, .long v3), (5, .int s.1)] [] false (mz_k S R s.2 b t)) (C := C0) (fun C2 hc hx s hP hC => cb_410_3 hd hS hR v1 v2 v3 s hr hc hx hP hC) n (v5, N) hn hC
theorem cg_410_0 (hd : 0 ≤ d) (hS : mz_extR S 342) (hR : mz_rok R 342)  (v1 : Int32) (v2 : Int32) (v3 : Int64) (N : mz_N) {C0 : (mz_N) → Prop} (hr : ∀ (N2 : mz_N), C0 N2 → Q (.inl none) (mz_k S R N2 b t)) (hp : cp_410_0 v1 v2 v3 N) (hC : C0 (cf_410_0 v1 v2 v3 N)) : mz_G (d, mz_X0 L xs, none, [], mk_410, 6, Q) 0 mk_410 [(0, .ref 232), (1, .int v1), (2, .int v2), (3, .long v3)] [] true (mz_k S R N b t) := by
  unfold cf_410_0 at hC
  unfold cp_410_0 at hp
  refine g_iconst mzi_0 (g_istore (Nat.le_of_ble_eq_true rfl) rfl ?_)
  refine g_weak ?_ (g_cl (cg_410_3 hd hS hR v1 v2 v3 0 N hr hp hC))
  exact ⟨rfl, rfl, rfl, rfl, rfl, trivial⟩
theorem cs_410 (hd : 1 ≤ d) (hS : mz_extR S 342) (hR : mz_rok R 342)  (v1 : Int32) (v2 : Int32) (v3 : Int64) (N : mz_N) (hp : cp_410_0 v1 v2 v3 N) (hq : Q (.inl none) (mz_k S R (cf_410_0 v1 v2 v3 N) b t)) : mz_Ed (mz_X0 L xs) d 410 [.ref 232, .int v1, .int v2, .long v3] (mz_k S R N b t) Q :=
  by
  refine g_in mzq_410 (Nat.le_of_ble_eq_true rfl) (Nat.le_of_ble_eq_true rfl) (Nat.le_trans (Nat.le_of_ble_eq_true rfl) hd) ?_
  refine g_weak ?_ (cg_410_0 (d := d - 1) (by omega) hS hR v1 v2 v3 N (C0 := fun z => Q (.inl none) (mz_k S R z b t)) (fun _ h => h) hp hq)
  exact ⟨rfl, rfl, rfl, rfl, trivial⟩
/-! 412 KeptHouseModel.setIn ([BIIJ)V -/
theorem ms_412_0 : mz_sf mk_412 0 = mk_412 := mz_sf_zero _
theorem ms_412_3 : mz_sf mk_412 3 = mt_412_3 := mz_sf_add ms_412_0 (t := 3) rfl rfl
theorem ms_412_24 : mz_sf mk_412 24 = mt_412_24 := mz_sf_add ms_412_3 (t := 21) rfl rfl
theorem ms_412_30 : mz_sf mk_412 30 = mt_412_30 := mz_sf_add ms_412_24 (t := 6) rfl rfl
set_option maxRecDepth 100000 in
theorem mzq_412 : mz_PG0 412 = some (12, ⟨"KeptHouseModel", "setIn", "([BIIJ)V"⟩, prog_14_method_170_code, 6, none, [], mk_412, []) := rfl
theorem cg_412_24 (hd : 0 ≤ d) (hS : mz_extR S 342) (hR : mz_rok R 342) (a0 : Nat) (n0 : Nat) (hs0 : S[a0]? = some (2, n0, [])) (v1 : Int32) (v2 : Int32) (v3 : Int64) (v5 : Int32) (N : mz_N) {C0 : (mz_N) → Prop} (hr : ∀ (N2 : mz_N), C0 N2 → Q (.inl none) (mz_k S R N2 b t)) {C1 : ((Int32 × mz_N) ⊕ (mz_N)) → Prop} (hc1 : ∀ s2, C1 (.inl s2) → mz_G (d, mz_X0 L xs, none, [], mk_412, 6, Q) 3 mt_412_3 [(0, .ref a0), (1, .int v1), (2, .int v2), (3, .long v3), (5, .int s2.1)] [] false (mz_k S R s2.2 b t)) (hx1 : ∀ z, C1 (.inr z) → C0 z) (hp : cp_412_24 a0 n0 v1 v2 v3 v5 N) (hC : C1 (cf_412_24 a0 n0 v1 v2 v3 v5 N)) : mz_G (d, mz_X0 L xs, none, [], mk_412, 6, Q) 24 mt_412_24 [(0, .ref a0), (1, .int v1), (2, .int v2), (3, .long v3), (5, .int v5)] [] false (mz_k S R N b t) := by
  unfold cf_412_24 at hC
  unfold cp_412_24 at hp
  refine g_iinc rfl mzi_1 (Nat.le_of_ble_eq_true rfl) rfl (g_goto (tg := 3) rfl ms_412_3 ?_)
  refine g_weak ?_ (g_cl (hc1 ((v5 + 1), N) hC))
  exact ⟨rfl, rfl, rfl, rfl, rfl, trivial⟩
theorem cb_412_3 (hd : 0 ≤ d) (hS : mz_extR S 342) (hR : mz_rok R 342) (a0 : Nat) (n0 : Nat) (hs0 : S[a0]? = some (2, n0, [])) (v1 : Int32) (v2 : Int32) (v3 : Int64) (s : Int32 × mz_N) {C0 : (mz_N) → Prop} (hr : ∀ (N2 : mz_N), C0 N2 → Q (.inl none) (mz_k S R N2 b t)) {C1 : ((Int32 × mz_N) ⊕ (mz_N)) → Prop} (hc1 : ∀ s2, C1 (.inl s2) → mz_G (d, mz_X0 L xs, none, [], mk_412, 6, Q) 3 mt_412_3 [(0, .ref a0), (1, .int v1), (2, .int v2), (3, .long v3), (5, .int s2.1)] [] false (mz_k S R s2.2 b t)) (hx1 : ∀ z, C1 (.inr z) → C0 z) (hp : cd_412_3 a0 n0 v1 v2 v3 s) (hC : C1 (cq_412_3 a0 n0 v1 v2 v3 s)) : mz_G (d, mz_X0 L xs, none, [], mk_412, 6, Q) 3 mt_412_3 [(0, .ref a0), (1, .int v1), (2, .int v2), (3, .long v3), (5, .int s.1)] [] false (mz_k S R s.2 b t) := by
  unfold cq_412_3 at hC
  unfold cd_412_3 at hp
  refine g_iload rfl (g_iload_n rfl ?_)
  refine g_icge (tg := 30) rfl ms_412_30 hC (fun h1 hC => ?_) (fun h1 hC => ?_)
  · have hp := hp.1 h1
    refine g_aload_n rfl (g_iload_n rfl (g_iload rfl (g_iadd (g_lload_n rfl (g_bipush mzb_8 (g_iload rfl (g_imul ?_)))))))
    refine g_lshr (g_l2i (g_i2b ?_))
    obtain ⟨h2, hp⟩ := hp
    refine g_bast hs0 h2 ?_
    refine g_weak ?_ (g_cl (cg_412_24 hd hS hR a0 n0 hs0 v1 v2 v3 s.1 (mz_wI s.2 a0 (v1 + s.1) (mz_nb (mz_i2b ((mz_lshr v3 (8 * s.1)).toInt32)))) hr hc1 hx1 hp hC))
    exact ⟨rfl, rfl, rfl, rfl, rfl, trivial⟩
  · have hp := hp.2 h1
    exact g_vret rfl (hr _ (hx1 _ hC))
theorem cg_412_3 (hd : 0 ≤ d) (hS : mz_extR S 342) (hR : mz_rok R 342) (a0 : Nat) (n0 : Nat) (hs0 : S[a0]? = some (2, n0, [])) (v1 : Int32) (v2 : Int32) (v3 : Int64) (v5 : Int32) (N : mz_N) {C0 : (mz_N) → Prop} (hr : ∀ (N2 : mz_N), C0 N2 → Q (.inl none) (mz_k S R N2 b t)) (hp : cp_412_3 a0 n0 v1 v2 v3 v5 N) (hC : C0 (cf_412_3 a0 n0 v1 v2 v3 v5 N)) : mz_G (d, mz_X0 L xs, none, [], mk_412, 6, Q) 3 mt_412_3 [(0, .ref a0), (1, .int v1), (2, .int v2), (3, .long v3), (5, .int v5)] [] false (mz_k S R N b t) := by
  obtain ⟨n, hn⟩ := hp
  exact g_loop (G := fun s => mz_G (d, mz_X0 L xs, none, [], mk_412, 6, Q) 3 mt_412_3 [(0, .ref a0), (1, .int v1), (2, .int v2), (3, .long v3), (5, .int s.1)] [] false (mz_k S R s.2 b t)) (C := C0) (fun C2 hc hx s hP hC => cb_412_3 hd hS hR a0 n0 hs0 v1 v2 v3 s hr hc hx hP hC) n (v5, N) hn hC
theorem cg_412_0 (hd : 0 ≤ d) (hS : mz_extR S 342) (hR : mz_rok R 342) (a0 : Nat) (n0 : Nat) (hs0 : S[a0]? = some (2, n0, [])) (v1 : Int32) (v2 : Int32) (v3 : Int64) (N : mz_N) {C0 : (mz_N) → Prop} (hr : ∀ (N2 : mz_N), C0 N2 → Q (.inl none) (mz_k S R N2 b t)) (hp : cp_412_0 a0 n0 v1 v2 v3 N) (hC : C0 (cf_412_0 a0 n0 v1 v2 v3 N)) : mz_G (d, mz_X0 L xs, none, [], mk_412, 6, Q) 0 mk_412 [(0, .ref a0), (1, .int v1), (2, .int v2), (3, .long v3)] [] true (mz_k S R N b t) := by
  unfold cf_412_0 at hC
  unfold cp_412_0 at hp
  refine g_iconst mzi_0 (g_istore (Nat.le_of_ble_eq_true rfl) rfl ?_)
  refine g_weak ?_ (g_cl (cg_412_3 hd hS hR a0 n0 hs0 v1 v2 v3 0 N hr hp hC))
  exact ⟨rfl, rfl, rfl, rfl, rfl, trivial⟩
theorem cs_412 (hd : 1 ≤ d) (hS : mz_extR S 342) (hR : mz_rok R 342) (a0 : Nat) (n0 : Nat) (hs0 : S[a0]? = some (2, n0, [])) (v1 : Int32) (v2 : Int32) (v3 : Int64) (N : mz_N) (hp : cp_412_0 a0 n0 v1 v2 v3 N) (hq : Q (.inl none) (mz_k S R (cf_412_0 a0 n0 v1 v2 v3 N) b t)) : mz_Ed (mz_X0 L xs) d 412 [.ref a0, .int v1, .int v2, .long v3] (mz_k S R N b t) Q :=
  by
  refine g_in mzq_412 (Nat.le_of_ble_eq_true rfl) (Nat.le_of_ble_eq_true rfl) (Nat.le_trans (Nat.le_of_ble_eq_true rfl) hd) ?_
  refine g_weak ?_ (cg_412_0 (d := d - 1) (by omega) hS hR a0 n0 hs0 v1 v2 v3 N (C0 := fun z => Q (.inl none) (mz_k S R z b t)) (fun _ h => h) hp hq)
  exact ⟨rfl, rfl, rfl, rfl, trivial⟩
/-! 413 KeptHouseModel.crcOf ([BII)I -/
theorem ms_413_0 : mz_sf mk_413 0 = mk_413 := mz_sf_zero _
theorem ms_413_5 : mz_sf mk_413 5 = mt_413_5 := mz_sf_add ms_413_0 (t := 5) rfl rfl
theorem ms_413_24 : mz_sf mk_413 24 = mt_413_24 := mz_sf_add ms_413_5 (t := 19) rfl rfl
theorem ms_413_27 : mz_sf mk_413 27 = mt_413_27 := mz_sf_add ms_413_24 (t := 3) rfl rfl
theorem ms_413_51 : mz_sf mk_413 51 = mt_413_51 := mz_sf_add ms_413_27 (t := 24) rfl rfl
theorem ms_413_54 : mz_sf mk_413 54 = mt_413_54 := mz_sf_add ms_413_51 (t := 3) rfl rfl
theorem ms_413_61 : mz_sf mk_413 61 = mt_413_61 := mz_sf_add ms_413_54 (t := 7) rfl rfl
theorem ms_413_67 : mz_sf mk_413 67 = mt_413_67 := mz_sf_add ms_413_61 (t := 6) rfl rfl
set_option maxRecDepth 100000 in
theorem mzq_413 : mz_PG0 413 = some (12, ⟨"KeptHouseModel", "crcOf", "([BII)I"⟩, prog_14_method_168_code, 6, some .int, [], mk_413, []) := rfl
theorem cg_413_54 (hd : 0 ≤ d) (hS : mz_extR S 342) (hR : mz_rok R 342) (a0 : Nat) (n0 : Nat) (hs0 : S[a0]? = some (2, n0, [])) (s0 : Int32) (v1 : Int32) (v2 : Int32) (v4 : Int32) (v5 : Int32) (N : mz_N) {C0 : (Int32) → Prop} (hr : ∀ (w : Int32), C0 w → Q (.inl (some (.int w))) (mz_k S R N b t)) {C1 : ((Int32 × Int32) ⊕ (Int32)) → Prop} (hc1 : ∀ s2, C1 (.inl s2) → mz_G (d, mz_X0 L xs, some .int, [], mk_413, 6, Q) 5 mt_413_5 [(0, .ref a0), (1, .int v1), (2, .int v2), (3, .int s2.1), (4, .int s2.2)] [] false (mz_k S R N b t)) (hx1 : ∀ z, C1 (.inr z) → C0 z) {C2 : ((Int32 × Int32) ⊕ ((Int32 × Int32) ⊕ (Int32))) → Prop} (hc2 : ∀ s2, C2 (.inl s2) → mz_G (d, mz_X0 L xs, some .int, [], mk_413, 6, Q) 27 mt_413_27 [(0, .ref a0), (1, .int v1), (2, .int v2), (3, .int s2.1), (4, .int v4), (5, .int s2.2)] [] false (mz_k S R N b t)) (hx2 : ∀ z, C2 (.inr z) → C1 z) (hp : cp_413_54 a0 n0 s0 v1 v2 v4 v5 N) (hC : C2 (cf_413_54 a0 n0 s0 v1 v2 v4 v5 N)) : mz_G (d, mz_X0 L xs, some .int, [], mk_413, 6, Q) 54 mt_413_54 [(0, .ref a0), (1, .int v1), (2, .int v2), (4, .int v4), (5, .int v5)] [.int s0] false (mz_k S R N b t) := by
  unfold cf_413_54 at hC
  unfold cp_413_54 at hp
  refine g_istore_n (Nat.le_of_ble_eq_true rfl) rfl (g_iinc rfl mzi_1 (Nat.le_of_ble_eq_true rfl) rfl (g_goto (tg := 27) rfl ms_413_27 ?_))
  refine g_weak ?_ (g_cl (hc2 (s0, (v5 + 1)) hC))
  exact ⟨rfl, rfl, rfl, rfl, rfl, rfl, trivial⟩
theorem cb_413_27 (hd : 0 ≤ d) (hS : mz_extR S 342) (hR : mz_rok R 342) (a0 : Nat) (n0 : Nat) (hs0 : S[a0]? = some (2, n0, [])) (v1 : Int32) (v2 : Int32) (v4 : Int32) (N : mz_N) (s : Int32 × Int32) {C0 : (Int32) → Prop} (hr : ∀ (w : Int32), C0 w → Q (.inl (some (.int w))) (mz_k S R N b t)) {C1 : ((Int32 × Int32) ⊕ (Int32)) → Prop} (hc1 : ∀ s2, C1 (.inl s2) → mz_G (d, mz_X0 L xs, some .int, [], mk_413, 6, Q) 5 mt_413_5 [(0, .ref a0), (1, .int v1), (2, .int v2), (3, .int s2.1), (4, .int s2.2)] [] false (mz_k S R N b t)) (hx1 : ∀ z, C1 (.inr z) → C0 z) {C2 : ((Int32 × Int32) ⊕ ((Int32 × Int32) ⊕ (Int32))) → Prop} (hc2 : ∀ s2, C2 (.inl s2) → mz_G (d, mz_X0 L xs, some .int, [], mk_413, 6, Q) 27 mt_413_27 [(0, .ref a0), (1, .int v1), (2, .int v2), (3, .int s2.1), (4, .int v4), (5, .int s2.2)] [] false (mz_k S R N b t)) (hx2 : ∀ z, C2 (.inr z) → C1 z) (hp : cd_413_27 a0 n0 v1 v2 v4 N s) (hC : C2 (cq_413_27 a0 n0 v1 v2 v4 N s)) : mz_G (d, mz_X0 L xs, some .int, [], mk_413, 6, Q) 27 mt_413_27 [(0, .ref a0), (1, .int v1), (2, .int v2), (3, .int s.1), (4, .int v4), (5, .int s.2)] [] false (mz_k S R N b t) := by
  unfold cq_413_27 at hC
  unfold cd_413_27 at hp
  refine g_iload rfl (g_bipush mzb_8 ?_)
  refine g_icge (tg := 61) rfl ms_413_61 hC (fun h1 hC => ?_) (fun h1 hC => ?_)
  · have hp := hp.1 h1
    refine g_iload_n rfl (g_iconst mzi_1 (g_iand (g_iconst mzi_1 ?_)))
    refine g_icne (tg := 51) rfl ms_413_51 hC (fun h2 hC => ?_) (fun h2 hC => ?_)
    · have hp := hp.1 h2
      refine g_iload_n rfl (g_iconst mzi_1 (g_iushr (g_con3 (g_ixor (g_goto (tg := 54) rfl ms_413_54 ?_)))))
      refine g_weak ?_ (g_cl (cg_413_54 hd hS hR a0 n0 hs0 ((mz_iushr s.1 1) ^^^ (-306674912)) v1 v2 v4 s.2 N hr hc1 hx1 hc2 hx2 hp hC))
      exact ⟨rfl, rfl, rfl, rfl, rfl, trivial⟩
    · have hp := hp.2 h2
      refine g_iload_n rfl (g_iconst mzi_1 (g_iushr ?_))
      refine g_weak ?_ (g_cl (cg_413_54 hd hS hR a0 n0 hs0 (mz_iushr s.1 1) v1 v2 v4 s.2 N hr hc1 hx1 hc2 hx2 hp hC))
      exact ⟨rfl, rfl, rfl, rfl, rfl, trivial⟩
  · have hp := hp.2 h1
    refine g_iinc rfl mzi_1 (Nat.le_of_ble_eq_true rfl) rfl (g_goto (tg := 5) rfl ms_413_5 ?_)
    refine g_weak ?_ (g_cl (hc1 (s.1, (v4 + 1)) (hx2 _ hC)))
    exact ⟨rfl, rfl, rfl, rfl, rfl, trivial⟩
theorem cg_413_27 (hd : 0 ≤ d) (hS : mz_extR S 342) (hR : mz_rok R 342) (a0 : Nat) (n0 : Nat) (hs0 : S[a0]? = some (2, n0, [])) (v1 : Int32) (v2 : Int32) (v3 : Int32) (v4 : Int32) (v5 : Int32) (N : mz_N) {C0 : (Int32) → Prop} (hr : ∀ (w : Int32), C0 w → Q (.inl (some (.int w))) (mz_k S R N b t)) {C1 : ((Int32 × Int32) ⊕ (Int32)) → Prop} (hc1 : ∀ s2, C1 (.inl s2) → mz_G (d, mz_X0 L xs, some .int, [], mk_413, 6, Q) 5 mt_413_5 [(0, .ref a0), (1, .int v1), (2, .int v2), (3, .int s2.1), (4, .int s2.2)] [] false (mz_k S R N b t)) (hx1 : ∀ z, C1 (.inr z) → C0 z) (hp : cp_413_27 a0 n0 v1 v2 v3 v4 v5 N) (hC : C1 (cf_413_27 a0 n0 v1 v2 v3 v4 v5 N)) : mz_G (d, mz_X0 L xs, some .int, [], mk_413, 6, Q) 27 mt_413_27 [(0, .ref a0), (1, .int v1), (2, .int v2), (3, .int v3), (4, .int v4), (5, .int v5)] [] false (mz_k S R N b t) := by
  obtain ⟨n, hn⟩ := hp
  exact g_loop (G := fun s => mz_G (d, mz_X0 L xs, some .int, [], mk_413, 6, Q) 27 mt_413_27 [(0, .ref a0), (1, .int v1), (2, .int v2), (3, .int s.1), (4, .int v4), (5, .int s.2)] [] false (mz_k S R N b t)) (C := C1) (fun C2 hc hx s hP hC => cb_413_27 hd hS hR a0 n0 hs0 v1 v2 v4 N s hr hc1 hx1 hc hx hP hC) n (v3, v5) hn hC
theorem cb_413_5 (hd : 0 ≤ d) (hS : mz_extR S 342) (hR : mz_rok R 342) (a0 : Nat) (n0 : Nat) (hs0 : S[a0]? = some (2, n0, [])) (v1 : Int32) (v2 : Int32) (N : mz_N) (s : Int32 × Int32) {C0 : (Int32) → Prop} (hr : ∀ (w : Int32), C0 w → Q (.inl (some (.int w))) (mz_k S R N b t)) {C1 : ((Int32 × Int32) ⊕ (Int32)) → Prop} (hc1 : ∀ s2, C1 (.inl s2) → mz_G (d, mz_X0 L xs, some .int, [], mk_413, 6, Q) 5 mt_413_5 [(0, .ref a0), (1, .int v1), (2, .int v2), (3, .int s2.1), (4, .int s2.2)] [] false (mz_k S R N b t)) (hx1 : ∀ z, C1 (.inr z) → C0 z) (hp : cd_413_5 a0 n0 v1 v2 N s) (hC : C1 (cq_413_5 a0 n0 v1 v2 N s)) : mz_G (d, mz_X0 L xs, some .int, [], mk_413, 6, Q) 5 mt_413_5 [(0, .ref a0), (1, .int v1), (2, .int v2), (3, .int s.1), (4, .int s.2)] [] false (mz_k S R N b t) := by
  unfold cq_413_5 at hC
  unfold cd_413_5 at hp
  refine g_iload rfl (g_iload_n rfl ?_)
  refine g_icge (tg := 67) rfl ms_413_67 hC (fun h1 hC => ?_) (fun h1 hC => ?_)
  · have hp := hp.1 h1
    refine g_iload_n rfl (g_aload_n rfl (g_iload_n rfl (g_iload rfl (g_iadd ?_))))
    obtain ⟨h2, hp⟩ := hp
    refine g_bald hs0 h2 (g_sipush mzs_255 (g_iand (g_ixor (g_istore_n (Nat.le_of_ble_eq_true rfl) rfl (g_iconst mzi_0 (g_istore (Nat.le_of_ble_eq_true rfl) rfl ?_))))))
    refine g_weak ?_ (g_cl (cg_413_27 hd hS hR a0 n0 hs0 v1 v2 (s.1 ^^^ ((mz_gI N a0 (v1 + s.2)) &&& 255)) s.2 0 N hr hc1 hx1 hp hC))
    exact ⟨rfl, rfl, rfl, rfl, rfl, rfl, trivial⟩
  · have hp := hp.2 h1
    refine g_iload_n rfl (g_iconst mzi_m1 (g_ixor ?_))
    exact g_iret rfl (hr _ (hx1 _ hC))
theorem cg_413_5 (hd : 0 ≤ d) (hS : mz_extR S 342) (hR : mz_rok R 342) (a0 : Nat) (n0 : Nat) (hs0 : S[a0]? = some (2, n0, [])) (v1 : Int32) (v2 : Int32) (v3 : Int32) (v4 : Int32) (N : mz_N) {C0 : (Int32) → Prop} (hr : ∀ (w : Int32), C0 w → Q (.inl (some (.int w))) (mz_k S R N b t)) (hp : cp_413_5 a0 n0 v1 v2 v3 v4 N) (hC : C0 (cf_413_5 a0 n0 v1 v2 v3 v4 N)) : mz_G (d, mz_X0 L xs, some .int, [], mk_413, 6, Q) 5 mt_413_5 [(0, .ref a0), (1, .int v1), (2, .int v2), (3, .int v3), (4, .int v4)] [] false (mz_k S R N b t) := by
  obtain ⟨n, hn⟩ := hp
  exact g_loop (G := fun s => mz_G (d, mz_X0 L xs, some .int, [], mk_413, 6, Q) 5 mt_413_5 [(0, .ref a0), (1, .int v1), (2, .int v2), (3, .int s.1), (4, .int s.2)] [] false (mz_k S R N b t)) (C := C0) (fun C2 hc hx s hP hC => cb_413_5 hd hS hR a0 n0 hs0 v1 v2 N s hr hc hx hP hC) n (v3, v4) hn hC
theorem cg_413_0 (hd : 0 ≤ d) (hS : mz_extR S 342) (hR : mz_rok R 342) (a0 : Nat) (n0 : Nat) (hs0 : S[a0]? = some (2, n0, [])) (v1 : Int32) (v2 : Int32) (N : mz_N) {C0 : (Int32) → Prop} (hr : ∀ (w : Int32), C0 w → Q (.inl (some (.int w))) (mz_k S R N b t)) (hp : cp_413_0 a0 n0 v1 v2 N) (hC : C0 (cf_413_0 a0 n0 v1 v2 N)) : mz_G (d, mz_X0 L xs, some .int, [], mk_413, 6, Q) 0 mk_413 [(0, .ref a0), (1, .int v1), (2, .int v2)] [] true (mz_k S R N b t) := by
  unfold cf_413_0 at hC
  unfold cp_413_0 at hp
  refine g_iconst mzi_m1 (g_istore_n (Nat.le_of_ble_eq_true rfl) rfl (g_iconst mzi_0 (g_istore (Nat.le_of_ble_eq_true rfl) rfl ?_)))
  refine g_weak ?_ (g_cl (cg_413_5 hd hS hR a0 n0 hs0 v1 v2 (-1) 0 N hr hp hC))
  exact ⟨rfl, rfl, rfl, rfl, rfl, trivial⟩
theorem cs_413 (hd : 1 ≤ d) (hS : mz_extR S 342) (hR : mz_rok R 342) (a0 : Nat) (n0 : Nat) (hs0 : S[a0]? = some (2, n0, [])) (v1 : Int32) (v2 : Int32) (N : mz_N) (hp : cp_413_0 a0 n0 v1 v2 N) (hq : Q (.inl (some (.int (cf_413_0 a0 n0 v1 v2 N)))) (mz_k S R N b t)) : mz_Ed (mz_X0 L xs) d 413 [.ref a0, .int v1, .int v2] (mz_k S R N b t) Q :=
  by
  refine g_in mzq_413 (Nat.le_of_ble_eq_true rfl) (Nat.le_of_ble_eq_true rfl) (Nat.le_trans (Nat.le_of_ble_eq_true rfl) hd) ?_
  refine g_weak ?_ (cg_413_0 (d := d - 1) (by omega) hS hR a0 n0 hs0 v1 v2 N (C0 := fun z => Q (.inl (some (.int z))) (mz_k S R N b t)) (fun _ h => h) hp hq)
  exact ⟨rfl, rfl, rfl, trivial⟩
end Fn19
