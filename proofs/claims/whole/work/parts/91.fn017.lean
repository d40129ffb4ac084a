/-! THE FUNCTIONS: written by program: each method comes to its function. -/
section Fn17
variable {L : Nat} {xs : Nat → Int32} {d : Nat} {S : mz_S} {R : Nat → Nat → Option Nat} {Q : mz_Q} {N : mz_N} {b : Bool} {t : Nat}
/-! 337 KeptHouse.tour (I)I -/
theorem ms_337_0 : mz_sf mk_337 0 = mk_337 := mz_sf_zero _
theorem ms_337_22 : mz_sf mk_337 22 = mt_337_22 := mz_sf_add ms_337_0 (t := 22) rfl rfl
theorem ms_337_26 : mz_sf mk_337 26 = mt_337_26 := mz_sf_add ms_337_22 (t := 4) rfl rfl
theorem ms_337_27 : mz_sf mk_337 27 = mt_337_27 := mz_sf_add ms_337_26 (t := 1) rfl rfl
set_option maxRecDepth 100000 in
theorem mzq_337 : mz_PG0 337 = some (11, ⟨"KeptHouse", "tour", "(I)I"⟩, prog_1_method_53_code, 2, some .int, [], mk_337, []) := rfl
theorem cg_337_27 (hd : 5 ≤ d) (hS : mz_extR S 232) (hR : mz_rok R 232)  (s0 : Bool) (v1 : Int32) (N : mz_N) {C0 : (Nat × Int32 × mz_N) → Prop} (hr : ∀ (w : Int32) (N2 : mz_N), C0 (0, w, N2) → Q (.inl (some (.int w))) (mz_k S R N2 b t)) (ht : ∀ (c : Nat) (w : Int32) (N2 : mz_N), ¬ c = 0 → C0 (c, w, N2) → Q (.inr (c - 1)) (mz_k S R N2 b (t + 1))) (h1000 : t < 1000) (hp : cp_337_27 s0 v1 N) (hC : C0 (cf_337_27 s0 v1 N)) : mz_G (d, mz_X0 L xs, some .int, [], mk_337, 2, Q) 27 mt_337_27 [(0, .ref 0), (1, .int v1)] [.int (mz_b01 s0)] false (mz_k S R N b t) := by
  unfold cf_337_27 at hC
  unfold cp_337_27 at hp
  refine g_s1nt (Nat.le_of_ble_eq_true rfl) rfl (fun _ hz0 hz1 => cs_187 (Nat.le_trans (Nat.le_of_ble_eq_true rfl) hd) (hS.le (Nat.le_of_ble_eq_true rfl)) (hR.le (Nat.le_of_ble_eq_true rfl))  s0 trivial h1000 hz0 hz1) hC (fun h3 hC => ?_) (fun h3 hC => ?_)
  · have hp := hp.1 h3
    refine g_aload_n rfl (g_getR (mz_at hS (Nat.le_of_ble_eq_true rfl) mzcS_0) mzcf_11_7 (mz_rb hR (Nat.le_of_ble_eq_true rfl) rfl mzcR_0_7) (g_iload_n rfl (g_aload_n rfl (g_getR (mz_at hS (Nat.le_of_ble_eq_true rfl) mzcS_0) mzcf_11_8 (mz_rb hR (Nat.le_of_ble_eq_true rfl) rfl mzcR_0_8) (g_getI (mz_at hS (Nat.le_of_ble_eq_true rfl) mzcS_208) mzcf_1_0 ?_)))))
    have h2 := hp
    refine g_v3v (Nat.le_of_ble_eq_true rfl) (mz_at hS (Nat.le_of_ble_eq_true rfl) mzcS_115) (fun _ hq => cs_338 (Nat.le_trans (Nat.le_of_ble_eq_true rfl) hd) (hS.le (Nat.le_of_ble_eq_true rfl)) (hR.le (Nat.le_of_ble_eq_true rfl))  v1 (N.1 208 0) N h2 hq) ?_
    exact g_iret rfl (hr _ _ hC)
  · have hp := hp.2 h3
    exact ht _ _ _ h3 hC
theorem cg_337_0 (hd : 5 ≤ d) (hS : mz_extR S 232) (hR : mz_rok R 232)  (v1 : Int32) (N : mz_N) {C0 : (Nat × Int32 × mz_N) → Prop} (hr : ∀ (w : Int32) (N2 : mz_N), C0 (0, w, N2) → Q (.inl (some (.int w))) (mz_k S R N2 b t)) (ht : ∀ (c : Nat) (w : Int32) (N2 : mz_N), ¬ c = 0 → C0 (c, w, N2) → Q (.inr (c - 1)) (mz_k S R N2 b (t + 1))) (h1000 : t < 1000) (hp : cp_337_0 v1 N) (hC : C0 (cf_337_0 v1 N)) : mz_G (d, mz_X0 L xs, some .int, [], mk_337, 2, Q) 0 mk_337 [(0, .ref 0), (1, .int v1)] [] true (mz_k S R N b t) := by
  unfold cf_337_0 at hC
  unfold cp_337_0 at hp
  refine g_aload_n rfl ?_
  obtain ⟨h1, hp⟩ := hp
  refine g_v1nt (Nat.le_of_ble_eq_true rfl) (mz_at hS (Nat.le_of_ble_eq_true rfl) mzcS_0) rfl (fun _ hz0 hz1 => cs_104 (Nat.le_trans (Nat.le_of_ble_eq_true rfl) hd) (hS.le (Nat.le_of_ble_eq_true rfl)) (hR.le (Nat.le_of_ble_eq_true rfl))  N h1 h1000 hz0 hz1) hC (fun h6 hC => ?_) (fun h6 hC => ?_)
  · have hp := hp.1 h6
    refine g_iload_n rfl (g_iconst mzi_0 (g_iconst mzi_1 ?_))
    obtain ⟨h2, hp⟩ := hp
    refine g_s3nt (Nat.le_of_ble_eq_true rfl) rfl (fun _ hz0 hz1 => cs_105 (Nat.le_trans (Nat.le_of_ble_eq_true rfl) hd) (hS.le (Nat.le_of_ble_eq_true rfl)) (hR.le (Nat.le_of_ble_eq_true rfl))  v1 0 1 h2 h1000 hz0 hz1) hC (fun h5 hC => ?_) (fun h5 hC => ?_)
    · have hp := hp.1 h5
      refine g_aload_n rfl (g_getR (mz_at hS (Nat.le_of_ble_eq_true rfl) mzcS_0) mzcf_11_7 (mz_rb hR (Nat.le_of_ble_eq_true rfl) rfl mzcR_0_7) (g_getR (mz_at hS (Nat.le_of_ble_eq_true rfl) mzcS_115) mzcf_2_6 (mz_rb hR (Nat.le_of_ble_eq_true rfl) rfl mzcR_115_6) (g_iload_n rfl ?_)))
      obtain ⟨h3, hp⟩ := hp
      refine g_iald hS.1 (mz_at hS (Nat.le_of_ble_eq_true rfl) mzcS_133) h3 ?_
      refine g_ifne (tg := 26) rfl ms_337_26 hC (fun h4 hC => ?_) (fun h4 hC => ?_)
      · have hp := hp.1 h4
        refine g_iconst mzi_1 (g_goto (tg := 27) rfl ms_337_27 ?_)
        refine g_weak ?_ (g_cl (cg_337_27 hd hS hR true v1 N hr ht h1000 hp hC))
        exact ⟨rfl, rfl, trivial⟩
      · have hp := hp.2 h4
        refine g_iconst mzi_0 ?_
        refine g_weak ?_ (g_cl (cg_337_27 hd hS hR false v1 N hr ht h1000 hp hC))
        exact ⟨rfl, rfl, trivial⟩
    · have hp := hp.2 h5
      exact ht _ _ _ h5 hC
  · have hp := hp.2 h6
    exact ht _ _ _ h6 hC
theorem cs_337 (hd : 6 ≤ d) (hS : mz_extR S 232) (hR : mz_rok R 232)  (v1 : Int32) (N : mz_N) (hp : cp_337_0 v1 N) (h1000 : t < 1000) (h0 : (cf_337_0 v1 N).1 = 0 → Q (.inl (some (.int ((cf_337_0 v1 N).2.1)))) (mz_k S R ((cf_337_0 v1 N).2.2) b t)) (h1 : ¬ (cf_337_0 v1 N).1 = 0 → Q (.inr (((cf_337_0 v1 N).1) - 1)) (mz_k S R ((cf_337_0 v1 N).2.2) b (t + 1))) : mz_Ed (mz_X0 L xs) d 337 [.ref 0, .int v1] (mz_k S R N b t) Q :=
  by
  refine g_in mzq_337 (Nat.le_of_ble_eq_true rfl) (Nat.le_of_ble_eq_true rfl) (Nat.le_trans (Nat.le_of_ble_eq_true rfl) hd) ?_
  refine g_weak ?_ (cg_337_0 (d := d - 1) (by omega) hS hR v1 N (C0 := fun z => (z.1 = 0 → Q (.inl (some (.int z.2.1))) (mz_k S R z.2.2 b t)) ∧ (¬ z.1 = 0 → Q (.inr (z.1 - 1)) (mz_k S R z.2.2 b (t + 1)))) (fun _ _ h => h.1 rfl) (fun c _ _ hc h => h.2 hc) h1000 hp ⟨h0, h1⟩)
  exact ⟨rfl, rfl, trivial⟩
/-! 336 KeptHouseLaw.tour (LKeptHouse;I[J)I -/
theorem ms_336_0 : mz_sf mk_336 0 = mk_336 := mz_sf_zero _
theorem ms_336_13 : mz_sf mk_336 13 = mt_336_13 := mz_sf_add ms_336_0 (t := 13) rfl rfl
theorem ms_336_16 : mz_sf mk_336 16 = mt_336_16 := mz_sf_add ms_336_13 (t := 3) rfl rfl
theorem ms_336_18 : mz_sf mk_336 18 = mt_336_18 := mz_sf_add ms_336_16 (t := 2) rfl rfl
set_option maxRecDepth 100000 in
theorem mzq_336 : mz_PG0 336 = some (13, ⟨"KeptHouseLaw", "tour", "(LKeptHouse;I[J)I"⟩, method_49_code, 4, some .int, [(0, 9, 12, 13), (0, 9, 15, 15)], mk_336, [(0, 12, 13), (1, 15, 16)]) := rfl
theorem cg_336_0 (hd : 6 ≤ d) (hS : mz_extR S 343) (hR : mz_rok R 343)  (v1 : Int32) (N : mz_N) (t : Nat) {C0 : (Int32 × mz_N × Nat) → Prop} (hr : ∀ (w : Int32) (N2 : mz_N) (t2 : Nat), C0 (w, N2, t2) → Q (.inl (some (.int w))) (mz_k S R N2 b t2)) (hp : cp_336_0 v1 N t) (hC : C0 (cf_336_0 v1 N t)) : mz_G (d, mz_X0 L xs, some .int, [(0, 12, 13), (1, 15, 16)], mk_336, 4, Q) 0 mk_336 [(0, .ref 0), (1, .int v1), (2, .ref 342)] [] true (mz_k S R N b t) := by
  unfold cf_336_0 at hC
  unfold cp_336_0 at hp
  refine g_aload_n rfl (g_iconst mzi_0 (g_aload_n rfl (g_iload_n rfl ?_)))
  obtain ⟨h1, hp⟩ := hp
  obtain ⟨h1000, hp⟩ := hp
  refine g_v2vh (Nat.le_of_ble_eq_true rfl) (mz_at hS (Nat.le_of_ble_eq_true rfl) mzcS_0) (fun _ hz0 hz1 => cs_337 (Nat.le_trans (Nat.le_of_ble_eq_true rfl) hd) (hS.le (Nat.le_of_ble_eq_true rfl)) (hR.le (Nat.le_of_ble_eq_true rfl))  v1 N h1 h1000 hz0 hz1) hC (fun h2 hC => ?_) (fun h2 hC => ?_)
  · have hp := hp.1 h2
    refine g_i2l (g_last (mz_at hS (Nat.le_of_ble_eq_true rfl) mzcS_342) (mz_ibd (by decide)) (g_goto (tg := 18) rfl ms_336_18 (g_iconst mzi_0 ?_)))
    exact g_iret rfl (hr _ _ _ hC)
  · have hp := hp.2 h2
    refine mz_cs hC (fun h6 hC => ?_) (fun h6 hC => ?_)
    · have hp := hp.1 h6
      refine ⟨(0, 12, 13), (by rw [h6]; rfl), ?_⟩
      show mz_G (d, mz_X0 L xs, some .int, [(0, 12, 13), (1, 15, 16)], mk_336, 4, Q) 13 (mz_sf mk_336 13) [] [] false (mz_k S R ((cf_337_0 v1 N).2.2) b (t + 1))
      rw [ms_336_13]
      refine g_iconst mzi_1 ?_
      exact g_iret rfl (hr _ _ _ hC)
    · have hp := hp.2 h6
      have h4 := hp
      refine ⟨(1, 15, 16), (by rw [h4]; rfl), ?_⟩
      show mz_G (d, mz_X0 L xs, some .int, [(0, 12, 13), (1, 15, 16)], mk_336, 4, Q) 16 (mz_sf mk_336 16) [] [] false (mz_k S R ((cf_337_0 v1 N).2.2) b (t + 1))
      rw [ms_336_16]
      refine g_iconst mzi_2 ?_
      exact g_iret rfl (hr _ _ _ hC)
theorem cs_336 (hd : 7 ≤ d) (hS : mz_extR S 343) (hR : mz_rok R 343)  (v1 : Int32) (N : mz_N) (t : Nat) (hp : cp_336_0 v1 N t) (hq : Q (.inl (some (.int ((cf_336_0 v1 N t).1)))) (mz_k S R ((cf_336_0 v1 N t).2.1) b ((cf_336_0 v1 N t).2.2))) : mz_Ed (mz_X0 L xs) d 336 [.ref 0, .int v1, .ref 342] (mz_k S R N b t) Q :=
  by
  refine g_in mzq_336 (Nat.le_of_ble_eq_true rfl) (Nat.le_of_ble_eq_true rfl) (Nat.le_trans (Nat.le_of_ble_eq_true rfl) hd) ?_
  refine g_weak ?_ (cg_336_0 (d := d - 1) (by omega) hS hR v1 N t (C0 := fun z => Q (.inl (some (.int z.1))) (mz_k S R z.2.1 b z.2.2)) (fun _ _ _ h => h) hp hq)
  exact ⟨rfl, rfl, rfl, trivial⟩
/-! 349 KeptHouse$Care.tellWorker (II)I -/
theorem ms_349_0 : mz_sf mk_349 0 = mk_349 := mz_sf_zero _
theorem ms_349_13 : mz_sf mk_349 13 = mt_349_13 := mz_sf_add ms_349_0 (t := 13) rfl rfl
theorem ms_349_26 : mz_sf mk_349 26 = mt_349_26 := mz_sf_add ms_349_13 (t := 13) rfl rfl
theorem ms_349_33 : mz_sf mk_349 33 = mt_349_33 := mz_sf_add ms_349_26 (t := 7) rfl rfl
theorem ms_349_51 : mz_sf mk_349 51 = mt_349_51 := mz_sf_add ms_349_33 (t := 18) rfl rfl
theorem ms_349_57 : mz_sf mk_349 57 = mt_349_57 := mz_sf_add ms_349_51 (t := 6) rfl rfl
theorem ms_349_58 : mz_sf mk_349 58 = mt_349_58 := mz_sf_add ms_349_57 (t := 1) rfl rfl
theorem ms_349_64 : mz_sf mk_349 64 = mt_349_64 := mz_sf_add ms_349_58 (t := 6) rfl rfl
theorem ms_349_96 : mz_sf mk_349 96 = mt_349_96 := mz_sf_add ms_349_64 (t := 32) rfl rfl
theorem ms_349_105 : mz_sf mk_349 105 = mt_349_105 := mz_sf_add ms_349_96 (t := 9) rfl rfl
set_option maxRecDepth 100000 in
theorem mzq_349 : mz_PG0 349 = some (2, ⟨"KeptHouse$Care", "tellWorker", "(II)I"⟩, prog_4_method_18_code, 5, some .int, [], mk_349, []) := rfl
theorem cg_349_26 (hd : 0 ≤ d) (hS : mz_extR S 232) (hR : mz_rok R 232)  (s0 : Int32) (v1 : Int32) (v2 : Int32) (N : mz_N) {C0 : (Int32) → Prop} (hr : ∀ (w : Int32), C0 w → Q (.inl (some (.int w))) (mz_k S R N b t)) (hp : cp_349_26 s0 v1 v2 N) (hC : C0 (cf_349_26 s0 v1 v2 N)) : mz_G (d, mz_X0 L xs, some .int, [], mk_349, 5, Q) 26 mt_349_26 [(0, .ref 115), (1, .int v1), (2, .int v2)] [.int s0] true (mz_k S R N b t) := by
  unfold cf_349_26 at hC
  unfold cp_349_26 at hp
  refine g_istore_n (Nat.le_of_ble_eq_true rfl) rfl (g_iload_n rfl ?_)
  refine g_ifne (tg := 33) rfl ms_349_33 hC (fun h1 hC => ?_) (fun h1 hC => ?_)
  · have hp := hp.1 h1
    refine g_iload_n rfl ?_
    exact g_iret rfl (hr _ hC)
  · have hp := hp.2 h1
    refine g_iload_n rfl (g_iconst mzi_3 ?_)
    refine g_icne (tg := 58) rfl ms_349_58 hC (fun h2 hC => ?_) (fun h2 hC => ?_)
    · have hp := hp.1 h2
      refine g_aload_n rfl (g_getR (mz_at hS (Nat.le_of_ble_eq_true rfl) mzcS_115) mzcf_2_6 (mz_rb hR (Nat.le_of_ble_eq_true rfl) rfl mzcR_115_6) (g_iload_n rfl ?_))
      obtain ⟨h3, hp⟩ := hp
      refine g_iald hS.1 (mz_at hS (Nat.le_of_ble_eq_true rfl) mzcS_133) h3 ?_
      refine g_ifne (tg := 51) rfl ms_349_51 hC (fun h4 hC => ?_) (fun h4 hC => ?_)
      · have hp := hp.1 h4
        refine g_iconst mzi_m1 (g_goto (tg := 57) rfl ms_349_57 ?_)
        exact g_iret rfl (hr _ hC)
      · have hp := hp.2 h4
        refine g_aload_n rfl (g_getR (mz_at hS (Nat.le_of_ble_eq_true rfl) mzcS_115) mzcf_2_10 (mz_rb hR (Nat.le_of_ble_eq_true rfl) rfl mzcR_115_10) (g_iload_n rfl ?_))
        have h5 := hp
        refine g_iald hS.1 (mz_at hS (Nat.le_of_ble_eq_true rfl) mzcS_141) h5 ?_
        exact g_iret rfl (hr _ hC)
    · have hp := hp.2 h2
      refine g_iload_n rfl ?_
      refine g_ifne (tg := 64) rfl ms_349_64 hC (fun h6 hC => ?_) (fun h6 hC => ?_)
      · have hp := hp.1 h6
        refine g_iconst mzi_m1 ?_
        exact g_iret rfl (hr _ hC)
      · have hp := hp.2 h6
        refine g_aload_n rfl (g_getR (mz_at hS (Nat.le_of_ble_eq_true rfl) mzcS_115) mzcf_2_7 (mz_rb hR (Nat.le_of_ble_eq_true rfl) rfl mzcR_115_7) (g_iload_n rfl ?_))
        obtain ⟨h7, hp⟩ := hp
        refine g_iald hS.1 (mz_at hS (Nat.le_of_ble_eq_true rfl) mzcS_134) h7 (g_istore (Nat.le_of_ble_eq_true rfl) rfl (g_iload_n rfl (g_iconst mzi_1 ?_)))
        refine g_icne (tg := 96) rfl ms_349_96 hC (fun h8 hC => ?_) (fun h8 hC => ?_)
        · have hp := hp.1 h8
          refine g_aload_n rfl (g_getR (mz_at hS (Nat.le_of_ble_eq_true rfl) mzcS_115) mzcf_2_0 (mz_rb hR (Nat.le_of_ble_eq_true rfl) rfl mzcR_115_0) (g_iconst mzi_0 (g_aald4 (m := 117) (mz_at hS (Nat.le_of_ble_eq_true rfl) mzcS_116) (mz_ibd (by decide)) (mz_rb hR (Nat.le_of_ble_eq_true rfl) rfl mzcRr_116_0) (g_aload_n rfl (g_getR (mz_at hS (Nat.le_of_ble_eq_true rfl) mzcS_115) mzcf_2_8 (mz_rb hR (Nat.le_of_ble_eq_true rfl) rfl mzcR_115_8) (g_iload_n rfl ?_))))))
          obtain ⟨h9, hp⟩ := hp
          refine g_aald4 (mz_at hS (Nat.le_of_ble_eq_true rfl) mzcS_135) h9 (mz_rb hR (Nat.le_of_ble_eq_true rfl) rfl (mzcR2_135 h9)) (g_iload rfl ?_)
          obtain ⟨h10, hp⟩ := hp
          refine g_iald hS.1 (mz_at hS (mzcL2_135 h9 (Nat.le_of_ble_eq_true rfl)) (mzcS2_135 h9)) h10 ?_
          have h11 := hp
          refine g_iald hS.1 (mz_at hS (Nat.le_of_ble_eq_true rfl) mzcS_117) h11 (g_goto (tg := 105) rfl ms_349_105 ?_)
          exact g_iret rfl (hr _ hC)
        · have hp := hp.2 h8
          refine g_aload_n rfl (g_getR (mz_at hS (Nat.le_of_ble_eq_true rfl) mzcS_115) mzcf_2_9 (mz_rb hR (Nat.le_of_ble_eq_true rfl) rfl mzcR_115_9) (g_iload_n rfl ?_))
          obtain ⟨h12, hp⟩ := hp
          refine g_aald4 (mz_at hS (Nat.le_of_ble_eq_true rfl) mzcS_138) h12 (mz_rb hR (Nat.le_of_ble_eq_true rfl) rfl (mzcR2_138 h12)) (g_iload rfl ?_)
          have h13 := hp
          refine g_iald hS.1 (mz_at hS (mzcL2_138 h12 (Nat.le_of_ble_eq_true rfl)) (mzcS2_138 h12)) h13 ?_
          exact g_iret rfl (hr _ hC)
theorem cg_349_0 (hd : 0 ≤ d) (hS : mz_extR S 232) (hR : mz_rok R 232)  (v1 : Int32) (v2 : Int32) (N : mz_N) {C0 : (Int32) → Prop} (hr : ∀ (w : Int32), C0 w → Q (.inl (some (.int w))) (mz_k S R N b t)) (hp : cp_349_0 v1 v2 N) (hC : C0 (cf_349_0 v1 v2 N)) : mz_G (d, mz_X0 L xs, some .int, [], mk_349, 5, Q) 0 mk_349 [(0, .ref 115), (1, .int v1), (2, .int v2)] [] true (mz_k S R N b t) := by
  unfold cf_349_0 at hC
  unfold cp_349_0 at hp
  refine g_aload_n rfl (g_getR (mz_at hS (Nat.le_of_ble_eq_true rfl) mzcS_115) mzcf_2_6 (mz_rb hR (Nat.le_of_ble_eq_true rfl) rfl mzcR_115_6) (g_iload_n rfl ?_))
  obtain ⟨h1, hp⟩ := hp
  refine g_iald hS.1 (mz_at hS (Nat.le_of_ble_eq_true rfl) mzcS_133) h1 ?_
  refine g_ifne (tg := 13) rfl ms_349_13 hC (fun h2 hC => ?_) (fun h2 hC => ?_)
  · have hp := hp.1 h2
    refine g_iconst mzi_0 (g_goto (tg := 26) rfl ms_349_26 ?_)
    refine g_weak ?_ (cg_349_26 hd hS hR 0 v1 v2 N hr hp hC)
    exact ⟨rfl, rfl, rfl, trivial⟩
  · have hp := hp.2 h2
    refine g_aload_n rfl (g_getR (mz_at hS (Nat.le_of_ble_eq_true rfl) mzcS_115) mzcf_2_6 (mz_rb hR (Nat.le_of_ble_eq_true rfl) rfl mzcR_115_6) (g_iload_n rfl ?_))
    obtain ⟨h3, hp⟩ := hp
    refine g_iald hS.1 (mz_at hS (Nat.le_of_ble_eq_true rfl) mzcS_133) h3 (g_aload_n rfl (g_getR (mz_at hS (Nat.le_of_ble_eq_true rfl) mzcS_115) mzcf_2_7 (mz_rb hR (Nat.le_of_ble_eq_true rfl) rfl mzcR_115_7) (g_iload_n rfl ?_)))
    obtain ⟨h4, hp⟩ := hp
    refine g_iald hS.1 (mz_at hS (Nat.le_of_ble_eq_true rfl) mzcS_134) h4 (g_isub ?_)
    refine g_weak ?_ (cg_349_26 hd hS hR ((mz_gI N 133 v1) - (mz_gI N 134 v1)) v1 v2 N hr hp hC)
    exact ⟨rfl, rfl, rfl, trivial⟩
theorem cs_349 (hd : 1 ≤ d) (hS : mz_extR S 232) (hR : mz_rok R 232)  (v1 : Int32) (v2 : Int32) (N : mz_N) (hp : cp_349_0 v1 v2 N) (hq : Q (.inl (some (.int (cf_349_0 v1 v2 N)))) (mz_k S R N b t)) : mz_Ed (mz_X0 L xs) d 349 [.ref 115, .int v1, .int v2] (mz_k S R N b t) Q :=
  by
  refine g_in mzq_349 (Nat.le_of_ble_eq_true rfl) (Nat.le_of_ble_eq_true rfl) (Nat.le_trans (Nat.le_of_ble_eq_true rfl) hd) ?_
  refine g_weak ?_ (cg_349_0 (d := d - 1) (by omega) hS hR v1 v2 N (C0 := fun z => Q (.inl (some (.int z))) (mz_k S R N b t)) (fun _ h => h) hp hq)
  exact ⟨rfl, rfl, rfl, trivial⟩
/-! 348 KeptHouse.worker (II)I -/
theorem ms_348_0 : mz_sf mk_348 0 = mk_348 := mz_sf_zero _
set_option maxRecDepth 100000 in
theorem mzq_348 : mz_PG0 348 = some (11, ⟨"KeptHouse", "worker", "(II)I"⟩, prog_1_method_54_code, 3, some .int, [], mk_348, []) := rfl
theorem cg_348_0 (hd : 1 ≤ d) (hS : mz_extR S 232) (hR : mz_rok R 232)  (v1 : Int32) (v2 : Int32) (N : mz_N) {C0 : (Nat × Int32) → Prop} (hr : ∀ (w : Int32), C0 (0, w) → Q (.inl (some (.int w))) (mz_k S R N b t)) (ht : ∀ (c : Nat) (w : Int32), ¬ c = 0 → C0 (c, w) → Q (.inr (c - 1)) (mz_k S R N b (t + 1))) (h1000 : t < 1000) (hp : cp_348_0 v1 v2 N) (hC : C0 (cf_348_0 v1 v2 N)) : mz_G (d, mz_X0 L xs, some .int, [], mk_348, 3, Q) 0 mk_348 [(0, .ref 0), (1, .int v1), (2, .int v2)] [] true (mz_k S R N b t) := by
  unfold cf_348_0 at hC
  unfold cp_348_0 at hp
  refine g_aload_n rfl ?_
  obtain ⟨h1, hp⟩ := hp
  refine g_v1nt (Nat.le_of_ble_eq_true rfl) (mz_at hS (Nat.le_of_ble_eq_true rfl) mzcS_0) rfl (fun _ hz0 hz1 => cs_104 (Nat.le_trans (Nat.le_of_ble_eq_true rfl) hd) (hS.le (Nat.le_of_ble_eq_true rfl)) (hR.le (Nat.le_of_ble_eq_true rfl))  N h1 h1000 hz0 hz1) hC (fun h7 hC => ?_) (fun h7 hC => ?_)
  · have hp := hp.1 h7
    refine g_iload_n rfl (g_iconst mzi_0 (g_iconst mzi_1 ?_))
    obtain ⟨h2, hp⟩ := hp
    refine g_s3nt (Nat.le_of_ble_eq_true rfl) rfl (fun _ hz0 hz1 => cs_105 (Nat.le_trans (Nat.le_of_ble_eq_true rfl) hd) (hS.le (Nat.le_of_ble_eq_true rfl)) (hR.le (Nat.le_of_ble_eq_true rfl))  v1 0 1 h2 h1000 hz0 hz1) hC (fun h6 hC => ?_) (fun h6 hC => ?_)
    · have hp := hp.1 h6
      refine g_iload_n rfl (g_iconst mzi_0 (g_iconst mzi_3 ?_))
      obtain ⟨h3, hp⟩ := hp
      refine g_s3nt (Nat.le_of_ble_eq_true rfl) rfl (fun _ hz0 hz1 => cs_105 (Nat.le_trans (Nat.le_of_ble_eq_true rfl) hd) (hS.le (Nat.le_of_ble_eq_true rfl)) (hR.le (Nat.le_of_ble_eq_true rfl))  v2 0 3 h3 h1000 hz0 hz1) hC (fun h5 hC => ?_) (fun h5 hC => ?_)
      · have hp := hp.1 h5
        refine g_aload_n rfl (g_getR (mz_at hS (Nat.le_of_ble_eq_true rfl) mzcS_0) mzcf_11_7 (mz_rb hR (Nat.le_of_ble_eq_true rfl) rfl mzcR_0_7) (g_iload_n rfl (g_iload_n rfl ?_)))
        have h4 := hp
        refine g_v3v (Nat.le_of_ble_eq_true rfl) (mz_at hS (Nat.le_of_ble_eq_true rfl) mzcS_115) (fun _ hq => cs_349 (Nat.le_trans (Nat.le_of_ble_eq_true rfl) hd) (hS.le (Nat.le_of_ble_eq_true rfl)) (hR.le (Nat.le_of_ble_eq_true rfl))  v1 v2 N h4 hq) ?_
        exact g_iret rfl (hr _ hC)
      · have hp := hp.2 h5
        exact ht _ _ h5 hC
    · have hp := hp.2 h6
      exact ht _ _ h6 hC
  · have hp := hp.2 h7
    exact ht _ _ h7 hC
theorem cs_348 (hd : 2 ≤ d) (hS : mz_extR S 232) (hR : mz_rok R 232)  (v1 : Int32) (v2 : Int32) (N : mz_N) (hp : cp_348_0 v1 v2 N) (h1000 : t < 1000) (h0 : (cf_348_0 v1 v2 N).1 = 0 → Q (.inl (some (.int ((cf_348_0 v1 v2 N).2)))) (mz_k S R N b t)) (h1 : ¬ (cf_348_0 v1 v2 N).1 = 0 → Q (.inr (((cf_348_0 v1 v2 N).1) - 1)) (mz_k S R N b (t + 1))) : mz_Ed (mz_X0 L xs) d 348 [.ref 0, .int v1, .int v2] (mz_k S R N b t) Q :=
  by
  refine g_in mzq_348 (Nat.le_of_ble_eq_true rfl) (Nat.le_of_ble_eq_true rfl) (Nat.le_trans (Nat.le_of_ble_eq_true rfl) hd) ?_
  refine g_weak ?_ (cg_348_0 (d := d - 1) (by omega) hS hR v1 v2 N (C0 := fun z => (z.1 = 0 → Q (.inl (some (.int z.2))) (mz_k S R N b t)) ∧ (¬ z.1 = 0 → Q (.inr (z.1 - 1)) (mz_k S R N b (t + 1)))) (fun _ h => h.1 rfl) (fun c _ hc h => h.2 hc) h1000 hp ⟨h0, h1⟩)
  exact ⟨rfl, rfl, rfl, trivial⟩
/-! 347 KeptHouseLaw.worker (LKeptHouse;II[J)I -/
theorem ms_347_0 : mz_sf mk_347 0 = mk_347 := mz_sf_zero _
theorem ms_347_15 : mz_sf mk_347 15 = mt_347_15 := mz_sf_add ms_347_0 (t := 15) rfl rfl
theorem ms_347_19 : mz_sf mk_347 19 = mt_347_19 := mz_sf_add ms_347_15 (t := 4) rfl rfl
theorem ms_347_21 : mz_sf mk_347 21 = mt_347_21 := mz_sf_add ms_347_19 (t := 2) rfl rfl
set_option maxRecDepth 100000 in
theorem mzq_347 : mz_PG0 347 = some (13, ⟨"KeptHouseLaw", "worker", "(LKeptHouse;II[J)I"⟩, method_50_code, 5, some .int, [(0, 10, 13, 13), (0, 10, 17, 15)], mk_347, [(0, 13, 15), (1, 17, 19)]) := rfl
theorem cg_347_0 (hd : 2 ≤ d) (hS : mz_extR S 343) (hR : mz_rok R 343)  (v1 : Int32) (v2 : Int32) (N : mz_N) (t : Nat) {C0 : (Int32 × mz_N × Nat) → Prop} (hr : ∀ (w : Int32) (N2 : mz_N) (t2 : Nat), C0 (w, N2, t2) → Q (.inl (some (.int w))) (mz_k S R N2 b t2)) (hp : cp_347_0 v1 v2 N t) (hC : C0 (cf_347_0 v1 v2 N t)) : mz_G (d, mz_X0 L xs, some .int, [(0, 13, 15), (1, 17, 19)], mk_347, 5, Q) 0 mk_347 [(0, .ref 0), (1, .int v1), (2, .int v2), (3, .ref 342)] [] true (mz_k S R N b t) := by
  unfold cf_347_0 at hC
  unfold cp_347_0 at hp
  refine g_aload_n rfl (g_iconst mzi_0 (g_aload_n rfl (g_iload_n rfl (g_iload_n rfl ?_))))
  obtain ⟨h1, hp⟩ := hp
  obtain ⟨h1000, hp⟩ := hp
  refine g_v3vh (Nat.le_of_ble_eq_true rfl) (mz_at hS (Nat.le_of_ble_eq_true rfl) mzcS_0) (fun _ hz0 hz1 => cs_348 (Nat.le_trans (Nat.le_of_ble_eq_true rfl) hd) (hS.le (Nat.le_of_ble_eq_true rfl)) (hR.le (Nat.le_of_ble_eq_true rfl))  v1 v2 N h1 h1000 hz0 hz1) hC (fun h2 hC => ?_) (fun h2 hC => ?_)
  · have hp := hp.1 h2
    refine g_i2l (g_last (mz_at hS (Nat.le_of_ble_eq_true rfl) mzcS_342) (mz_ibd (by decide)) (g_goto (tg := 21) rfl ms_347_21 (g_iconst mzi_0 ?_)))
    exact g_iret rfl (hr _ _ _ hC)
  · have hp := hp.2 h2
    refine mz_cs hC (fun h6 hC => ?_) (fun h6 hC => ?_)
    · have hp := hp.1 h6
      refine ⟨(0, 13, 15), (by rw [h6]; rfl), ?_⟩
      show mz_G (d, mz_X0 L xs, some .int, [(0, 13, 15), (1, 17, 19)], mk_347, 5, Q) 15 (mz_sf mk_347 15) [] [] false (mz_k S R N b (t + 1))
      rw [ms_347_15]
      refine g_iconst mzi_1 ?_
      exact g_iret rfl (hr _ _ _ hC)
    · have hp := hp.2 h6
      have h4 := hp
      refine ⟨(1, 17, 19), (by rw [h4]; rfl), ?_⟩
      show mz_G (d, mz_X0 L xs, some .int, [(0, 13, 15), (1, 17, 19)], mk_347, 5, Q) 19 (mz_sf mk_347 19) [] [] false (mz_k S R N b (t + 1))
      rw [ms_347_19]
      refine g_iconst mzi_2 ?_
      exact g_iret rfl (hr _ _ _ hC)
theorem cs_347 (hd : 3 ≤ d) (hS : mz_extR S 343) (hR : mz_rok R 343)  (v1 : Int32) (v2 : Int32) (N : mz_N) (t : Nat) (hp : cp_347_0 v1 v2 N t) (hq : Q (.inl (some (.int ((cf_347_0 v1 v2 N t).1)))) (mz_k S R ((cf_347_0 v1 v2 N t).2.1) b ((cf_347_0 v1 v2 N t).2.2))) : mz_Ed (mz_X0 L xs) d 347 [.ref 0, .int v1, .int v2, .ref 342] (mz_k S R N b t) Q :=
  by
  refine g_in mzq_347 (Nat.le_of_ble_eq_true rfl) (Nat.le_of_ble_eq_true rfl) (Nat.le_trans (Nat.le_of_ble_eq_true rfl) hd) ?_
  refine g_weak ?_ (cg_347_0 (d := d - 1) (by omega) hS hR v1 v2 N t (C0 := fun z => Q (.inl (some (.int z.1))) (mz_k S R z.2.1 b z.2.2)) (fun _ _ _ h => h) hp hq)
  exact ⟨rfl, rfl, rfl, rfl, trivial⟩
/-! 352 KeptHouse$Care.addOrder (III)I -/
theorem ms_352_0 : mz_sf mk_352 0 = mk_352 := mz_sf_zero _
theorem ms_352_24 : mz_sf mk_352 24 = mt_352_24 := mz_sf_add ms_352_0 (t := 24) rfl rfl
theorem ms_352_46 : mz_sf mk_352 46 = mt_352_46 := mz_sf_add ms_352_24 (t := 22) rfl rfl
set_option maxRecDepth 100000 in
theorem mzq_352 : mz_PG0 352 = some (2, ⟨"KeptHouse$Care", "addOrder", "(III)I"⟩, prog_4_method_22_code, 4, some .int, [], mk_352, []) := rfl
theorem cg_352_46 (hd : 0 ≤ d) (hS : mz_extR S 232) (hR : mz_rok R 232)  (v3 : Int32) (N : mz_N) {C0 : (Int32 × mz_N) → Prop} (hr : ∀ (w : Int32) (N2 : mz_N), C0 (w, N2) → Q (.inl (some (.int w))) (mz_k S R N2 b t)) (hp : cp_352_46 v3 N) (hC : C0 (cf_352_46 v3 N)) : mz_G (d, mz_X0 L xs, some .int, [], mk_352, 4, Q) 46 mt_352_46 [(3, .int v3)] [] false (mz_k S R N b t) := by
  unfold cf_352_46 at hC
  unfold cp_352_46 at hp
  refine g_iload_n rfl ?_
  exact g_iret rfl (hr _ _ hC)
theorem cg_352_24 (hd : 0 ≤ d) (hS : mz_extR S 232) (hR : mz_rok R 232)  (v3 : Int32) (N : mz_N) {C0 : (Int32 × mz_N) → Prop} (hr : ∀ (w : Int32) (N2 : mz_N), C0 (w, N2) → Q (.inl (some (.int w))) (mz_k S R N2 b t)) (hp : cp_352_24 v3 N) (hC : C0 (cf_352_24 v3 N)) : mz_G (d, mz_X0 L xs, some .int, [], mk_352, 4, Q) 24 mt_352_24 [(0, .ref 115), (3, .int v3)] [] false (mz_k S R N b t) := by
  unfold cf_352_24 at hC
  unfold cp_352_24 at hp
  refine g_aload_n rfl (g_getR (mz_at hS (Nat.le_of_ble_eq_true rfl) mzcS_115) mzcf_2_4 (mz_rb hR (Nat.le_of_ble_eq_true rfl) rfl mzcR_115_4) (g_iconst mzi_2 (g_aald4 (m := 132) (mz_at hS (Nat.le_of_ble_eq_true rfl) mzcS_129) (mz_ibd (by decide)) (mz_rb hR (Nat.le_of_ble_eq_true rfl) rfl mzcRr_129_2) (g_aload_n rfl (g_getI (mz_at hS (Nat.le_of_ble_eq_true rfl) mzcS_115) mzcf_2_5 (g_iload_n rfl ?_))))))
  obtain ⟨h1, hp⟩ := hp
  refine g_iast (mz_at hS (Nat.le_of_ble_eq_true rfl) mzcS_132) h1 (g_aload_n rfl (g_dup rfl (g_getI (mz_at hS (Nat.le_of_ble_eq_true rfl) mzcS_115) mzcf_2_5 (g_iconst mzi_1 (g_iadd (g_putI (mz_at hS (Nat.le_of_ble_eq_true rfl) mzcS_115) mzcf_2_5 ?_))))))
  refine g_weak ?_ (g_cl (cg_352_46 hd hS hR v3 (mz_pI (mz_wI N 132 (N.1 115 5) v3) 115 5 (((mz_wI N 132 (N.1 115 5) v3).1 115 5) + 1)) hr hp hC))
  exact ⟨rfl, trivial⟩
theorem cg_352_0 (hd : 0 ≤ d) (hS : mz_extR S 232) (hR : mz_rok R 232)  (v1 : Int32) (v2 : Int32) (v3 : Int32) (N : mz_N) {C0 : (Int32 × mz_N) → Prop} (hr : ∀ (w : Int32) (N2 : mz_N), C0 (w, N2) → Q (.inl (some (.int w))) (mz_k S R N2 b t)) (hp : cp_352_0 v1 v2 v3 N) (hC : C0 (cf_352_0 v1 v2 v3 N)) : mz_G (d, mz_X0 L xs, some .int, [], mk_352, 4, Q) 0 mk_352 [(0, .ref 115), (1, .int v1), (2, .int v2), (3, .int v3)] [] true (mz_k S R N b t) := by
  unfold cf_352_0 at hC
  unfold cp_352_0 at hp
  refine g_aload_n rfl (g_getR (mz_at hS (Nat.le_of_ble_eq_true rfl) mzcS_115) mzcf_2_4 (mz_rb hR (Nat.le_of_ble_eq_true rfl) rfl mzcR_115_4) (g_iconst mzi_0 (g_aald4 (m := 130) (mz_at hS (Nat.le_of_ble_eq_true rfl) mzcS_129) (mz_ibd (by decide)) (mz_rb hR (Nat.le_of_ble_eq_true rfl) rfl mzcRr_129_0) (g_aload_n rfl (g_getI (mz_at hS (Nat.le_of_ble_eq_true rfl) mzcS_115) mzcf_2_5 (g_iload_n rfl ?_))))))
  obtain ⟨h1, hp⟩ := hp
  refine g_iast (mz_at hS (Nat.le_of_ble_eq_true rfl) mzcS_130) h1 (g_aload_n rfl (g_getR (mz_at hS (Nat.le_of_ble_eq_true rfl) mzcS_115) mzcf_2_4 (mz_rb hR (Nat.le_of_ble_eq_true rfl) rfl mzcR_115_4) (g_iconst mzi_1 (g_aald4 (m := 131) (mz_at hS (Nat.le_of_ble_eq_true rfl) mzcS_129) (mz_ibd (by decide)) (mz_rb hR (Nat.le_of_ble_eq_true rfl) rfl mzcRr_129_1) (g_aload_n rfl (g_getI (mz_at hS (Nat.le_of_ble_eq_true rfl) mzcS_115) mzcf_2_5 (g_iload_n rfl ?_)))))))
  obtain ⟨h2, hp⟩ := hp
  refine g_iast (mz_at hS (Nat.le_of_ble_eq_true rfl) mzcS_131) h2 ?_
  refine g_weak ?_ (g_cl (cg_352_24 hd hS hR v3 (mz_wI (mz_wI N 130 (N.1 115 5) v1) 131 ((mz_wI N 130 (N.1 115 5) v1).1 115 5) v2) hr hp hC))
  exact ⟨rfl, rfl, trivial⟩
theorem cs_352 (hd : 1 ≤ d) (hS : mz_extR S 232) (hR : mz_rok R 232)  (v1 : Int32) (v2 : Int32) (v3 : Int32) (N : mz_N) (hp : cp_352_0 v1 v2 v3 N) (hq : Q (.inl (some (.int ((cf_352_0 v1 v2 v3 N).1)))) (mz_k S R ((cf_352_0 v1 v2 v3 N).2) b t)) : mz_Ed (mz_X0 L xs) d 352 [.ref 115, .int v1, .int v2, .int v3] (mz_k S R N b t) Q :=
  by
  refine g_in mzq_352 (Nat.le_of_ble_eq_true rfl) (Nat.le_of_ble_eq_true rfl) (Nat.le_trans (Nat.le_of_ble_eq_true rfl) hd) ?_
  refine g_weak ?_ (cg_352_0 (d := d - 1) (by omega) hS hR v1 v2 v3 N (C0 := fun z => Q (.inl (some (.int z.1))) (mz_k S R z.2 b t)) (fun _ _ h => h) hp hq)
  exact ⟨rfl, rfl, rfl, rfl, trivial⟩
/-! 351 KeptHouse.order (II)I -/
theorem ms_351_0 : mz_sf mk_351 0 = mk_351 := mz_sf_zero _
theorem ms_351_29 : mz_sf mk_351 29 = mt_351_29 := mz_sf_add ms_351_0 (t := 29) rfl rfl
theorem ms_351_33 : mz_sf mk_351 33 = mt_351_33 := mz_sf_add ms_351_29 (t := 4) rfl rfl
set_option maxRecDepth 100000 in
theorem mzq_351 : mz_PG0 351 = some (11, ⟨"KeptHouse", "order", "(II)I"⟩, prog_1_method_55_code, 3, some .int, [], mk_351, []) := rfl
theorem cg_351_0 (hd : 1 ≤ d) (hS : mz_extR S 232) (hR : mz_rok R 232)  (v1 : Int32) (v2 : Int32) (N : mz_N) {C0 : (Nat × Int32 × mz_N) → Prop} (hr : ∀ (w : Int32) (N2 : mz_N), C0 (0, w, N2) → Q (.inl (some (.int w))) (mz_k S R N2 b t)) (ht : ∀ (c : Nat) (w : Int32) (N2 : mz_N), ¬ c = 0 → C0 (c, w, N2) → Q (.inr (c - 1)) (mz_k S R N2 b (t + 1))) (h1000 : t < 1000) (hp : cp_351_0 v1 v2 N) (hC : C0 (cf_351_0 v1 v2 N)) : mz_G (d, mz_X0 L xs, some .int, [], mk_351, 3, Q) 0 mk_351 [(0, .ref 0), (1, .int v1), (2, .int v2)] [] true (mz_k S R N b t) := by
  unfold cf_351_0 at hC
  unfold cp_351_0 at hp
  refine g_aload_n rfl ?_
  obtain ⟨h1, hp⟩ := hp
  refine g_v1nt (Nat.le_of_ble_eq_true rfl) (mz_at hS (Nat.le_of_ble_eq_true rfl) mzcS_0) rfl (fun _ hz0 hz1 => cs_104 (Nat.le_trans (Nat.le_of_ble_eq_true rfl) hd) (hS.le (Nat.le_of_ble_eq_true rfl)) (hR.le (Nat.le_of_ble_eq_true rfl))  N h1 h1000 hz0 hz1) hC (fun h8 hC => ?_) (fun h8 hC => ?_)
  · have hp := hp.1 h8
    refine g_iload_n rfl (g_iconst mzi_0 (g_iconst mzi_2 ?_))
    obtain ⟨h2, hp⟩ := hp
    refine g_s3nt (Nat.le_of_ble_eq_true rfl) rfl (fun _ hz0 hz1 => cs_105 (Nat.le_trans (Nat.le_of_ble_eq_true rfl) hd) (hS.le (Nat.le_of_ble_eq_true rfl)) (hR.le (Nat.le_of_ble_eq_true rfl))  v1 0 2 h2 h1000 hz0 hz1) hC (fun h7 hC => ?_) (fun h7 hC => ?_)
    · have hp := hp.1 h7
      refine g_iload_n rfl (g_iconst mzi_1 (g_bipush mzb_9 ?_))
      obtain ⟨h3, hp⟩ := hp
      refine g_s3nt (Nat.le_of_ble_eq_true rfl) rfl (fun _ hz0 hz1 => cs_105 (Nat.le_trans (Nat.le_of_ble_eq_true rfl) hd) (hS.le (Nat.le_of_ble_eq_true rfl)) (hR.le (Nat.le_of_ble_eq_true rfl))  v2 1 9 h3 h1000 hz0 hz1) hC (fun h6 hC => ?_) (fun h6 hC => ?_)
      · have hp := hp.1 h6
        refine g_aload_n rfl (g_getR (mz_at hS (Nat.le_of_ble_eq_true rfl) mzcS_0) mzcf_11_7 (mz_rb hR (Nat.le_of_ble_eq_true rfl) rfl mzcR_0_7) (g_getI (mz_at hS (Nat.le_of_ble_eq_true rfl) mzcS_115) mzcf_2_5 (g_bipush mzb_8 ?_)))
        refine g_iclt (tg := 33) rfl ms_351_33 hC (fun h4 hC => ?_) (fun h4 hC => ?_)
        · have hp := hp.1 h4
          refine g_aload_n rfl (g_getR (mz_at hS (Nat.le_of_ble_eq_true rfl) mzcS_0) mzcf_11_7 (mz_rb hR (Nat.le_of_ble_eq_true rfl) rfl mzcR_0_7) (g_iload_n rfl (g_iload_n rfl (g_aload_n rfl (g_getR (mz_at hS (Nat.le_of_ble_eq_true rfl) mzcS_0) mzcf_11_8 (mz_rb hR (Nat.le_of_ble_eq_true rfl) rfl mzcR_0_8) (g_getI (mz_at hS (Nat.le_of_ble_eq_true rfl) mzcS_208) mzcf_1_0 (g_sipush mzs_480 ?_)))))))
          refine g_iadd ?_
          have h5 := hp
          refine g_v4v (Nat.le_of_ble_eq_true rfl) (mz_at hS (Nat.le_of_ble_eq_true rfl) mzcS_115) (fun _ hq => cs_352 (Nat.le_trans (Nat.le_of_ble_eq_true rfl) hd) (hS.le (Nat.le_of_ble_eq_true rfl)) (hR.le (Nat.le_of_ble_eq_true rfl))  v1 v2 ((N.1 208 0) + 480) N h5 hq) ?_
          exact g_iret rfl (hr _ _ hC)
        · have hp := hp.2 h4
          refine g_sipush mzs_m1003 ?_
          exact g_iret rfl (hr _ _ hC)
      · have hp := hp.2 h6
        exact ht _ _ _ h6 hC
    · have hp := hp.2 h7
      exact ht _ _ _ h7 hC
  · have hp := hp.2 h8
    exact ht _ _ _ h8 hC
theorem cs_351 (hd : 2 ≤ d) (hS : mz_extR S 232) (hR : mz_rok R 232)  (v1 : Int32) (v2 : Int32) (N : mz_N) (hp : cp_351_0 v1 v2 N) (h1000 : t < 1000) (h0 : (cf_351_0 v1 v2 N).1 = 0 → Q (.inl (some (.int ((cf_351_0 v1 v2 N).2.1)))) (mz_k S R ((cf_351_0 v1 v2 N).2.2) b t)) (h1 : ¬ (cf_351_0 v1 v2 N).1 = 0 → Q (.inr (((cf_351_0 v1 v2 N).1) - 1)) (mz_k S R ((cf_351_0 v1 v2 N).2.2) b (t + 1))) : mz_Ed (mz_X0 L xs) d 351 [.ref 0, .int v1, .int v2] (mz_k S R N b t) Q :=
  by
  refine g_in mzq_351 (Nat.le_of_ble_eq_true rfl) (Nat.le_of_ble_eq_true rfl) (Nat.le_trans (Nat.le_of_ble_eq_true rfl) hd) ?_
  refine g_weak ?_ (cg_351_0 (d := d - 1) (by omega) hS hR v1 v2 N (C0 := fun z => (z.1 = 0 → Q (.inl (some (.int z.2.1))) (mz_k S R z.2.2 b t)) ∧ (¬ z.1 = 0 → Q (.inr (z.1 - 1)) (mz_k S R z.2.2 b (t + 1)))) (fun _ _ h => h.1 rfl) (fun c _ _ hc h => h.2 hc) h1000 hp ⟨h0, h1⟩)
  exact ⟨rfl, rfl, rfl, trivial⟩
/-! 350 KeptHouseLaw.order (LKeptHouse;II[J)I -/
theorem ms_350_0 : mz_sf mk_350 0 = mk_350 := mz_sf_zero _
theorem ms_350_15 : mz_sf mk_350 15 = mt_350_15 := mz_sf_add ms_350_0 (t := 15) rfl rfl
theorem ms_350_19 : mz_sf mk_350 19 = mt_350_19 := mz_sf_add ms_350_15 (t := 4) rfl rfl
theorem ms_350_21 : mz_sf mk_350 21 = mt_350_21 := mz_sf_add ms_350_19 (t := 2) rfl rfl
set_option maxRecDepth 100000 in
theorem mzq_350 : mz_PG0 350 = some (13, ⟨"KeptHouseLaw", "order", "(LKeptHouse;II[J)I"⟩, method_51_code, 5, some .int, [(0, 10, 13, 13), (0, 10, 17, 15)], mk_350, [(0, 13, 15), (1, 17, 19)]) := rfl
theorem cg_350_21 (hd : 2 ≤ d) (hS : mz_extR S 343) (hR : mz_rok R 343)  (N : mz_N) (t : Nat) {C0 : (Int32 × mz_N × Nat) → Prop} (hr : ∀ (w : Int32) (N2 : mz_N) (t2 : Nat), C0 (w, N2, t2) → Q (.inl (some (.int w))) (mz_k S R N2 b t2)) (hp : cp_350_21 N t) (hC : C0 (cf_350_21 N t)) : mz_G (d, mz_X0 L xs, some .int, [(0, 13, 15), (1, 17, 19)], mk_350, 5, Q) 21 mt_350_21 [] [] false (mz_k S R N b t) := by
  unfold cf_350_21 at hC
  unfold cp_350_21 at hp
  refine g_iconst mzi_0 ?_
  exact g_iret rfl (hr _ _ _ hC)
theorem cg_350_0 (hd : 2 ≤ d) (hS : mz_extR S 343) (hR : mz_rok R 343)  (v1 : Int32) (v2 : Int32) (N : mz_N) (t : Nat) {C0 : (Int32 × mz_N × Nat) → Prop} (hr : ∀ (w : Int32) (N2 : mz_N) (t2 : Nat), C0 (w, N2, t2) → Q (.inl (some (.int w))) (mz_k S R N2 b t2)) (hp : cp_350_0 v1 v2 N t) (hC : C0 (cf_350_0 v1 v2 N t)) : mz_G (d, mz_X0 L xs, some .int, [(0, 13, 15), (1, 17, 19)], mk_350, 5, Q) 0 mk_350 [(0, .ref 0), (1, .int v1), (2, .int v2), (3, .ref 342)] [] true (mz_k S R N b t) := by
  unfold cf_350_0 at hC
  unfold cp_350_0 at hp
  refine g_aload_n rfl (g_iconst mzi_0 (g_aload_n rfl (g_iload_n rfl (g_iload_n rfl ?_))))
  obtain ⟨h1, hp⟩ := hp
  obtain ⟨h1000, hp⟩ := hp
  refine g_v3vh (Nat.le_of_ble_eq_true rfl) (mz_at hS (Nat.le_of_ble_eq_true rfl) mzcS_0) (fun _ hz0 hz1 => cs_351 (Nat.le_trans (Nat.le_of_ble_eq_true rfl) hd) (hS.le (Nat.le_of_ble_eq_true rfl)) (hR.le (Nat.le_of_ble_eq_true rfl))  v1 v2 N h1 h1000 hz0 hz1) hC (fun h2 hC => ?_) (fun h2 hC => ?_)
  · have hp := hp.1 h2
    refine g_i2l (g_last (mz_at hS (Nat.le_of_ble_eq_true rfl) mzcS_342) (mz_ibd (by decide)) (g_goto (tg := 21) rfl ms_350_21 ?_))
    refine g_weak ?_ (g_cl (cg_350_21 hd hS hR (mz_wL ((cf_351_0 v1 v2 N).2.2) 342 0 (((cf_351_0 v1 v2 N).2.1).toInt64)) t hr hp hC))
    exact trivial
  · have hp := hp.2 h2
    refine mz_cs hC (fun h6 hC => ?_) (fun h6 hC => ?_)
    · have hp := hp.1 h6
      refine ⟨(0, 13, 15), (by rw [h6]; rfl), ?_⟩
      show mz_G (d, mz_X0 L xs, some .int, [(0, 13, 15), (1, 17, 19)], mk_350, 5, Q) 15 (mz_sf mk_350 15) [] [] false (mz_k S R ((cf_351_0 v1 v2 N).2.2) b (t + 1))
      rw [ms_350_15]
      refine g_iconst mzi_1 ?_
      exact g_iret rfl (hr _ _ _ hC)
    · have hp := hp.2 h6
      have h4 := hp
      refine ⟨(1, 17, 19), (by rw [h4]; rfl), ?_⟩
      show mz_G (d, mz_X0 L xs, some .int, [(0, 13, 15), (1, 17, 19)], mk_350, 5, Q) 19 (mz_sf mk_350 19) [] [] false (mz_k S R ((cf_351_0 v1 v2 N).2.2) b (t + 1))
      rw [ms_350_19]
      refine g_iconst mzi_2 ?_
      exact g_iret rfl (hr _ _ _ hC)
theorem cs_350 (hd : 3 ≤ d) (hS : mz_extR S 343) (hR : mz_rok R 343)  (v1 : Int32) (v2 : Int32) (N : mz_N) (t : Nat) (hp : cp_350_0 v1 v2 N t) (hq : Q (.inl (some (.int ((cf_350_0 v1 v2 N t).1)))) (mz_k S R ((cf_350_0 v1 v2 N t).2.1) b ((cf_350_0 v1 v2 N t).2.2))) : mz_Ed (mz_X0 L xs) d 350 [.ref 0, .int v1, .int v2, .ref 342] (mz_k S R N b t) Q :=
  by
  refine g_in mzq_350 (Nat.le_of_ble_eq_true rfl) (Nat.le_of_ble_eq_true rfl) (Nat.le_trans (Nat.le_of_ble_eq_true rfl) hd) ?_
  refine g_weak ?_ (cg_350_0 (d := d - 1) (by omega) hS hR v1 v2 N t (C0 := fun z => Q (.inl (some (.int z.1))) (mz_k S R z.2.1 b z.2.2)) (fun _ _ _ h => h) hp hq)
  exact ⟨rfl, rfl, rfl, rfl, trivial⟩
/-! 354 KeptHouse.part (II)I -/
theorem ms_354_0 : mz_sf mk_354 0 = mk_354 := mz_sf_zero _
set_option maxRecDepth 100000 in
theorem mzq_354 : mz_PG0 354 = some (11, ⟨"KeptHouse", "part", "(II)I"⟩, prog_1_method_56_code, 3, some .int, [], mk_354, []) := rfl
theorem cg_354_0 (hd : 1 ≤ d) (hS : mz_extR S 232) (hR : mz_rok R 232)  (v1 : Int32) (v2 : Int32) (N : mz_N) {C0 : (Nat × Int32) → Prop} (hr : ∀ (w : Int32), C0 (0, w) → Q (.inl (some (.int w))) (mz_k S R N b t)) (ht : ∀ (c : Nat) (w : Int32), ¬ c = 0 → C0 (c, w) → Q (.inr (c - 1)) (mz_k S R N b (t + 1))) (h1000 : t < 1000) (hp : cp_354_0 v1 v2 N) (hC : C0 (cf_354_0 v1 v2 N)) : mz_G (d, mz_X0 L xs, some .int, [], mk_354, 3, Q) 0 mk_354 [(0, .ref 0), (1, .int v1), (2, .int v2)] [] true (mz_k S R N b t) := by
  unfold cf_354_0 at hC
  unfold cp_354_0 at hp
  refine g_aload_n rfl ?_
  obtain ⟨h1, hp⟩ := hp
  refine g_v1nt (Nat.le_of_ble_eq_true rfl) (mz_at hS (Nat.le_of_ble_eq_true rfl) mzcS_0) rfl (fun _ hz0 hz1 => cs_104 (Nat.le_trans (Nat.le_of_ble_eq_true rfl) hd) (hS.le (Nat.le_of_ble_eq_true rfl)) (hR.le (Nat.le_of_ble_eq_true rfl))  N h1 h1000 hz0 hz1) hC (fun h8 hC => ?_) (fun h8 hC => ?_)
  · have hp := hp.1 h8
    refine g_iload_n rfl (g_iconst mzi_0 (g_iconst mzi_2 ?_))
    obtain ⟨h2, hp⟩ := hp
    refine g_s3nt (Nat.le_of_ble_eq_true rfl) rfl (fun _ hz0 hz1 => cs_105 (Nat.le_trans (Nat.le_of_ble_eq_true rfl) hd) (hS.le (Nat.le_of_ble_eq_true rfl)) (hR.le (Nat.le_of_ble_eq_true rfl))  v1 0 2 h2 h1000 hz0 hz1) hC (fun h7 hC => ?_) (fun h7 hC => ?_)
    · have hp := hp.1 h7
      refine g_iload_n rfl (g_iconst mzi_0 (g_iconst mzi_3 ?_))
      obtain ⟨h3, hp⟩ := hp
      refine g_s3nt (Nat.le_of_ble_eq_true rfl) rfl (fun _ hz0 hz1 => cs_105 (Nat.le_trans (Nat.le_of_ble_eq_true rfl) hd) (hS.le (Nat.le_of_ble_eq_true rfl)) (hR.le (Nat.le_of_ble_eq_true rfl))  v2 0 3 h3 h1000 hz0 hz1) hC (fun h6 hC => ?_) (fun h6 hC => ?_)
      · have hp := hp.1 h6
        refine g_aload_n rfl (g_getR (mz_at hS (Nat.le_of_ble_eq_true rfl) mzcS_0) mzcf_11_7 (mz_rb hR (Nat.le_of_ble_eq_true rfl) rfl mzcR_0_7) (g_getR (mz_at hS (Nat.le_of_ble_eq_true rfl) mzcS_115) mzcf_2_3 (mz_rb hR (Nat.le_of_ble_eq_true rfl) rfl mzcR_115_3) (g_iload_n rfl ?_)))
        obtain ⟨h4, hp⟩ := hp
        refine g_aald4 (mz_at hS (Nat.le_of_ble_eq_true rfl) mzcS_124) h4 (mz_rb hR (Nat.le_of_ble_eq_true rfl) rfl (mzcR2_124 h4)) (g_iload_n rfl ?_)
        have h5 := hp
        refine g_iald hS.1 (mz_at hS (mzcL2_124 h4 (Nat.le_of_ble_eq_true rfl)) (mzcS2_124 h4)) h5 ?_
        exact g_iret rfl (hr _ hC)
      · have hp := hp.2 h6
        exact ht _ _ h6 hC
    · have hp := hp.2 h7
      exact ht _ _ h7 hC
  · have hp := hp.2 h8
    exact ht _ _ h8 hC
theorem cs_354 (hd : 2 ≤ d) (hS : mz_extR S 232) (hR : mz_rok R 232)  (v1 : Int32) (v2 : Int32) (N : mz_N) (hp : cp_354_0 v1 v2 N) (h1000 : t < 1000) (h0 : (cf_354_0 v1 v2 N).1 = 0 → Q (.inl (some (.int ((cf_354_0 v1 v2 N).2)))) (mz_k S R N b t)) (h1 : ¬ (cf_354_0 v1 v2 N).1 = 0 → Q (.inr (((cf_354_0 v1 v2 N).1) - 1)) (mz_k S R N b (t + 1))) : mz_Ed (mz_X0 L xs) d 354 [.ref 0, .int v1, .int v2] (mz_k S R N b t) Q :=
  by
  refine g_in mzq_354 (Nat.le_of_ble_eq_true rfl) (Nat.le_of_ble_eq_true rfl) (Nat.le_trans (Nat.le_of_ble_eq_true rfl) hd) ?_
  refine g_weak ?_ (cg_354_0 (d := d - 1) (by omega) hS hR v1 v2 N (C0 := fun z => (z.1 = 0 → Q (.inl (some (.int z.2))) (mz_k S R N b t)) ∧ (¬ z.1 = 0 → Q (.inr (z.1 - 1)) (mz_k S R N b (t + 1)))) (fun _ h => h.1 rfl) (fun c _ hc h => h.2 hc) h1000 hp ⟨h0, h1⟩)
  exact ⟨rfl, rfl, rfl, trivial⟩
/-! 353 KeptHouseLaw.part (LKeptHouse;II[J)I -/
theorem ms_353_0 : mz_sf mk_353 0 = mk_353 := mz_sf_zero _
theorem ms_353_15 : mz_sf mk_353 15 = mt_353_15 := mz_sf_add ms_353_0 (t := 15) rfl rfl
theorem ms_353_19 : mz_sf mk_353 19 = mt_353_19 := mz_sf_add ms_353_15 (t := 4) rfl rfl
theorem ms_353_21 : mz_sf mk_353 21 = mt_353_21 := mz_sf_add ms_353_19 (t := 2) rfl rfl
set_option maxRecDepth 100000 in
theorem mzq_353 : mz_PG0 353 = some (13, ⟨"KeptHouseLaw", "part", "(LKeptHouse;II[J)I"⟩, method_52_code, 5, some .int, [(0, 10, 13, 13), (0, 10, 17, 15)], mk_353, [(0, 13, 15), (1, 17, 19)]) := rfl
theorem cg_353_0 (hd : 2 ≤ d) (hS : mz_extR S 343) (hR : mz_rok R 343)  (v1 : Int32) (v2 : Int32) (N : mz_N) (t : Nat) {C0 : (Int32 × mz_N × Nat) → Prop} (hr : ∀ (w : Int32) (N2 : mz_N) (t2 : Nat), C0 (w, N2, t2) → Q (.inl (some (.int w))) (mz_k S R N2 b t2)) (hp : cp_353_0 v1 v2 N t) (hC : C0 (cf_353_0 v1 v2 N t)) : mz_G (d, mz_X0 L xs, some .int, [(0, 13, 15), (1, 17, 19)], mk_353, 5, Q) 0 mk_353 [(0, .ref 0), (1, .int v1), (2, .int v2), (3, .ref 342)] [] true (mz_k S R N b t) := by
  unfold cf_353_0 at hC
  unfold cp_353_0 at hp
  refine g_aload_n rfl (g_iconst mzi_0 (g_aload_n rfl (g_iload_n rfl (g_iload_n rfl ?_))))
  obtain ⟨h1, hp⟩ := hp
  obtain ⟨h1000, hp⟩ := hp
  refine g_v3vh (Nat.le_of_ble_eq_true rfl) (mz_at hS (Nat.le_of_ble_eq_true rfl) mzcS_0) (fun _ hz0 hz1 => cs_354 (Nat.le_trans (Nat.le_of_ble_eq_true rfl) hd) (hS.le (Nat.le_of_ble_eq_true rfl)) (hR.le (Nat.le_of_ble_eq_true rfl))  v1 v2 N h1 h1000 hz0 hz1) hC (fun h2 hC => ?_) (fun h2 hC => ?_)
  · have hp := hp.1 h2
    refine g_i2l (g_last (mz_at hS (Nat.le_of_ble_eq_true rfl) mzcS_342) (mz_ibd (by decide)) (g_goto (tg := 21) rfl ms_353_21 (g_iconst mzi_0 ?_)))
    exact g_iret rfl (hr _ _ _ hC)
  · have hp := hp.2 h2
    refine mz_cs hC (fun h6 hC => ?_) (fun h6 hC => ?_)
    · have hp := hp.1 h6
      refine ⟨(0, 13, 15), (by rw [h6]; rfl), ?_⟩
      show mz_G (d, mz_X0 L xs, some .int, [(0, 13, 15), (1, 17, 19)], mk_353, 5, Q) 15 (mz_sf mk_353 15) [] [] false (mz_k S R N b (t + 1))
      rw [ms_353_15]
      refine g_iconst mzi_1 ?_
      exact g_iret rfl (hr _ _ _ hC)
    · have hp := hp.2 h6
      have h4 := hp
      refine ⟨(1, 17, 19), (by rw [h4]; rfl), ?_⟩
      show mz_G (d, mz_X0 L xs, some .int, [(0, 13, 15), (1, 17, 19)], mk_353, 5, Q) 19 (mz_sf mk_353 19) [] [] false (mz_k S R N b (t + 1))
      rw [ms_353_19]
      refine g_iconst mzi_2 ?_
      exact g_iret rfl (hr _ _ _ hC)
theorem cs_353 (hd : 3 ≤ d) (hS : mz_extR S 343) (hR : mz_rok R 343)  (v1 : Int32) (v2 : Int32) (N : mz_N) (t : Nat) (hp : cp_353_0 v1 v2 N t) (hq : Q (.inl (some (.int ((cf_353_0 v1 v2 N t).1)))) (mz_k S R ((cf_353_0 v1 v2 N t).2.1) b ((cf_353_0 v1 v2 N t).2.2))) : mz_Ed (mz_X0 L xs) d 353 [.ref 0, .int v1, .int v2, .ref 342] (mz_k S R N b t) Q :=
  by
  refine g_in mzq_353 (Nat.le_of_ble_eq_true rfl) (Nat.le_of_ble_eq_true rfl) (Nat.le_trans (Nat.le_of_ble_eq_true rfl) hd) ?_
  refine g_weak ?_ (cg_353_0 (d := d - 1) (by omega) hS hR v1 v2 N t (C0 := fun z => Q (.inl (some (.int z.1))) (mz_k S R z.2.1 b z.2.2)) (fun _ _ _ h => h) hp hq)
  exact ⟨rfl, rfl, rfl, rfl, trivial⟩
/-! 356 KeptHouse.meter (II)I -/
theorem ms_356_0 : mz_sf mk_356 0 = mk_356 := mz_sf_zero _
set_option maxRecDepth 100000 in
theorem mzq_356 : mz_PG0 356 = some (11, ⟨"KeptHouse", "meter", "(II)I"⟩, prog_1_method_57_code, 3, some .int, [], mk_356, []) := rfl
theorem cg_356_0 (hd : 1 ≤ d) (hS : mz_extR S 232) (hR : mz_rok R 232)  (v1 : Int32) (v2 : Int32) (N : mz_N) {C0 : (Nat × Int32) → Prop} (hr : ∀ (w : Int32), C0 (0, w) → Q (.inl (some (.int w))) (mz_k S R N b t)) (ht : ∀ (c : Nat) (w : Int32), ¬ c = 0 → C0 (c, w) → Q (.inr (c - 1)) (mz_k S R N b (t + 1))) (h1000 : t < 1000) (hp : cp_356_0 v1 v2 N) (hC : C0 (cf_356_0 v1 v2 N)) : mz_G (d, mz_X0 L xs, some .int, [], mk_356, 3, Q) 0 mk_356 [(0, .ref 0), (1, .int v1), (2, .int v2)] [] true (mz_k S R N b t) := by
  unfold cf_356_0 at hC
  unfold cp_356_0 at hp
  refine g_aload_n rfl ?_
  obtain ⟨h1, hp⟩ := hp
  refine g_v1nt (Nat.le_of_ble_eq_true rfl) (mz_at hS (Nat.le_of_ble_eq_true rfl) mzcS_0) rfl (fun _ hz0 hz1 => cs_104 (Nat.le_trans (Nat.le_of_ble_eq_true rfl) hd) (hS.le (Nat.le_of_ble_eq_true rfl)) (hR.le (Nat.le_of_ble_eq_true rfl))  N h1 h1000 hz0 hz1) hC (fun h8 hC => ?_) (fun h8 hC => ?_)
  · have hp := hp.1 h8
    refine g_iload_n rfl (g_iconst mzi_0 (g_bipush mzb_10 ?_))
    obtain ⟨h2, hp⟩ := hp
    refine g_s3nt (Nat.le_of_ble_eq_true rfl) rfl (fun _ hz0 hz1 => cs_105 (Nat.le_trans (Nat.le_of_ble_eq_true rfl) hd) (hS.le (Nat.le_of_ble_eq_true rfl)) (hR.le (Nat.le_of_ble_eq_true rfl))  v1 0 10 h2 h1000 hz0 hz1) hC (fun h7 hC => ?_) (fun h7 hC => ?_)
    · have hp := hp.1 h7
      refine g_iload_n rfl (g_iconst mzi_0 (g_iconst mzi_2 ?_))
      obtain ⟨h3, hp⟩ := hp
      refine g_s3nt (Nat.le_of_ble_eq_true rfl) rfl (fun _ hz0 hz1 => cs_105 (Nat.le_trans (Nat.le_of_ble_eq_true rfl) hd) (hS.le (Nat.le_of_ble_eq_true rfl)) (hR.le (Nat.le_of_ble_eq_true rfl))  v2 0 2 h3 h1000 hz0 hz1) hC (fun h6 hC => ?_) (fun h6 hC => ?_)
      · have hp := hp.1 h6
        refine g_aload_n rfl (g_getR (mz_at hS (Nat.le_of_ble_eq_true rfl) mzcS_0) mzcf_11_8 (mz_rb hR (Nat.le_of_ble_eq_true rfl) rfl mzcR_0_8) (g_getR (mz_at hS (Nat.le_of_ble_eq_true rfl) mzcS_208) mzcf_1_5 (mz_rb hR (Nat.le_of_ble_eq_true rfl) rfl mzcR_208_5) (g_iload_n rfl ?_)))
        obtain ⟨h4, hp⟩ := hp
        refine g_aald4 (mz_at hS (Nat.le_of_ble_eq_true rfl) mzcS_209) h4 (mz_rb hR (Nat.le_of_ble_eq_true rfl) rfl (mzcR2_209 h4)) (g_iload_n rfl ?_)
        have h5 := hp
        refine g_iald hS.1 (mz_at hS (mzcL2_209 h4 (Nat.le_of_ble_eq_true rfl)) (mzcS2_209 h4)) h5 ?_
        exact g_iret rfl (hr _ hC)
      · have hp := hp.2 h6
        exact ht _ _ h6 hC
    · have hp := hp.2 h7
      exact ht _ _ h7 hC
  · have hp := hp.2 h8
    exact ht _ _ h8 hC
theorem cs_356 (hd : 2 ≤ d) (hS : mz_extR S 232) (hR : mz_rok R 232)  (v1 : Int32) (v2 : Int32) (N : mz_N) (hp : cp_356_0 v1 v2 N) (h1000 : t < 1000) (h0 : (cf_356_0 v1 v2 N).1 = 0 → Q (.inl (some (.int ((cf_356_0 v1 v2 N).2)))) (mz_k S R N b t)) (h1 : ¬ (cf_356_0 v1 v2 N).1 = 0 → Q (.inr (((cf_356_0 v1 v2 N).1) - 1)) (mz_k S R N b (t + 1))) : mz_Ed (mz_X0 L xs) d 356 [.ref 0, .int v1, .int v2] (mz_k S R N b t) Q :=
  by
  refine g_in mzq_356 (Nat.le_of_ble_eq_true rfl) (Nat.le_of_ble_eq_true rfl) (Nat.le_trans (Nat.le_of_ble_eq_true rfl) hd) ?_
  refine g_weak ?_ (cg_356_0 (d := d - 1) (by omega) hS hR v1 v2 N (C0 := fun z => (z.1 = 0 → Q (.inl (some (.int z.2))) (mz_k S R N b t)) ∧ (¬ z.1 = 0 → Q (.inr (z.1 - 1)) (mz_k S R N b (t + 1)))) (fun _ h => h.1 rfl) (fun c _ hc h => h.2 hc) h1000 hp ⟨h0, h1⟩)
  exact ⟨rfl, rfl, rfl, trivial⟩
/-! 355 KeptHouseLaw.meter (LKeptHouse;II[J)I -/
theorem ms_355_0 : mz_sf mk_355 0 = mk_355 := mz_sf_zero _
theorem ms_355_15 : mz_sf mk_355 15 = mt_355_15 := mz_sf_add ms_355_0 (t := 15) rfl rfl
theorem ms_355_19 : mz_sf mk_355 19 = mt_355_19 := mz_sf_add ms_355_15 (t := 4) rfl rfl
theorem ms_355_21 : mz_sf mk_355 21 = mt_355_21 := mz_sf_add ms_355_19 (t := 2) rfl rfl
set_option maxRecDepth 100000 in
theorem mzq_355 : mz_PG0 355 = some (13, ⟨"KeptHouseLaw", "meter", "(LKeptHouse;II[J)I"⟩, method_53_code, 5, some .int, [(0, 10, 13, 13), (0, 10, 17, 15)], mk_355, [(0, 13, 15), (1, 17, 19)]) := rfl
theorem cg_355_0 (hd : 2 ≤ d) (hS : mz_extR S 343) (hR : mz_rok R 343)  (v1 : Int32) (v2 : Int32) (N : mz_N) (t : Nat) {C0 : (Int32 × mz_N × Nat) → Prop} (hr : ∀ (w : Int32) (N2 : mz_N) (t2 : Nat), C0 (w, N2, t2) → Q (.inl (some (.int w))) (mz_k S R N2 b t2)) (hp : cp_355_0 v1 v2 N t) (hC : C0 (cf_355_0 v1 v2 N t)) : mz_G (d, mz_X0 L xs, some .int, [(0, 13, 15), (1, 17, 19)], mk_355, 5, Q) 0 mk_355 [(0, .ref 0), (1, .int v1), (2, .int v2), (3, .ref 342)] [] true (mz_k S R N b t) := by
  unfold cf_355_0 at hC
  unfold cp_355_0 at hp
  refine g_aload_n rfl (g_iconst mzi_0 (g_aload_n rfl (g_iload_n rfl (g_iload_n rfl ?_))))
  obtain ⟨h1, hp⟩ := hp
  obtain ⟨h1000, hp⟩ := hp
  refine g_v3vh (Nat.le_of_ble_eq_true rfl) (mz_at hS (Nat.le_of_ble_eq_true rfl) mzcS_0) (fun _ hz0 hz1 => cs_356 (Nat.le_trans (Nat.le_of_ble_eq_true rfl) hd) (hS.le (Nat.le_of_ble_eq_true rfl)) (hR.le (Nat.le_of_ble_eq_true rfl))  v1 v2 N h1 h1000 hz0 hz1) hC (fun h2 hC => ?_) (fun h2 hC => ?_)
  · have hp := hp.1 h2
    refine g_i2l (g_last (mz_at hS (Nat.le_of_ble_eq_true rfl) mzcS_342) (mz_ibd (by decide)) (g_goto (tg := 21) rfl ms_355_21 (g_iconst mzi_0 ?_)))
    exact g_iret rfl (hr _ _ _ hC)
  · have hp := hp.2 h2
    refine mz_cs hC (fun h6 hC => ?_) (fun h6 hC => ?_)
    · have hp := hp.1 h6
      refine ⟨(0, 13, 15), (by rw [h6]; rfl), ?_⟩
      show mz_G (d, mz_X0 L xs, some .int, [(0, 13, 15), (1, 17, 19)], mk_355, 5, Q) 15 (mz_sf mk_355 15) [] [] false (mz_k S R N b (t + 1))
      rw [ms_355_15]
      refine g_iconst mzi_1 ?_
      exact g_iret rfl (hr _ _ _ hC)
    · have hp := hp.2 h6
      have h4 := hp
      refine ⟨(1, 17, 19), (by rw [h4]; rfl), ?_⟩
      show mz_G (d, mz_X0 L xs, some .int, [(0, 13, 15), (1, 17, 19)], mk_355, 5, Q) 19 (mz_sf mk_355 19) [] [] false (mz_k S R N b (t + 1))
      rw [ms_355_19]
      refine g_iconst mzi_2 ?_
      exact g_iret rfl (hr _ _ _ hC)
theorem cs_355 (hd : 3 ≤ d) (hS : mz_extR S 343) (hR : mz_rok R 343)  (v1 : Int32) (v2 : Int32) (N : mz_N) (t : Nat) (hp : cp_355_0 v1 v2 N t) (hq : Q (.inl (some (.int ((cf_355_0 v1 v2 N t).1)))) (mz_k S R ((cf_355_0 v1 v2 N t).2.1) b ((cf_355_0 v1 v2 N t).2.2))) : mz_Ed (mz_X0 L xs) d 355 [.ref 0, .int v1, .int v2, .ref 342] (mz_k S R N b t) Q :=
  by
  refine g_in mzq_355 (Nat.le_of_ble_eq_true rfl) (Nat.le_of_ble_eq_true rfl) (Nat.le_trans (Nat.le_of_ble_eq_true rfl) hd) ?_
  refine g_weak ?_ (cg_355_0 (d := d - 1) (by omega) hS hR v1 v2 N t (C0 := fun z => Q (.inl (some (.int z.1))) (mz_k S R z.2.1 b z.2.2)) (fun _ _ _ h => h) hp hq)
  exact ⟨rfl, rfl, rfl, rfl, trivial⟩
/-! 358 KeptHouse.account (II)J -/
theorem ms_358_0 : mz_sf mk_358 0 = mk_358 := mz_sf_zero _
theorem ms_358_21 : mz_sf mk_358 21 = mt_358_21 := mz_sf_add ms_358_0 (t := 21) rfl rfl
theorem ms_358_33 : mz_sf mk_358 33 = mt_358_33 := mz_sf_add ms_358_21 (t := 12) rfl rfl
theorem ms_358_42 : mz_sf mk_358 42 = mt_358_42 := mz_sf_add ms_358_33 (t := 9) rfl rfl
set_option maxRecDepth 100000 in
theorem mzq_358 : mz_PG0 358 = some (11, ⟨"KeptHouse", "account", "(II)J"⟩, prog_1_method_58_code, 3, some .long, [], mk_358, []) := rfl
theorem cg_358_0 (hd : 1 ≤ d) (hS : mz_extR S 232) (hR : mz_rok R 232)  (v1 : Int32) (v2 : Int32) (N : mz_N) {C0 : (Nat × Int64) → Prop} (hr : ∀ (w : Int64), C0 (0, w) → Q (.inl (some (.long w))) (mz_k S R N b t)) (ht : ∀ (c : Nat) (w : Int64), ¬ c = 0 → C0 (c, w) → Q (.inr (c - 1)) (mz_k S R N b (t + 1))) (h1000 : t < 1000) (hp : cp_358_0 v1 v2 N) (hC : C0 (cf_358_0 v1 v2 N)) : mz_G (d, mz_X0 L xs, some .long, [], mk_358, 3, Q) 0 mk_358 [(0, .ref 0), (1, .int v1), (2, .int v2)] [] true (mz_k S R N b t) := by
  unfold cf_358_0 at hC
  unfold cp_358_0 at hp
  refine g_aload_n rfl ?_
  obtain ⟨h1, hp⟩ := hp
  refine g_v1nt (Nat.le_of_ble_eq_true rfl) (mz_at hS (Nat.le_of_ble_eq_true rfl) mzcS_0) rfl (fun _ hz0 hz1 => cs_104 (Nat.le_trans (Nat.le_of_ble_eq_true rfl) hd) (hS.le (Nat.le_of_ble_eq_true rfl)) (hR.le (Nat.le_of_ble_eq_true rfl))  N h1 h1000 hz0 hz1) hC (fun h9 hC => ?_) (fun h9 hC => ?_)
  · have hp := hp.1 h9
    refine g_iload_n rfl (g_iconst mzi_0 (g_bipush mzb_9 ?_))
    obtain ⟨h2, hp⟩ := hp
    refine g_s3nt (Nat.le_of_ble_eq_true rfl) rfl (fun _ hz0 hz1 => cs_105 (Nat.le_trans (Nat.le_of_ble_eq_true rfl) hd) (hS.le (Nat.le_of_ble_eq_true rfl)) (hR.le (Nat.le_of_ble_eq_true rfl))  v1 0 9 h2 h1000 hz0 hz1) hC (fun h8 hC => ?_) (fun h8 hC => ?_)
    · have hp := hp.1 h8
      refine g_iload_n rfl (g_iconst mzi_0 (g_iconst mzi_1 ?_))
      obtain ⟨h3, hp⟩ := hp
      refine g_s3nt (Nat.le_of_ble_eq_true rfl) rfl (fun _ hz0 hz1 => cs_105 (Nat.le_trans (Nat.le_of_ble_eq_true rfl) hd) (hS.le (Nat.le_of_ble_eq_true rfl)) (hR.le (Nat.le_of_ble_eq_true rfl))  v2 0 1 h3 h1000 hz0 hz1) hC (fun h7 hC => ?_) (fun h7 hC => ?_)
      · have hp := hp.1 h7
        refine g_iload_n rfl ?_
        refine g_ifne (tg := 33) rfl ms_358_33 hC (fun h4 hC => ?_) (fun h4 hC => ?_)
        · have hp := hp.1 h4
          refine g_aload_n rfl (g_getR (mz_at hS (Nat.le_of_ble_eq_true rfl) mzcS_0) mzcf_11_8 (mz_rb hR (Nat.le_of_ble_eq_true rfl) rfl mzcR_0_8) (g_getR (mz_at hS (Nat.le_of_ble_eq_true rfl) mzcS_208) mzcf_1_6 (mz_rb hR (Nat.le_of_ble_eq_true rfl) rfl mzcR_208_6) (g_iload_n rfl ?_)))
          have h5 := hp
          refine g_lald (mz_at hS (Nat.le_of_ble_eq_true rfl) mzcS_213) h5 (g_goto (tg := 42) rfl ms_358_42 ?_)
          exact g_lret rfl (hr _ hC)
        · have hp := hp.2 h4
          refine g_aload_n rfl (g_getR (mz_at hS (Nat.le_of_ble_eq_true rfl) mzcS_0) mzcf_11_8 (mz_rb hR (Nat.le_of_ble_eq_true rfl) rfl mzcR_0_8) (g_getR (mz_at hS (Nat.le_of_ble_eq_true rfl) mzcS_208) mzcf_1_7 (mz_rb hR (Nat.le_of_ble_eq_true rfl) rfl mzcR_208_7) (g_iload_n rfl ?_)))
          have h6 := hp
          refine g_lald (mz_at hS (Nat.le_of_ble_eq_true rfl) mzcS_214) h6 ?_
          exact g_lret rfl (hr _ hC)
      · have hp := hp.2 h7
        exact ht _ _ h7 hC
    · have hp := hp.2 h8
      exact ht _ _ h8 hC
  · have hp := hp.2 h9
    exact ht _ _ h9 hC
theorem cs_358 (hd : 2 ≤ d) (hS : mz_extR S 232) (hR : mz_rok R 232)  (v1 : Int32) (v2 : Int32) (N : mz_N) (hp : cp_358_0 v1 v2 N) (h1000 : t < 1000) (h0 : (cf_358_0 v1 v2 N).1 = 0 → Q (.inl (some (.long ((cf_358_0 v1 v2 N).2)))) (mz_k S R N b t)) (h1 : ¬ (cf_358_0 v1 v2 N).1 = 0 → Q (.inr (((cf_358_0 v1 v2 N).1) - 1)) (mz_k S R N b (t + 1))) : mz_Ed (mz_X0 L xs) d 358 [.ref 0, .int v1, .int v2] (mz_k S R N b t) Q :=
  by
  refine g_in mzq_358 (Nat.le_of_ble_eq_true rfl) (Nat.le_of_ble_eq_true rfl) (Nat.le_trans (Nat.le_of_ble_eq_true rfl) hd) ?_
  refine g_weak ?_ (cg_358_0 (d := d - 1) (by omega) hS hR v1 v2 N (C0 := fun z => (z.1 = 0 → Q (.inl (some (.long z.2))) (mz_k S R N b t)) ∧ (¬ z.1 = 0 → Q (.inr (z.1 - 1)) (mz_k S R N b (t + 1)))) (fun _ h => h.1 rfl) (fun c _ hc h => h.2 hc) h1000 hp ⟨h0, h1⟩)
  exact ⟨rfl, rfl, rfl, trivial⟩
/-! 357 KeptHouseLaw.account (LKeptHouse;II[J)I -/
theorem ms_357_0 : mz_sf mk_357 0 = mk_357 := mz_sf_zero _
theorem ms_357_14 : mz_sf mk_357 14 = mt_357_14 := mz_sf_add ms_357_0 (t := 14) rfl rfl
theorem ms_357_18 : mz_sf mk_357 18 = mt_357_18 := mz_sf_add ms_357_14 (t := 4) rfl rfl
theorem ms_357_20 : mz_sf mk_357 20 = mt_357_20 := mz_sf_add ms_357_18 (t := 2) rfl rfl
set_option maxRecDepth 100000 in
theorem mzq_357 : mz_PG0 357 = some (13, ⟨"KeptHouseLaw", "account", "(LKeptHouse;II[J)I"⟩, method_54_code, 5, some .int, [(0, 9, 12, 13), (0, 9, 16, 15)], mk_357, [(0, 12, 14), (1, 16, 18)]) := rfl
theorem cg_357_0 (hd : 2 ≤ d) (hS : mz_extR S 343) (hR : mz_rok R 343)  (v1 : Int32) (v2 : Int32) (N : mz_N) (t : Nat) {C0 : (Int32 × mz_N × Nat) → Prop} (hr : ∀ (w : Int32) (N2 : mz_N) (t2 : Nat), C0 (w, N2, t2) → Q (.inl (some (.int w))) (mz_k S R N2 b t2)) (hp : cp_357_0 v1 v2 N t) (hC : C0 (cf_357_0 v1 v2 N t)) : mz_G (d, mz_X0 L xs, some .int, [(0, 12, 14), (1, 16, 18)], mk_357, 5, Q) 0 mk_357 [(0, .ref 0), (1, .int v1), (2, .int v2), (3, .ref 342)] [] true (mz_k S R N b t) := by
  unfold cf_357_0 at hC
  unfold cp_357_0 at hp
  refine g_aload_n rfl (g_iconst mzi_0 (g_aload_n rfl (g_iload_n rfl (g_iload_n rfl ?_))))
  obtain ⟨h1, hp⟩ := hp
  obtain ⟨h1000, hp⟩ := hp
  refine g_v3vh (Nat.le_of_ble_eq_true rfl) (mz_at hS (Nat.le_of_ble_eq_true rfl) mzcS_0) (fun _ hz0 hz1 => cs_358 (Nat.le_trans (Nat.le_of_ble_eq_true rfl) hd) (hS.le (Nat.le_of_ble_eq_true rfl)) (hR.le (Nat.le_of_ble_eq_true rfl))  v1 v2 N h1 h1000 hz0 hz1) hC (fun h2 hC => ?_) (fun h2 hC => ?_)
  · have hp := hp.1 h2
    refine g_last (mz_at hS (Nat.le_of_ble_eq_true rfl) mzcS_342) (mz_ibd (by decide)) (g_goto (tg := 20) rfl ms_357_20 (g_iconst mzi_0 ?_))
    exact g_iret rfl (hr _ _ _ hC)
  · have hp := hp.2 h2
    refine mz_cs hC (fun h6 hC => ?_) (fun h6 hC => ?_)
    · have hp := hp.1 h6
      refine ⟨(0, 12, 14), (by rw [h6]; rfl), ?_⟩
      show mz_G (d, mz_X0 L xs, some .int, [(0, 12, 14), (1, 16, 18)], mk_357, 5, Q) 14 (mz_sf mk_357 14) [] [] false (mz_k S R N b (t + 1))
      rw [ms_357_14]
      refine g_iconst mzi_1 ?_
      exact g_iret rfl (hr _ _ _ hC)
    · have hp := hp.2 h6
      have h4 := hp
      refine ⟨(1, 16, 18), (by rw [h4]; rfl), ?_⟩
      show mz_G (d, mz_X0 L xs, some .int, [(0, 12, 14), (1, 16, 18)], mk_357, 5, Q) 18 (mz_sf mk_357 18) [] [] false (mz_k S R N b (t + 1))
      rw [ms_357_18]
      refine g_iconst mzi_2 ?_
      exact g_iret rfl (hr _ _ _ hC)
theorem cs_357 (hd : 3 ≤ d) (hS : mz_extR S 343) (hR : mz_rok R 343)  (v1 : Int32) (v2 : Int32) (N : mz_N) (t : Nat) (hp : cp_357_0 v1 v2 N t) (hq : Q (.inl (some (.int ((cf_357_0 v1 v2 N t).1)))) (mz_k S R ((cf_357_0 v1 v2 N t).2.1) b ((cf_357_0 v1 v2 N t).2.2))) : mz_Ed (mz_X0 L xs) d 357 [.ref 0, .int v1, .int v2, .ref 342] (mz_k S R N b t) Q :=
  by
  refine g_in mzq_357 (Nat.le_of_ble_eq_true rfl) (Nat.le_of_ble_eq_true rfl) (Nat.le_trans (Nat.le_of_ble_eq_true rfl) hd) ?_
  refine g_weak ?_ (cg_357_0 (d := d - 1) (by omega) hS hR v1 v2 N t (C0 := fun z => Q (.inl (some (.int z.1))) (mz_k S R z.2.1 b z.2.2)) (fun _ _ _ h => h) hp hq)
  exact ⟨rfl, rfl, rfl, rfl, trivial⟩
/-! 360 KeptHouse.money (I)J -/
theorem ms_360_0 : mz_sf mk_360 0 = mk_360 := mz_sf_zero _
theorem ms_360_44 : mz_sf mk_360 44 = mt_360_44 := mz_sf_add ms_360_0 (t := 44) rfl rfl
theorem ms_360_52 : mz_sf mk_360 52 = mt_360_52 := mz_sf_add ms_360_44 (t := 8) rfl rfl
theorem ms_360_61 : mz_sf mk_360 61 = mt_360_61 := mz_sf_add ms_360_52 (t := 9) rfl rfl
set_option maxRecDepth 100000 in
theorem mzq_360 : mz_PG0 360 = some (11, ⟨"KeptHouse", "money", "(I)J"⟩, prog_1_method_59_code, 2, some .long, [], mk_360, []) := rfl
theorem cg_360_0 (hd : 1 ≤ d) (hS : mz_extR S 232) (hR : mz_rok R 232)  (v1 : Int32) (N : mz_N) {C0 : (Nat × Int64) → Prop} (hr : ∀ (w : Int64), C0 (0, w) → Q (.inl (some (.long w))) (mz_k S R N b t)) (ht : ∀ (c : Nat) (w : Int64), ¬ c = 0 → C0 (c, w) → Q (.inr (c - 1)) (mz_k S R N b (t + 1))) (h1000 : t < 1000) (hp : cp_360_0 v1 N) (hC : C0 (cf_360_0 v1 N)) : mz_G (d, mz_X0 L xs, some .long, [], mk_360, 2, Q) 0 mk_360 [(0, .ref 0), (1, .int v1)] [] true (mz_k S R N b t) := by
  unfold cf_360_0 at hC
  unfold cp_360_0 at hp
  refine g_aload_n rfl ?_
  obtain ⟨h1, hp⟩ := hp
  refine g_v1nt (Nat.le_of_ble_eq_true rfl) (mz_at hS (Nat.le_of_ble_eq_true rfl) mzcS_0) rfl (fun _ hz0 hz1 => cs_104 (Nat.le_trans (Nat.le_of_ble_eq_true rfl) hd) (hS.le (Nat.le_of_ble_eq_true rfl)) (hR.le (Nat.le_of_ble_eq_true rfl))  N h1 h1000 hz0 hz1) hC (fun h7 hC => ?_) (fun h7 hC => ?_)
  · have hp := hp.1 h7
    refine g_iload_n rfl (g_iconst mzi_0 (g_iconst mzi_3 ?_))
    have h2 := hp
    refine g_s3nt (Nat.le_of_ble_eq_true rfl) rfl (fun _ hz0 hz1 => cs_105 (Nat.le_trans (Nat.le_of_ble_eq_true rfl) hd) (hS.le (Nat.le_of_ble_eq_true rfl)) (hR.le (Nat.le_of_ble_eq_true rfl))  v1 0 3 h2 h1000 hz0 hz1) hC (fun h6 hC => ?_) (fun h6 hC => ?_)
    · refine g_iload_n rfl ?_
      refine mz_cs hC (fun h3 hC => ?_) (fun h3 hC => ?_)
      · refine g_brn (tg := 36) (by rw [h3]; rfl) (by decide) rfl ?_
        refine g_aload_n rfl (g_getR (mz_at hS (Nat.le_of_ble_eq_true rfl) mzcS_0) mzcf_11_8 (mz_rb hR (Nat.le_of_ble_eq_true rfl) rfl mzcR_0_8) (g_getL (mz_at hS (Nat.le_of_ble_eq_true rfl) mzcS_208) mzcf_1_1 ?_))
        exact g_lret rfl (hr _ hC)
      · refine mz_cs hC (fun h4 hC => ?_) (fun h4 hC => ?_)
        · refine g_br (tg := 44) (by rw [h4]; rfl) ms_360_44 ?_
          refine g_aload_n rfl (g_getR (mz_at hS (Nat.le_of_ble_eq_true rfl) mzcS_0) mzcf_11_8 (mz_rb hR (Nat.le_of_ble_eq_true rfl) rfl mzcR_0_8) (g_getL (mz_at hS (Nat.le_of_ble_eq_true rfl) mzcS_208) mzcf_1_2 ?_))
          exact g_lret rfl (hr _ hC)
        · refine mz_cs hC (fun h5 hC => ?_) (fun h5 hC => ?_)
          · refine g_br (tg := 52) (by rw [h5]; rfl) ms_360_52 ?_
            refine g_aload_n rfl (g_getR (mz_at hS (Nat.le_of_ble_eq_true rfl) mzcS_0) mzcf_11_8 (mz_rb hR (Nat.le_of_ble_eq_true rfl) rfl mzcR_0_8) (g_getI (mz_at hS (Nat.le_of_ble_eq_true rfl) mzcS_208) mzcf_1_3 (g_i2l ?_)))
            exact g_lret rfl (hr _ hC)
          · refine g_br (tg := 61) ((mz_tsw_d (l := [0, 1, 2]) (mz_rng 0 2) ⟨h3, h4, h5, trivial⟩).trans (mz_tg_t rfl)) ms_360_61 ?_
            refine g_aload_n rfl (g_getR (mz_at hS (Nat.le_of_ble_eq_true rfl) mzcS_0) mzcf_11_8 (mz_rb hR (Nat.le_of_ble_eq_true rfl) rfl mzcR_0_8) (g_getI (mz_at hS (Nat.le_of_ble_eq_true rfl) mzcS_208) mzcf_1_4 (g_i2l ?_)))
            exact g_lret rfl (hr _ hC)
    · exact ht _ _ h6 hC
  · have hp := hp.2 h7
    exact ht _ _ h7 hC
theorem cs_360 (hd : 2 ≤ d) (hS : mz_extR S 232) (hR : mz_rok R 232)  (v1 : Int32) (N : mz_N) (hp : cp_360_0 v1 N) (h1000 : t < 1000) (h0 : (cf_360_0 v1 N).1 = 0 → Q (.inl (some (.long ((cf_360_0 v1 N).2)))) (mz_k S R N b t)) (h1 : ¬ (cf_360_0 v1 N).1 = 0 → Q (.inr (((cf_360_0 v1 N).1) - 1)) (mz_k S R N b (t + 1))) : mz_Ed (mz_X0 L xs) d 360 [.ref 0, .int v1] (mz_k S R N b t) Q :=
  by
  refine g_in mzq_360 (Nat.le_of_ble_eq_true rfl) (Nat.le_of_ble_eq_true rfl) (Nat.le_trans (Nat.le_of_ble_eq_true rfl) hd) ?_
  refine g_weak ?_ (cg_360_0 (d := d - 1) (by omega) hS hR v1 N (C0 := fun z => (z.1 = 0 → Q (.inl (some (.long z.2))) (mz_k S R N b t)) ∧ (¬ z.1 = 0 → Q (.inr (z.1 - 1)) (mz_k S R N b (t + 1)))) (fun _ h => h.1 rfl) (fun c _ hc h => h.2 hc) h1000 hp ⟨h0, h1⟩)
  exact ⟨rfl, rfl, trivial⟩
/-! 359 KeptHouseLaw.money (LKeptHouse;I[J)I -/
theorem ms_359_0 : mz_sf mk_359 0 = mk_359 := mz_sf_zero _
theorem ms_359_12 : mz_sf mk_359 12 = mt_359_12 := mz_sf_add ms_359_0 (t := 12) rfl rfl
theorem ms_359_15 : mz_sf mk_359 15 = mt_359_15 := mz_sf_add ms_359_12 (t := 3) rfl rfl
theorem ms_359_17 : mz_sf mk_359 17 = mt_359_17 := mz_sf_add ms_359_15 (t := 2) rfl rfl
set_option maxRecDepth 100000 in
theorem mzq_359 : mz_PG0 359 = some (13, ⟨"KeptHouseLaw", "money", "(LKeptHouse;I[J)I"⟩, method_55_code, 4, some .int, [(0, 8, 11, 13), (0, 8, 14, 15)], mk_359, [(0, 11, 12), (1, 14, 15)]) := rfl
theorem cg_359_0 (hd : 2 ≤ d) (hS : mz_extR S 343) (hR : mz_rok R 343)  (v1 : Int32) (N : mz_N) (t : Nat) {C0 : (Int32 × mz_N × Nat) → Prop} (hr : ∀ (w : Int32) (N2 : mz_N) (t2 : Nat), C0 (w, N2, t2) → Q (.inl (some (.int w))) (mz_k S R N2 b t2)) (hp : cp_359_0 v1 N t) (hC : C0 (cf_359_0 v1 N t)) : mz_G (d, mz_X0 L xs, some .int, [(0, 11, 12), (1, 14, 15)], mk_359, 4, Q) 0 mk_359 [(0, .ref 0), (1, .int v1), (2, .ref 342)] [] true (mz_k S R N b t) := by
  unfold cf_359_0 at hC
  unfold cp_359_0 at hp
  refine g_aload_n rfl (g_iconst mzi_0 (g_aload_n rfl (g_iload_n rfl ?_)))
  obtain ⟨h1, hp⟩ := hp
  obtain ⟨h1000, hp⟩ := hp
  refine g_v2vh (Nat.le_of_ble_eq_true rfl) (mz_at hS (Nat.le_of_ble_eq_true rfl) mzcS_0) (fun _ hz0 hz1 => cs_360 (Nat.le_trans (Nat.le_of_ble_eq_true rfl) hd) (hS.le (Nat.le_of_ble_eq_true rfl)) (hR.le (Nat.le_of_ble_eq_true rfl))  v1 N h1 h1000 hz0 hz1) hC (fun h2 hC => ?_) (fun h2 hC => ?_)
  · have hp := hp.1 h2
    refine g_last (mz_at hS (Nat.le_of_ble_eq_true rfl) mzcS_342) (mz_ibd (by decide)) (g_goto (tg := 17) rfl ms_359_17 (g_iconst mzi_0 ?_))
    exact g_iret rfl (hr _ _ _ hC)
  · have hp := hp.2 h2
    refine mz_cs hC (fun h6 hC => ?_) (fun h6 hC => ?_)
    · have hp := hp.1 h6
      refine ⟨(0, 11, 12), (by rw [h6]; rfl), ?_⟩
      show mz_G (d, mz_X0 L xs, some .int, [(0, 11, 12), (1, 14, 15)], mk_359, 4, Q) 12 (mz_sf mk_359 12) [] [] false (mz_k S R N b (t + 1))
      rw [ms_359_12]
      refine g_iconst mzi_1 ?_
      exact g_iret rfl (hr _ _ _ hC)
    · have hp := hp.2 h6
      have h4 := hp
      refine ⟨(1, 14, 15), (by rw [h4]; rfl), ?_⟩
      show mz_G (d, mz_X0 L xs, some .int, [(0, 11, 12), (1, 14, 15)], mk_359, 4, Q) 15 (mz_sf mk_359 15) [] [] false (mz_k S R N b (t + 1))
      rw [ms_359_15]
      refine g_iconst mzi_2 ?_
      exact g_iret rfl (hr _ _ _ hC)
theorem cs_359 (hd : 3 ≤ d) (hS : mz_extR S 343) (hR : mz_rok R 343)  (v1 : Int32) (N : mz_N) (t : Nat) (hp : cp_359_0 v1 N t) (hq : Q (.inl (some (.int ((cf_359_0 v1 N t).1)))) (mz_k S R ((cf_359_0 v1 N t).2.1) b ((cf_359_0 v1 N t).2.2))) : mz_Ed (mz_X0 L xs) d 359 [.ref 0, .int v1, .ref 342] (mz_k S R N b t) Q :=
  by
  refine g_in mzq_359 (Nat.le_of_ble_eq_true rfl) (Nat.le_of_ble_eq_true rfl) (Nat.le_trans (Nat.le_of_ble_eq_true rfl) hd) ?_
  refine g_weak ?_ (cg_359_0 (d := d - 1) (by omega) hS hR v1 N t (C0 := fun z => Q (.inl (some (.int z.1))) (mz_k S R z.2.1 b z.2.2)) (fun _ _ _ h => h) hp hq)
  exact ⟨rfl, rfl, rfl, trivial⟩
/-! 362 KeptHouse.pay (II)I -/
theorem ms_362_0 : mz_sf mk_362 0 = mk_362 := mz_sf_zero _
theorem ms_362_33 : mz_sf mk_362 33 = mt_362_33 := mz_sf_add ms_362_0 (t := 33) rfl rfl
theorem ms_362_64 : mz_sf mk_362 64 = mt_362_64 := mz_sf_add ms_362_33 (t := 31) rfl rfl
theorem ms_362_88 : mz_sf mk_362 88 = mt_362_88 := mz_sf_add ms_362_64 (t := 24) rfl rfl
theorem ms_362_91 : mz_sf mk_362 91 = mt_362_91 := mz_sf_add ms_362_88 (t := 3) rfl rfl
set_option maxRecDepth 100000 in
theorem mzq_362 : mz_PG0 362 = some (11, ⟨"KeptHouse", "pay", "(II)I"⟩, prog_1_method_60_code, 3, some .int, [], mk_362, []) := rfl
theorem cg_362_64 (hd : 4 ≤ d) (hS : mz_extR S 232) (hR : mz_rok R 232)  (N : mz_N) (b : Bool) {C0 : (Nat × Int32 × mz_N) → Prop} (hr : ∀ (w : Int32) (N2 : mz_N), C0 (0, w, N2) → Q (.inl (some (.int w))) (mz_k S R N2 b t)) (ht : ∀ (c : Nat) (w : Int32) (N2 : mz_N), ¬ c = 0 → C0 (c, w, N2) → Q (.inr (c - 1)) (mz_k S R N2 b (t + 1))) (h1000 : t < 1000) (hp : cp_362_64 N b) (hC : C0 (cf_362_64 N b)) : mz_G (d, mz_X0 L xs, some .int, [], mk_362, 3, Q) 64 mt_362_64 [(0, .ref 0)] [] false (mz_k S R N b t) := by
  unfold cf_362_64 at hC
  unfold cp_362_64 at hp
  refine g_aload_n rfl (g_getR (mz_at hS (Nat.le_of_ble_eq_true rfl) mzcS_0) mzcf_11_0 (mz_rb hR (Nat.le_of_ble_eq_true rfl) rfl mzcR_0_0) (g_bipush mzb_9 (g_iconst mzi_0 ?_)))
  obtain ⟨h1, hp⟩ := hp
  refine g_v3n (Nat.le_of_ble_eq_true rfl) (mz_at hS (Nat.le_of_ble_eq_true rfl) mzcS_1) (fun _ hq => cs_119 (Nat.le_trans (Nat.le_of_ble_eq_true rfl) hd) (hS.le (Nat.le_of_ble_eq_true rfl)) (hR.le (Nat.le_of_ble_eq_true rfl))  9 0 N h1 hq) (g_aload_n rfl (g_getR (mz_at hS (Nat.le_of_ble_eq_true rfl) mzcS_0) mzcf_11_0 (mz_rb hR (Nat.le_of_ble_eq_true rfl) rfl mzcR_0_0) ?_))
  have h2 := hp
  refine g_v1v (Nat.le_of_ble_eq_true rfl) (mz_at hS (Nat.le_of_ble_eq_true rfl) mzcS_1) (fun _ hq => cs_121 (Nat.le_trans (Nat.le_of_ble_eq_true rfl) hd) (hS.le (Nat.le_of_ble_eq_true rfl)) (hR.le (Nat.le_of_ble_eq_true rfl))  (cf_119_0 9 0 N) b h2 hq) ?_
  refine g_zeq (tg := 88) rfl ms_362_88 hC (fun h3 hC => ?_) (fun h3 hC => ?_)
  · refine g_iconst mzi_0 (g_goto (tg := 91) rfl ms_362_91 ?_)
    exact g_iret rfl (hr _ _ hC)
  · refine g_sipush mzs_m1001 ?_
    exact g_iret rfl (hr _ _ hC)
theorem cg_362_0 (hd : 4 ≤ d) (hS : mz_extR S 232) (hR : mz_rok R 232)  (v1 : Int32) (v2 : Int32) (N : mz_N) (b : Bool) {C0 : (Nat × Int32 × mz_N) → Prop} (hr : ∀ (w : Int32) (N2 : mz_N), C0 (0, w, N2) → Q (.inl (some (.int w))) (mz_k S R N2 b t)) (ht : ∀ (c : Nat) (w : Int32) (N2 : mz_N), ¬ c = 0 → C0 (c, w, N2) → Q (.inr (c - 1)) (mz_k S R N2 b (t + 1))) (h1000 : t < 1000) (hp : cp_362_0 v1 v2 N b) (hC : C0 (cf_362_0 v1 v2 N b)) : mz_G (d, mz_X0 L xs, some .int, [], mk_362, 3, Q) 0 mk_362 [(0, .ref 0), (1, .int v1), (2, .int v2)] [] true (mz_k S R N b t) := by
  unfold cf_362_0 at hC
  unfold cp_362_0 at hp
  refine g_aload_n rfl ?_
  obtain ⟨h1, hp⟩ := hp
  refine g_v1nt (Nat.le_of_ble_eq_true rfl) (mz_at hS (Nat.le_of_ble_eq_true rfl) mzcS_0) rfl (fun _ hz0 hz1 => cs_104 (Nat.le_trans (Nat.le_of_ble_eq_true rfl) hd) (hS.le (Nat.le_of_ble_eq_true rfl)) (hR.le (Nat.le_of_ble_eq_true rfl))  N h1 h1000 hz0 hz1) hC (fun h10 hC => ?_) (fun h10 hC => ?_)
  · have hp := hp.1 h10
    refine g_iload_n rfl (g_iconst mzi_0 (g_bipush mzb_9 ?_))
    obtain ⟨h2, hp⟩ := hp
    refine g_s3nt (Nat.le_of_ble_eq_true rfl) rfl (fun _ hz0 hz1 => cs_105 (Nat.le_trans (Nat.le_of_ble_eq_true rfl) hd) (hS.le (Nat.le_of_ble_eq_true rfl)) (hR.le (Nat.le_of_ble_eq_true rfl))  v1 0 9 h2 h1000 hz0 hz1) hC (fun h9 hC => ?_) (fun h9 hC => ?_)
    · have hp := hp.1 h9
      refine g_iload_n rfl (g_iconst mzi_1 (g_con3 ?_))
      obtain ⟨h3, hp⟩ := hp
      refine g_s3nt (Nat.le_of_ble_eq_true rfl) rfl (fun _ hz0 hz1 => cs_105 (Nat.le_trans (Nat.le_of_ble_eq_true rfl) hd) (hS.le (Nat.le_of_ble_eq_true rfl)) (hR.le (Nat.le_of_ble_eq_true rfl))  v2 1 100000000 h3 h1000 hz0 hz1) hC (fun h8 hC => ?_) (fun h8 hC => ?_)
      · have hp := hp.1 h8
        refine g_aload_n rfl (g_getR (mz_at hS (Nat.le_of_ble_eq_true rfl) mzcS_0) mzcf_11_8 (mz_rb hR (Nat.le_of_ble_eq_true rfl) rfl mzcR_0_8) (g_getR (mz_at hS (Nat.le_of_ble_eq_true rfl) mzcS_208) mzcf_1_6 (mz_rb hR (Nat.le_of_ble_eq_true rfl) rfl mzcR_208_6) (g_iload_n rfl (g_dup2 rfl rfl ?_))))
        obtain ⟨h4, hp⟩ := hp
        refine g_lald (mz_at hS (Nat.le_of_ble_eq_true rfl) mzcS_213) h4 (g_iload_n rfl (g_i2l (g_ladd ?_)))
        obtain ⟨h5, hp⟩ := hp
        refine g_last (mz_at hS (Nat.le_of_ble_eq_true rfl) mzcS_213) h5 (g_aload_n rfl (g_getR (mz_at hS (Nat.le_of_ble_eq_true rfl) mzcS_0) mzcf_11_8 (mz_rb hR (Nat.le_of_ble_eq_true rfl) rfl mzcR_0_8) (g_dup rfl (g_getL (mz_at hS (Nat.le_of_ble_eq_true rfl) mzcS_208) mzcf_1_1 (g_iload_n rfl (g_i2l (g_ladd ?_)))))))
        refine g_putL (mz_at hS (Nat.le_of_ble_eq_true rfl) mzcS_208) mzcf_1_1 (g_aload_n rfl (g_getR (mz_at hS (Nat.le_of_ble_eq_true rfl) mzcS_0) mzcf_11_0 (mz_rb hR (Nat.le_of_ble_eq_true rfl) rfl mzcR_0_0) ?_))
        refine g_v1n (Nat.le_of_ble_eq_true rfl) (mz_at hS (Nat.le_of_ble_eq_true rfl) mzcS_1) (fun _ hq => cs_117 (Nat.le_trans (Nat.le_of_ble_eq_true rfl) hd) (hS.le (Nat.le_of_ble_eq_true rfl)) (hR.le (Nat.le_of_ble_eq_true rfl))  (mz_pL (mz_wL N 213 v1 ((mz_gL N 213 v1) + v2.toInt64)) 208 1 (((mz_wL N 213 v1 ((mz_gL N 213 v1) + v2.toInt64)).2 208 1) + v2.toInt64)) trivial hq) (g_aload_n rfl (g_getR (mz_at hS (Nat.le_of_ble_eq_true rfl) mzcS_0) mzcf_11_0 (mz_rb hR (Nat.le_of_ble_eq_true rfl) rfl mzcR_0_0) (g_bipush mzb_8 (g_iload_n rfl ?_))))
        obtain ⟨h7, hp⟩ := hp
        refine g_v3n (Nat.le_of_ble_eq_true rfl) (mz_at hS (Nat.le_of_ble_eq_true rfl) mzcS_1) (fun _ hq => cs_119 (Nat.le_trans (Nat.le_of_ble_eq_true rfl) hd) (hS.le (Nat.le_of_ble_eq_true rfl)) (hR.le (Nat.le_of_ble_eq_true rfl))  8 v1 (cf_117_0 (mz_pL (mz_wL N 213 v1 ((mz_gL N 213 v1) + v2.toInt64)) 208 1 (((mz_wL N 213 v1 ((mz_gL N 213 v1) + v2.toInt64)).2 208 1) + v2.toInt64))) h7 hq) ?_
        refine g_weak ?_ (g_cl (cg_362_64 hd hS hR (cf_119_0 8 v1 (cf_117_0 (mz_pL (mz_wL N 213 v1 ((mz_gL N 213 v1) + v2.toInt64)) 208 1 (((mz_wL N 213 v1 ((mz_gL N 213 v1) + v2.toInt64)).2 208 1) + v2.toInt64)))) b hr ht h1000 hp hC))
        exact ⟨rfl, trivial⟩
      · have hp := hp.2 h8
        exact ht _ _ _ h8 hC
    · have hp := hp.2 h9
      exact ht _ _ _ h9 hC
  · have hp := hp.2 h10
    exact ht _ _ _ h10 hC
theorem cs_362 (hd : 5 ≤ d) (hS : mz_extR S 232) (hR : mz_rok R 232)  (v1 : Int32) (v2 : Int32) (N : mz_N) (b : Bool) (hp : cp_362_0 v1 v2 N b) (h1000 : t < 1000) (h0 : (cf_362_0 v1 v2 N b).1 = 0 → Q (.inl (some (.int ((cf_362_0 v1 v2 N b).2.1)))) (mz_k S R ((cf_362_0 v1 v2 N b).2.2) b t)) (h1 : ¬ (cf_362_0 v1 v2 N b).1 = 0 → Q (.inr (((cf_362_0 v1 v2 N b).1) - 1)) (mz_k S R ((cf_362_0 v1 v2 N b).2.2) b (t + 1))) : mz_Ed (mz_X0 L xs) d 362 [.ref 0, .int v1, .int v2] (mz_k S R N b t) Q :=
  by
  refine g_in mzq_362 (Nat.le_of_ble_eq_true rfl) (Nat.le_of_ble_eq_true rfl) (Nat.le_trans (Nat.le_of_ble_eq_true rfl) hd) ?_
  refine g_weak ?_ (cg_362_0 (d := d - 1) (by omega) hS hR v1 v2 N b (C0 := fun z => (z.1 = 0 → Q (.inl (some (.int z.2.1))) (mz_k S R z.2.2 b t)) ∧ (¬ z.1 = 0 → Q (.inr (z.1 - 1)) (mz_k S R z.2.2 b (t + 1)))) (fun _ _ h => h.1 rfl) (fun c _ _ hc h => h.2 hc) h1000 hp ⟨h0, h1⟩)
  exact ⟨rfl, rfl, rfl, trivial⟩
/-! 361 KeptHouseLaw.pay (LKeptHouse;II[J)I -/
theorem ms_361_0 : mz_sf mk_361 0 = mk_361 := mz_sf_zero _
theorem ms_361_15 : mz_sf mk_361 15 = mt_361_15 := mz_sf_add ms_361_0 (t := 15) rfl rfl
theorem ms_361_19 : mz_sf mk_361 19 = mt_361_19 := mz_sf_add ms_361_15 (t := 4) rfl rfl
theorem ms_361_21 : mz_sf mk_361 21 = mt_361_21 := mz_sf_add ms_361_19 (t := 2) rfl rfl
set_option maxRecDepth 100000 in
theorem mzq_361 : mz_PG0 361 = some (13, ⟨"KeptHouseLaw", "pay", "(LKeptHouse;II[J)I"⟩, method_56_code, 5, some .int, [(0, 10, 13, 13), (0, 10, 17, 15)], mk_361, [(0, 13, 15), (1, 17, 19)]) := rfl
theorem cg_361_21 (hd : 5 ≤ d) (hS : mz_extR S 343) (hR : mz_rok R 343)  (N : mz_N) (b : Bool) (t : Nat) {C0 : (Int32 × mz_N × Nat) → Prop} (hr : ∀ (w : Int32) (N2 : mz_N) (t2 : Nat), C0 (w, N2, t2) → Q (.inl (some (.int w))) (mz_k S R N2 b t2)) (hp : cp_361_21 N b t) (hC : C0 (cf_361_21 N b t)) : mz_G (d, mz_X0 L xs, some .int, [(0, 13, 15), (1, 17, 19)], mk_361, 5, Q) 21 mt_361_21 [] [] false (mz_k S R N b t) := by
  unfold cf_361_21 at hC
  unfold cp_361_21 at hp
  refine g_iconst mzi_0 ?_
  exact g_iret rfl (hr _ _ _ hC)
theorem cg_361_0 (hd : 5 ≤ d) (hS : mz_extR S 343) (hR : mz_rok R 343)  (v1 : Int32) (v2 : Int32) (N : mz_N) (b : Bool) (t : Nat) {C0 : (Int32 × mz_N × Nat) → Prop} (hr : ∀ (w : Int32) (N2 : mz_N) (t2 : Nat), C0 (w, N2, t2) → Q (.inl (some (.int w))) (mz_k S R N2 b t2)) (hp : cp_361_0 v1 v2 N b t) (hC : C0 (cf_361_0 v1 v2 N b t)) : mz_G (d, mz_X0 L xs, some .int, [(0, 13, 15), (1, 17, 19)], mk_361, 5, Q) 0 mk_361 [(0, .ref 0), (1, .int v1), (2, .int v2), (3, .ref 342)] [] true (mz_k S R N b t) := by
  unfold cf_361_0 at hC
  unfold cp_361_0 at hp
  refine g_aload_n rfl (g_iconst mzi_0 (g_aload_n rfl (g_iload_n rfl (g_iload_n rfl ?_))))
  obtain ⟨h1, hp⟩ := hp
  obtain ⟨h1000, hp⟩ := hp
  refine g_v3vh (Nat.le_of_ble_eq_true rfl) (mz_at hS (Nat.le_of_ble_eq_true rfl) mzcS_0) (fun _ hz0 hz1 => cs_362 (Nat.le_trans (Nat.le_of_ble_eq_true rfl) hd) (hS.le (Nat.le_of_ble_eq_true rfl)) (hR.le (Nat.le_of_ble_eq_true rfl))  v1 v2 N b h1 h1000 hz0 hz1) hC (fun h2 hC => ?_) (fun h2 hC => ?_)
  · have hp := hp.1 h2
    refine g_i2l (g_last (mz_at hS (Nat.le_of_ble_eq_true rfl) mzcS_342) (mz_ibd (by decide)) (g_goto (tg := 21) rfl ms_361_21 ?_))
    refine g_weak ?_ (g_cl (cg_361_21 hd hS hR (mz_wL ((cf_362_0 v1 v2 N b).2.2) 342 0 (((cf_362_0 v1 v2 N b).2.1).toInt64)) b t hr hp hC))
    exact trivial
  · have hp := hp.2 h2
    refine mz_cs hC (fun h6 hC => ?_) (fun h6 hC => ?_)
    · have hp := hp.1 h6
      refine ⟨(0, 13, 15), (by rw [h6]; rfl), ?_⟩
      show mz_G (d, mz_X0 L xs, some .int, [(0, 13, 15), (1, 17, 19)], mk_361, 5, Q) 15 (mz_sf mk_361 15) [] [] false (mz_k S R ((cf_362_0 v1 v2 N b).2.2) b (t + 1))
      rw [ms_361_15]
      refine g_iconst mzi_1 ?_
      exact g_iret rfl (hr _ _ _ hC)
    · have hp := hp.2 h6
      have h4 := hp
      refine ⟨(1, 17, 19), (by rw [h4]; rfl), ?_⟩
      show mz_G (d, mz_X0 L xs, some .int, [(0, 13, 15), (1, 17, 19)], mk_361, 5, Q) 19 (mz_sf mk_361 19) [] [] false (mz_k S R ((cf_362_0 v1 v2 N b).2.2) b (t + 1))
      rw [ms_361_19]
      refine g_iconst mzi_2 ?_
      exact g_iret rfl (hr _ _ _ hC)
theorem cs_361 (hd : 6 ≤ d) (hS : mz_extR S 343) (hR : mz_rok R 343)  (v1 : Int32) (v2 : Int32) (N : mz_N) (b : Bool) (t : Nat) (hp : cp_361_0 v1 v2 N b t) (hq : Q (.inl (some (.int ((cf_361_0 v1 v2 N b t).1)))) (mz_k S R ((cf_361_0 v1 v2 N b t).2.1) b ((cf_361_0 v1 v2 N b t).2.2))) : mz_Ed (mz_X0 L xs) d 361 [.ref 0, .int v1, .int v2, .ref 342] (mz_k S R N b t) Q :=
  by
  refine g_in mzq_361 (Nat.le_of_ble_eq_true rfl) (Nat.le_of_ble_eq_true rfl) (Nat.le_trans (Nat.le_of_ble_eq_true rfl) hd) ?_
  refine g_weak ?_ (cg_361_0 (d := d - 1) (by omega) hS hR v1 v2 N b t (C0 := fun z => Q (.inl (some (.int z.1))) (mz_k S R z.2.1 b z.2.2)) (fun _ _ _ h => h) hp hq)
  exact ⟨rfl, rfl, rfl, rfl, trivial⟩
/-! 364 KeptHouse.crash (I)V -/
theorem ms_364_0 : mz_sf mk_364 0 = mk_364 := mz_sf_zero _
set_option maxRecDepth 100000 in
theorem mzq_364 : mz_PG0 364 = some (11, ⟨"KeptHouse", "crash", "(I)V"⟩, prog_1_method_61_code, 2, none, [], mk_364, []) := rfl
theorem cg_364_0 (hd : 1 ≤ d) (hS : mz_extR S 232) (hR : mz_rok R 232)  (v1 : Int32) (N : mz_N) {C0 : (Nat × mz_N) → Prop} (hr : ∀ (N2 : mz_N), C0 (0, N2) → Q (.inl none) (mz_k S R N2 b t)) (ht : ∀ (c : Nat) (N2 : mz_N), ¬ c = 0 → C0 (c, N2) → Q (.inr (c - 1)) (mz_k S R N2 b (t + 1))) (h1000 : t < 1000) (hp : cp_364_0 v1 N) (hC : C0 (cf_364_0 v1 N)) : mz_G (d, mz_X0 L xs, none, [], mk_364, 2, Q) 0 mk_364 [(0, .ref 0), (1, .int v1)] [] true (mz_k S R N b t) := by
  unfold cf_364_0 at hC
  unfold cp_364_0 at hp
  refine g_aload_n rfl ?_
  obtain ⟨h1, hp⟩ := hp
  refine g_v1nt (Nat.le_of_ble_eq_true rfl) (mz_at hS (Nat.le_of_ble_eq_true rfl) mzcS_0) rfl (fun _ hz0 hz1 => cs_104 (Nat.le_trans (Nat.le_of_ble_eq_true rfl) hd) (hS.le (Nat.le_of_ble_eq_true rfl)) (hR.le (Nat.le_of_ble_eq_true rfl))  N h1 h1000 hz0 hz1) hC (fun h4 hC => ?_) (fun h4 hC => ?_)
  · have hp := hp.1 h4
    refine g_iload_n rfl (g_iconst mzi_m1 (g_sipush mzs_1000 ?_))
    have h2 := hp
    refine g_s3nt (Nat.le_of_ble_eq_true rfl) rfl (fun _ hz0 hz1 => cs_105 (Nat.le_trans (Nat.le_of_ble_eq_true rfl) hd) (hS.le (Nat.le_of_ble_eq_true rfl)) (hR.le (Nat.le_of_ble_eq_true rfl))  v1 (-1) 1000 h2 h1000 hz0 hz1) hC (fun h3 hC => ?_) (fun h3 hC => ?_)
    · refine g_aload_n rfl (g_getR (mz_at hS (Nat.le_of_ble_eq_true rfl) mzcS_0) mzcf_11_9 (mz_rb hR (Nat.le_of_ble_eq_true rfl) rfl mzcR_0_9) (g_iload_n rfl (g_putI (mz_at hS (Nat.le_of_ble_eq_true rfl) mzcS_219) mzcf_8_8 ?_)))
      exact g_vret rfl (hr _ hC)
    · exact ht _ _ h3 hC
  · have hp := hp.2 h4
    exact ht _ _ h4 hC
theorem cs_364 (hd : 2 ≤ d) (hS : mz_extR S 232) (hR : mz_rok R 232)  (v1 : Int32) (N : mz_N) (hp : cp_364_0 v1 N) (h1000 : t < 1000) (h0 : (cf_364_0 v1 N).1 = 0 → Q (.inl none) (mz_k S R ((cf_364_0 v1 N).2) b t)) (h1 : ¬ (cf_364_0 v1 N).1 = 0 → Q (.inr (((cf_364_0 v1 N).1) - 1)) (mz_k S R ((cf_364_0 v1 N).2) b (t + 1))) : mz_Ed (mz_X0 L xs) d 364 [.ref 0, .int v1] (mz_k S R N b t) Q :=
  by
  refine g_in mzq_364 (Nat.le_of_ble_eq_true rfl) (Nat.le_of_ble_eq_true rfl) (Nat.le_trans (Nat.le_of_ble_eq_true rfl) hd) ?_
  refine g_weak ?_ (cg_364_0 (d := d - 1) (by omega) hS hR v1 N (C0 := fun z => (z.1 = 0 → Q (.inl none) (mz_k S R z.2 b t)) ∧ (¬ z.1 = 0 → Q (.inr (z.1 - 1)) (mz_k S R z.2 b (t + 1)))) (fun _ h => h.1 rfl) (fun c _ hc h => h.2 hc) h1000 hp ⟨h0, h1⟩)
  exact ⟨rfl, rfl, trivial⟩
/-! 363 KeptHouseLaw.crash (LKeptHouse;I)I -/
theorem ms_363_0 : mz_sf mk_363 0 = mk_363 := mz_sf_zero _
theorem ms_363_9 : mz_sf mk_363 9 = mt_363_9 := mz_sf_add ms_363_0 (t := 9) rfl rfl
theorem ms_363_12 : mz_sf mk_363 12 = mt_363_12 := mz_sf_add ms_363_9 (t := 3) rfl rfl
theorem ms_363_14 : mz_sf mk_363 14 = mt_363_14 := mz_sf_add ms_363_12 (t := 2) rfl rfl
set_option maxRecDepth 100000 in
theorem mzq_363 : mz_PG0 363 = some (13, ⟨"KeptHouseLaw", "crash", "(LKeptHouse;I)I"⟩, method_57_code, 3, some .int, [(0, 5, 8, 13), (0, 5, 11, 15)], mk_363, [(0, 8, 9), (1, 11, 12)]) := rfl
theorem cg_363_0 (hd : 2 ≤ d) (hS : mz_extR S 343) (hR : mz_rok R 343)  (v1 : Int32) (N : mz_N) (t : Nat) {C0 : (Int32 × mz_N × Nat) → Prop} (hr : ∀ (w : Int32) (N2 : mz_N) (t2 : Nat), C0 (w, N2, t2) → Q (.inl (some (.int w))) (mz_k S R N2 b t2)) (hp : cp_363_0 v1 N t) (hC : C0 (cf_363_0 v1 N t)) : mz_G (d, mz_X0 L xs, some .int, [(0, 8, 9), (1, 11, 12)], mk_363, 3, Q) 0 mk_363 [(0, .ref 0), (1, .int v1)] [] true (mz_k S R N b t) := by
  unfold cf_363_0 at hC
  unfold cp_363_0 at hp
  refine g_aload_n rfl (g_iload_n rfl ?_)
  obtain ⟨h1, hp⟩ := hp
  obtain ⟨h1000, hp⟩ := hp
  refine g_v2nh (Nat.le_of_ble_eq_true rfl) (mz_at hS (Nat.le_of_ble_eq_true rfl) mzcS_0) (fun _ hz0 hz1 => cs_364 (Nat.le_trans (Nat.le_of_ble_eq_true rfl) hd) (hS.le (Nat.le_of_ble_eq_true rfl)) (hR.le (Nat.le_of_ble_eq_true rfl))  v1 N h1 h1000 hz0 hz1) hC (fun h2 hC => ?_) (fun h2 hC => ?_)
  · have hp := hp.1 h2
    refine g_goto (tg := 14) rfl ms_363_14 (g_iconst mzi_0 ?_)
    exact g_iret rfl (hr _ _ _ hC)
  · have hp := hp.2 h2
    refine mz_cs hC (fun h6 hC => ?_) (fun h6 hC => ?_)
    · have hp := hp.1 h6
      refine ⟨(0, 8, 9), (by rw [h6]; rfl), ?_⟩
      show mz_G (d, mz_X0 L xs, some .int, [(0, 8, 9), (1, 11, 12)], mk_363, 3, Q) 9 (mz_sf mk_363 9) [] [] false (mz_k S R ((cf_364_0 v1 N).2) b (t + 1))
      rw [ms_363_9]
      refine g_iconst mzi_1 ?_
      exact g_iret rfl (hr _ _ _ hC)
    · have hp := hp.2 h6
      have h4 := hp
      refine ⟨(1, 11, 12), (by rw [h4]; rfl), ?_⟩
      show mz_G (d, mz_X0 L xs, some .int, [(0, 8, 9), (1, 11, 12)], mk_363, 3, Q) 12 (mz_sf mk_363 12) [] [] false (mz_k S R ((cf_364_0 v1 N).2) b (t + 1))
      rw [ms_363_12]
      refine g_iconst mzi_2 ?_
      exact g_iret rfl (hr _ _ _ hC)
theorem cs_363 (hd : 3 ≤ d) (hS : mz_extR S 343) (hR : mz_rok R 343)  (v1 : Int32) (N : mz_N) (t : Nat) (hp : cp_363_0 v1 N t) (hq : Q (.inl (some (.int ((cf_363_0 v1 N t).1)))) (mz_k S R ((cf_363_0 v1 N t).2.1) b ((cf_363_0 v1 N t).2.2))) : mz_Ed (mz_X0 L xs) d 363 [.ref 0, .int v1] (mz_k S R N b t) Q :=
  by
  refine g_in mzq_363 (Nat.le_of_ble_eq_true rfl) (Nat.le_of_ble_eq_true rfl) (Nat.le_trans (Nat.le_of_ble_eq_true rfl) hd) ?_
  refine g_weak ?_ (cg_363_0 (d := d - 1) (by omega) hS hR v1 N t (C0 := fun z => Q (.inl (some (.int z.1))) (mz_k S R z.2.1 b z.2.2)) (fun _ _ _ h => h) hp hq)
  exact ⟨rfl, rfl, trivial⟩
/-! 366 KeptHouse.rows (I)I -/
theorem ms_366_0 : mz_sf mk_366 0 = mk_366 := mz_sf_zero _
theorem ms_366_44 : mz_sf mk_366 44 = mt_366_44 := mz_sf_add ms_366_0 (t := 44) rfl rfl
theorem ms_366_52 : mz_sf mk_366 52 = mt_366_52 := mz_sf_add ms_366_44 (t := 8) rfl rfl
theorem ms_366_60 : mz_sf mk_366 60 = mt_366_60 := mz_sf_add ms_366_52 (t := 8) rfl rfl
set_option maxRecDepth 100000 in
theorem mzq_366 : mz_PG0 366 = some (11, ⟨"KeptHouse", "rows", "(I)I"⟩, prog_1_method_64_code, 2, some .int, [], mk_366, []) := rfl
theorem cg_366_0 (hd : 1 ≤ d) (hS : mz_extR S 232) (hR : mz_rok R 232)  (v1 : Int32) (N : mz_N) {C0 : (Nat × Int32) → Prop} (hr : ∀ (w : Int32), C0 (0, w) → Q (.inl (some (.int w))) (mz_k S R N b t)) (ht : ∀ (c : Nat) (w : Int32), ¬ c = 0 → C0 (c, w) → Q (.inr (c - 1)) (mz_k S R N b (t + 1))) (h1000 : t < 1000) (hp : cp_366_0 v1 N) (hC : C0 (cf_366_0 v1 N)) : mz_G (d, mz_X0 L xs, some .int, [], mk_366, 2, Q) 0 mk_366 [(0, .ref 0), (1, .int v1)] [] true (mz_k S R N b t) := by
  unfold cf_366_0 at hC
  unfold cp_366_0 at hp
  refine g_aload_n rfl ?_
  obtain ⟨h1, hp⟩ := hp
  refine g_v1nt (Nat.le_of_ble_eq_true rfl) (mz_at hS (Nat.le_of_ble_eq_true rfl) mzcS_0) rfl (fun _ hz0 hz1 => cs_104 (Nat.le_trans (Nat.le_of_ble_eq_true rfl) hd) (hS.le (Nat.le_of_ble_eq_true rfl)) (hR.le (Nat.le_of_ble_eq_true rfl))  N h1 h1000 hz0 hz1) hC (fun h8 hC => ?_) (fun h8 hC => ?_)
  · have hp := hp.1 h8
    refine g_iload_n rfl (g_iconst mzi_0 (g_iconst mzi_3 ?_))
    obtain ⟨h2, hp⟩ := hp
    refine g_s3nt (Nat.le_of_ble_eq_true rfl) rfl (fun _ hz0 hz1 => cs_105 (Nat.le_trans (Nat.le_of_ble_eq_true rfl) hd) (hS.le (Nat.le_of_ble_eq_true rfl)) (hR.le (Nat.le_of_ble_eq_true rfl))  v1 0 3 h2 h1000 hz0 hz1) hC (fun h7 hC => ?_) (fun h7 hC => ?_)
    · have hp := hp.1 h7
      refine g_iload_n rfl ?_
      refine mz_cs hC (fun h3 hC => ?_) (fun h3 hC => ?_)
      · have hp := hp.1 h3
        refine g_brn (tg := 36) (by rw [h3]; rfl) (by decide) rfl ?_
        refine g_aload_n rfl (g_getR (mz_at hS (Nat.le_of_ble_eq_true rfl) mzcS_0) mzcf_11_9 (mz_rb hR (Nat.le_of_ble_eq_true rfl) rfl mzcR_0_9) (g_getI (mz_at hS (Nat.le_of_ble_eq_true rfl) mzcS_219) mzcf_8_4 ?_))
        exact g_iret rfl (hr _ hC)
      · have hp := hp.2 h3
        refine mz_cs hC (fun h4 hC => ?_) (fun h4 hC => ?_)
        · have hp := hp.1 h4
          refine g_br (tg := 44) (by rw [h4]; rfl) ms_366_44 ?_
          refine g_aload_n rfl (g_getR (mz_at hS (Nat.le_of_ble_eq_true rfl) mzcS_0) mzcf_11_9 (mz_rb hR (Nat.le_of_ble_eq_true rfl) rfl mzcR_0_9) (g_getI (mz_at hS (Nat.le_of_ble_eq_true rfl) mzcS_219) mzcf_8_5 ?_))
          exact g_iret rfl (hr _ hC)
        · have hp := hp.2 h4
          refine mz_cs hC (fun h5 hC => ?_) (fun h5 hC => ?_)
          · have hp := hp.1 h5
            refine g_br (tg := 52) (by rw [h5]; rfl) ms_366_52 ?_
            refine g_aload_n rfl (g_getR (mz_at hS (Nat.le_of_ble_eq_true rfl) mzcS_0) mzcf_11_9 (mz_rb hR (Nat.le_of_ble_eq_true rfl) rfl mzcR_0_9) (g_getI (mz_at hS (Nat.le_of_ble_eq_true rfl) mzcS_219) mzcf_8_6 ?_))
            exact g_iret rfl (hr _ hC)
          · have hp := hp.2 h5
            refine g_br (tg := 60) ((mz_tsw_d (l := [0, 1, 2]) (mz_rng 0 2) ⟨h3, h4, h5, trivial⟩).trans (mz_tg_t rfl)) ms_366_60 ?_
            refine g_aload_n rfl (g_getR (mz_at hS (Nat.le_of_ble_eq_true rfl) mzcS_0) mzcf_11_9 (mz_rb hR (Nat.le_of_ble_eq_true rfl) rfl mzcR_0_9) (g_getR (mz_at hS (Nat.le_of_ble_eq_true rfl) mzcS_219) mzcf_8_2 (mz_rb hR (Nat.le_of_ble_eq_true rfl) rfl mzcR_219_2) ?_))
            have h6 := hp
            refine g_s1v (Nat.le_of_ble_eq_true rfl) (fun _ hq => cs_138 (Nat.le_trans (Nat.le_of_ble_eq_true rfl) hd) (hS.le (Nat.le_of_ble_eq_true rfl)) (hR.le (Nat.le_of_ble_eq_true rfl)) 224 (mz_at hS (Nat.le_of_ble_eq_true rfl) mzcS_224) N h6 hq) ?_
            exact g_iret rfl (hr _ hC)
    · have hp := hp.2 h7
      exact ht _ _ h7 hC
  · have hp := hp.2 h8
    exact ht _ _ h8 hC
theorem cs_366 (hd : 2 ≤ d) (hS : mz_extR S 232) (hR : mz_rok R 232)  (v1 : Int32) (N : mz_N) (hp : cp_366_0 v1 N) (h1000 : t < 1000) (h0 : (cf_366_0 v1 N).1 = 0 → Q (.inl (some (.int ((cf_366_0 v1 N).2)))) (mz_k S R N b t)) (h1 : ¬ (cf_366_0 v1 N).1 = 0 → Q (.inr (((cf_366_0 v1 N).1) - 1)) (mz_k S R N b (t + 1))) : mz_Ed (mz_X0 L xs) d 366 [.ref 0, .int v1] (mz_k S R N b t) Q :=
  by
  refine g_in mzq_366 (Nat.le_of_ble_eq_true rfl) (Nat.le_of_ble_eq_true rfl) (Nat.le_trans (Nat.le_of_ble_eq_true rfl) hd) ?_
  refine g_weak ?_ (cg_366_0 (d := d - 1) (by omega) hS hR v1 N (C0 := fun z => (z.1 = 0 → Q (.inl (some (.int z.2))) (mz_k S R N b t)) ∧ (¬ z.1 = 0 → Q (.inr (z.1 - 1)) (mz_k S R N b (t + 1)))) (fun _ h => h.1 rfl) (fun c _ hc h => h.2 hc) h1000 hp ⟨h0, h1⟩)
  exact ⟨rfl, rfl, trivial⟩
/-! 365 KeptHouseLaw.rows (LKeptHouse;I[J)I -/
theorem ms_365_0 : mz_sf mk_365 0 = mk_365 := mz_sf_zero _
theorem ms_365_13 : mz_sf mk_365 13 = mt_365_13 := mz_sf_add ms_365_0 (t := 13) rfl rfl
theorem ms_365_16 : mz_sf mk_365 16 = mt_365_16 := mz_sf_add ms_365_13 (t := 3) rfl rfl
theorem ms_365_18 : mz_sf mk_365 18 = mt_365_18 := mz_sf_add ms_365_16 (t := 2) rfl rfl
set_option maxRecDepth 100000 in
theorem mzq_365 : mz_PG0 365 = some (13, ⟨"KeptHouseLaw", "rows", "(LKeptHouse;I[J)I"⟩, method_58_code, 4, some .int, [(0, 9, 12, 13), (0, 9, 15, 15)], mk_365, [(0, 12, 13), (1, 15, 16)]) := rfl
theorem cg_365_0 (hd : 2 ≤ d) (hS : mz_extR S 343) (hR : mz_rok R 343)  (v1 : Int32) (N : mz_N) (t : Nat) {C0 : (Int32 × mz_N × Nat) → Prop} (hr : ∀ (w : Int32) (N2 : mz_N) (t2 : Nat), C0 (w, N2, t2) → Q (.inl (some (.int w))) (mz_k S R N2 b t2)) (hp : cp_365_0 v1 N t) (hC : C0 (cf_365_0 v1 N t)) : mz_G (d, mz_X0 L xs, some .int, [(0, 12, 13), (1, 15, 16)], mk_365, 4, Q) 0 mk_365 [(0, .ref 0), (1, .int v1), (2, .ref 342)] [] true (mz_k S R N b t) := by
  unfold cf_365_0 at hC
  unfold cp_365_0 at hp
  refine g_aload_n rfl (g_iconst mzi_0 (g_aload_n rfl (g_iload_n rfl ?_)))
  obtain ⟨h1, hp⟩ := hp
  obtain ⟨h1000, hp⟩ := hp
  refine g_v2vh (Nat.le_of_ble_eq_true rfl) (mz_at hS (Nat.le_of_ble_eq_true rfl) mzcS_0) (fun _ hz0 hz1 => cs_366 (Nat.le_trans (Nat.le_of_ble_eq_true rfl) hd) (hS.le (Nat.le_of_ble_eq_true rfl)) (hR.le (Nat.le_of_ble_eq_true rfl))  v1 N h1 h1000 hz0 hz1) hC (fun h2 hC => ?_) (fun h2 hC => ?_)
  · have hp := hp.1 h2
    refine g_i2l (g_last (mz_at hS (Nat.le_of_ble_eq_true rfl) mzcS_342) (mz_ibd (by decide)) (g_goto (tg := 18) rfl ms_365_18 (g_iconst mzi_0 ?_)))
    exact g_iret rfl (hr _ _ _ hC)
  · have hp := hp.2 h2
    refine mz_cs hC (fun h6 hC => ?_) (fun h6 hC => ?_)
    · have hp := hp.1 h6
      refine ⟨(0, 12, 13), (by rw [h6]; rfl), ?_⟩
      show mz_G (d, mz_X0 L xs, some .int, [(0, 12, 13), (1, 15, 16)], mk_365, 4, Q) 13 (mz_sf mk_365 13) [] [] false (mz_k S R N b (t + 1))
      rw [ms_365_13]
      refine g_iconst mzi_1 ?_
      exact g_iret rfl (hr _ _ _ hC)
    · have hp := hp.2 h6
      have h4 := hp
      refine ⟨(1, 15, 16), (by rw [h4]; rfl), ?_⟩
      show mz_G (d, mz_X0 L xs, some .int, [(0, 12, 13), (1, 15, 16)], mk_365, 4, Q) 16 (mz_sf mk_365 16) [] [] false (mz_k S R N b (t + 1))
      rw [ms_365_16]
      refine g_iconst mzi_2 ?_
      exact g_iret rfl (hr _ _ _ hC)
theorem cs_365 (hd : 3 ≤ d) (hS : mz_extR S 343) (hR : mz_rok R 343)  (v1 : Int32) (N : mz_N) (t : Nat) (hp : cp_365_0 v1 N t) (hq : Q (.inl (some (.int ((cf_365_0 v1 N t).1)))) (mz_k S R ((cf_365_0 v1 N t).2.1) b ((cf_365_0 v1 N t).2.2))) : mz_Ed (mz_X0 L xs) d 365 [.ref 0, .int v1, .ref 342] (mz_k S R N b t) Q :=
  by
  refine g_in mzq_365 (Nat.le_of_ble_eq_true rfl) (Nat.le_of_ble_eq_true rfl) (Nat.le_trans (Nat.le_of_ble_eq_true rfl) hd) ?_
  refine g_weak ?_ (cg_365_0 (d := d - 1) (by omega) hS hR v1 N t (C0 := fun z => Q (.inl (some (.int z.1))) (mz_k S R z.2.1 b z.2.2)) (fun _ _ _ h => h) hp hq)
  exact ⟨rfl, rfl, rfl, trivial⟩
/-! 368 KeptHouse.disk (III)I -/
theorem ms_368_0 : mz_sf mk_368 0 = mk_368 := mz_sf_zero _
theorem ms_368_25 : mz_sf mk_368 25 = mt_368_25 := mz_sf_add ms_368_0 (t := 25) rfl rfl
set_option maxRecDepth 100000 in
theorem mzq_368 : mz_PG0 368 = some (11, ⟨"KeptHouse", "disk", "(III)I"⟩, prog_1_method_65_code, 4, some .int, [], mk_368, []) := rfl
theorem cg_368_0 (hd : 1 ≤ d) (hS : mz_extR S 232) (hR : mz_rok R 232)  (v1 : Int32) (v2 : Int32) (v3 : Int32) (N : mz_N) {C0 : (Nat × Int32) → Prop} (hr : ∀ (w : Int32), C0 (0, w) → Q (.inl (some (.int w))) (mz_k S R N b t)) (ht : ∀ (c : Nat) (w : Int32), ¬ c = 0 → C0 (c, w) → Q (.inr (c - 1)) (mz_k S R N b (t + 1))) (h1000 : t < 1000) (hp : cp_368_0 v1 v2 v3 N) (hC : C0 (cf_368_0 v1 v2 v3 N)) : mz_G (d, mz_X0 L xs, some .int, [], mk_368, 4, Q) 0 mk_368 [(0, .ref 0), (1, .int v1), (2, .int v2), (3, .int v3)] [] true (mz_k S R N b t) := by
  unfold cf_368_0 at hC
  unfold cp_368_0 at hp
  refine g_aload_n rfl ?_
  obtain ⟨h1, hp⟩ := hp
  refine g_v1nt (Nat.le_of_ble_eq_true rfl) (mz_at hS (Nat.le_of_ble_eq_true rfl) mzcS_0) rfl (fun _ hz0 hz1 => cs_104 (Nat.le_trans (Nat.le_of_ble_eq_true rfl) hd) (hS.le (Nat.le_of_ble_eq_true rfl)) (hR.le (Nat.le_of_ble_eq_true rfl))  N h1 h1000 hz0 hz1) hC (fun h10 hC => ?_) (fun h10 hC => ?_)
  · have hp := hp.1 h10
    refine g_iload_n rfl (g_iconst mzi_0 (g_iconst mzi_1 ?_))
    obtain ⟨h2, hp⟩ := hp
    refine g_s3nt (Nat.le_of_ble_eq_true rfl) rfl (fun _ hz0 hz1 => cs_105 (Nat.le_trans (Nat.le_of_ble_eq_true rfl) hd) (hS.le (Nat.le_of_ble_eq_true rfl)) (hR.le (Nat.le_of_ble_eq_true rfl))  v1 0 1 h2 h1000 hz0 hz1) hC (fun h9 hC => ?_) (fun h9 hC => ?_)
    · have hp := hp.1 h9
      refine g_iload_n rfl (g_iconst mzi_0 (g_sipush mzs_199 ?_))
      obtain ⟨h3, hp⟩ := hp
      refine g_s3nt (Nat.le_of_ble_eq_true rfl) rfl (fun _ hz0 hz1 => cs_105 (Nat.le_trans (Nat.le_of_ble_eq_true rfl) hd) (hS.le (Nat.le_of_ble_eq_true rfl)) (hR.le (Nat.le_of_ble_eq_true rfl))  v2 0 199 h3 h1000 hz0 hz1) hC (fun h8 hC => ?_) (fun h8 hC => ?_)
      · have hp := hp.1 h8
        refine g_iload_n rfl (g_iconst mzi_0 (g_bipush mzb_47 ?_))
        obtain ⟨h4, hp⟩ := hp
        refine g_s3nt (Nat.le_of_ble_eq_true rfl) rfl (fun _ hz0 hz1 => cs_105 (Nat.le_trans (Nat.le_of_ble_eq_true rfl) hd) (hS.le (Nat.le_of_ble_eq_true rfl)) (hR.le (Nat.le_of_ble_eq_true rfl))  v3 0 47 h4 h1000 hz0 hz1) hC (fun h7 hC => ?_) (fun h7 hC => ?_)
        · have hp := hp.1 h7
          refine g_aload_n rfl (g_getR (mz_at hS (Nat.le_of_ble_eq_true rfl) mzcS_0) mzcf_11_9 (mz_rb hR (Nat.le_of_ble_eq_true rfl) rfl mzcR_0_9) (g_getR (mz_at hS (Nat.le_of_ble_eq_true rfl) mzcS_219) mzcf_8_0 (mz_rb hR (Nat.le_of_ble_eq_true rfl) rfl mzcR_219_0) (g_iload_n rfl ?_)))
          obtain ⟨h5, hp⟩ := hp
          refine g_aald4 (mz_at hS (Nat.le_of_ble_eq_true rfl) mzcS_220) h5 (mz_rb hR (Nat.le_of_ble_eq_true rfl) rfl (mzcR2_220 h5)) (g_iload_n rfl (g_bipush mzb_48 (g_imul (g_iload_n rfl (g_iadd ?_)))))
          have h6 := hp
          refine g_iald hS.1 (mz_at hS (mzcL2_220 h5 (Nat.le_of_ble_eq_true rfl)) (mzcS2_220 h5)) h6 ?_
          exact g_iret rfl (hr _ hC)
        · have hp := hp.2 h7
          exact ht _ _ h7 hC
      · have hp := hp.2 h8
        exact ht _ _ h8 hC
    · have hp := hp.2 h9
      exact ht _ _ h9 hC
  · have hp := hp.2 h10
    exact ht _ _ h10 hC
theorem cs_368 (hd : 2 ≤ d) (hS : mz_extR S 232) (hR : mz_rok R 232)  (v1 : Int32) (v2 : Int32) (v3 : Int32) (N : mz_N) (hp : cp_368_0 v1 v2 v3 N) (h1000 : t < 1000) (h0 : (cf_368_0 v1 v2 v3 N).1 = 0 → Q (.inl (some (.int ((cf_368_0 v1 v2 v3 N).2)))) (mz_k S R N b t)) (h1 : ¬ (cf_368_0 v1 v2 v3 N).1 = 0 → Q (.inr (((cf_368_0 v1 v2 v3 N).1) - 1)) (mz_k S R N b (t + 1))) : mz_Ed (mz_X0 L xs) d 368 [.ref 0, .int v1, .int v2, .int v3] (mz_k S R N b t) Q :=
  by
  refine g_in mzq_368 (Nat.le_of_ble_eq_true rfl) (Nat.le_of_ble_eq_true rfl) (Nat.le_trans (Nat.le_of_ble_eq_true rfl) hd) ?_
  refine g_weak ?_ (cg_368_0 (d := d - 1) (by omega) hS hR v1 v2 v3 N (C0 := fun z => (z.1 = 0 → Q (.inl (some (.int z.2))) (mz_k S R N b t)) ∧ (¬ z.1 = 0 → Q (.inr (z.1 - 1)) (mz_k S R N b (t + 1)))) (fun _ h => h.1 rfl) (fun c _ hc h => h.2 hc) h1000 hp ⟨h0, h1⟩)
  exact ⟨rfl, rfl, rfl, rfl, trivial⟩
/-! 367 KeptHouseLaw.disk (LKeptHouse;III[J)I -/
theorem ms_367_0 : mz_sf mk_367 0 = mk_367 := mz_sf_zero _
theorem ms_367_17 : mz_sf mk_367 17 = mt_367_17 := mz_sf_add ms_367_0 (t := 17) rfl rfl
theorem ms_367_21 : mz_sf mk_367 21 = mt_367_21 := mz_sf_add ms_367_17 (t := 4) rfl rfl
theorem ms_367_23 : mz_sf mk_367 23 = mt_367_23 := mz_sf_add ms_367_21 (t := 2) rfl rfl
set_option maxRecDepth 100000 in
theorem mzq_367 : mz_PG0 367 = some (13, ⟨"KeptHouseLaw", "disk", "(LKeptHouse;III[J)I"⟩, method_59_code, 6, some .int, [(0, 12, 15, 13), (0, 12, 19, 15)], mk_367, [(0, 15, 17), (1, 19, 21)]) := rfl
theorem cg_367_0 (hd : 2 ≤ d) (hS : mz_extR S 343) (hR : mz_rok R 343)  (v1 : Int32) (v2 : Int32) (v3 : Int32) (N : mz_N) (t : Nat) {C0 : (Int32 × mz_N × Nat) → Prop} (hr : ∀ (w : Int32) (N2 : mz_N) (t2 : Nat), C0 (w, N2, t2) → Q (.inl (some (.int w))) (mz_k S R N2 b t2)) (hp : cp_367_0 v1 v2 v3 N t) (hC : C0 (cf_367_0 v1 v2 v3 N t)) : mz_G (d, mz_X0 L xs, some .int, [(0, 15, 17), (1, 19, 21)], mk_367, 6, Q) 0 mk_367 [(0, .ref 0), (1, .int v1), (2, .int v2), (3, .int v3), (4, .ref 342)] [] true (mz_k S R N b t) := by
  unfold cf_367_0 at hC
  unfold cp_367_0 at hp
  refine g_aload rfl (g_iconst mzi_0 (g_aload_n rfl (g_iload_n rfl (g_iload_n rfl (g_iload_n rfl ?_)))))
  obtain ⟨h1, hp⟩ := hp
  obtain ⟨h1000, hp⟩ := hp
  refine g_v4vh (Nat.le_of_ble_eq_true rfl) (mz_at hS (Nat.le_of_ble_eq_true rfl) mzcS_0) (fun _ hz0 hz1 => cs_368 (Nat.le_trans (Nat.le_of_ble_eq_true rfl) hd) (hS.le (Nat.le_of_ble_eq_true rfl)) (hR.le (Nat.le_of_ble_eq_true rfl))  v1 v2 v3 N h1 h1000 hz0 hz1) hC (fun h2 hC => ?_) (fun h2 hC => ?_)
  · have hp := hp.1 h2
    refine g_i2l (g_last (mz_at hS (Nat.le_of_ble_eq_true rfl) mzcS_342) (mz_ibd (by decide)) (g_goto (tg := 23) rfl ms_367_23 (g_iconst mzi_0 ?_)))
    exact g_iret rfl (hr _ _ _ hC)
  · have hp := hp.2 h2
    refine mz_cs hC (fun h6 hC => ?_) (fun h6 hC => ?_)
    · have hp := hp.1 h6
      refine ⟨(0, 15, 17), (by rw [h6]; rfl), ?_⟩
      show mz_G (d, mz_X0 L xs, some .int, [(0, 15, 17), (1, 19, 21)], mk_367, 6, Q) 17 (mz_sf mk_367 17) [] [] false (mz_k S R N b (t + 1))
      rw [ms_367_17]
      refine g_iconst mzi_1 ?_
      exact g_iret rfl (hr _ _ _ hC)
    · have hp := hp.2 h6
      have h4 := hp
      refine ⟨(1, 19, 21), (by rw [h4]; rfl), ?_⟩
      show mz_G (d, mz_X0 L xs, some .int, [(0, 15, 17), (1, 19, 21)], mk_367, 6, Q) 21 (mz_sf mk_367 21) [] [] false (mz_k S R N b (t + 1))
      rw [ms_367_21]
      refine g_iconst mzi_2 ?_
      exact g_iret rfl (hr _ _ _ hC)
theorem cs_367 (hd : 3 ≤ d) (hS : mz_extR S 343) (hR : mz_rok R 343)  (v1 : Int32) (v2 : Int32) (v3 : Int32) (N : mz_N) (t : Nat) (hp : cp_367_0 v1 v2 v3 N t) (hq : Q (.inl (some (.int ((cf_367_0 v1 v2 v3 N t).1)))) (mz_k S R ((cf_367_0 v1 v2 v3 N t).2.1) b ((cf_367_0 v1 v2 v3 N t).2.2))) : mz_Ed (mz_X0 L xs) d 367 [.ref 0, .int v1, .int v2, .int v3, .ref 342] (mz_k S R N b t) Q :=
  by
  refine g_in mzq_367 (Nat.le_of_ble_eq_true rfl) (Nat.le_of_ble_eq_true rfl) (Nat.le_trans (Nat.le_of_ble_eq_true rfl) hd) ?_
  refine g_weak ?_ (cg_367_0 (d := d - 1) (by omega) hS hR v1 v2 v3 N t (C0 := fun z => Q (.inl (some (.int z.1))) (mz_k S R z.2.1 b z.2.2)) (fun _ _ _ h => h) hp hq)
  exact ⟨rfl, rfl, rfl, rfl, rfl, trivial⟩
/-! 371 KeptHouse$Keeper.makeTape ()V -/
theorem ms_371_0 : mz_sf mk_371 0 = mk_371 := mz_sf_zero _
theorem ms_371_22 : mz_sf mk_371 22 = mt_371_22 := mz_sf_add ms_371_0 (t := 22) rfl rfl
theorem ms_371_24 : mz_sf mk_371 24 = mt_371_24 := mz_sf_add ms_371_22 (t := 2) rfl rfl
theorem ms_371_54 : mz_sf mk_371 54 = mt_371_54 := mz_sf_add ms_371_24 (t := 30) rfl rfl
theorem ms_371_89 : mz_sf mk_371 89 = mt_371_89 := mz_sf_add ms_371_54 (t := 35) rfl rfl
theorem ms_371_92 : mz_sf mk_371 92 = mt_371_92 := mz_sf_add ms_371_89 (t := 3) rfl rfl
theorem ms_371_98 : mz_sf mk_371 98 = mt_371_98 := mz_sf_add ms_371_92 (t := 6) rfl rfl
theorem ms_371_124 : mz_sf mk_371 124 = mt_371_124 := mz_sf_add ms_371_98 (t := 26) rfl rfl
set_option maxRecDepth 100000 in
theorem mzq_371 : mz_PG0 371 = some (4, ⟨"KeptHouse$Keeper", "makeTape", "()V"⟩, prog_6_method_10_code, 3, none, [], mk_371, []) := rfl
theorem cg_371_92 (hd : 2 ≤ d) (hS : mz_extR S 232) (hR : mz_rok R 232)  (v1 : Int32) (v2 : Int32) (N : mz_N) {C0 : (mz_N) → Prop} (hr : ∀ (N2 : mz_N), C0 N2 → Q (.inl none) (mz_k S R N2 b t)) {C1 : ((Int32 × Int32 × mz_N) ⊕ (mz_N)) → Prop} (hc1 : ∀ s2, C1 (.inl s2) → mz_G (d, mz_X0 L xs, none, [], mk_371, 3, Q) 24 mt_371_24 [(0, .ref 1), (1, .int s2.1), (2, .int s2.2.1)] [] false (mz_k S R s2.2.2 b t)) (hx1 : ∀ z, C1 (.inr z) → C0 z) (hp : cp_371_92 v1 v2 N) (hC : C1 (cf_371_92 v1 v2 N)) : mz_G (d, mz_X0 L xs, none, [], mk_371, 3, Q) 92 mt_371_92 [(0, .ref 1), (1, .int v1), (2, .int v2)] [] false (mz_k S R N b t) := by
  unfold cf_371_92 at hC
  unfold cp_371_92 at hp
  refine g_iinc rfl mzi_1 (Nat.le_of_ble_eq_true rfl) rfl (g_goto (tg := 24) rfl ms_371_24 ?_)
  refine g_weak ?_ (g_cl (hc1 (v1, (v2 + 1), N) hC))
  exact ⟨rfl, rfl, rfl, trivial⟩
theorem cg_371_89 (hd : 2 ≤ d) (hS : mz_extR S 232) (hR : mz_rok R 232)  (v1 : Int32) (v2 : Int32) (N : mz_N) {C0 : (mz_N) → Prop} (hr : ∀ (N2 : mz_N), C0 N2 → Q (.inl none) (mz_k S R N2 b t)) {C1 : ((Int32 × Int32 × mz_N) ⊕ (mz_N)) → Prop} (hc1 : ∀ s2, C1 (.inl s2) → mz_G (d, mz_X0 L xs, none, [], mk_371, 3, Q) 24 mt_371_24 [(0, .ref 1), (1, .int s2.1), (2, .int s2.2.1)] [] false (mz_k S R s2.2.2 b t)) (hx1 : ∀ z, C1 (.inr z) → C0 z) (hp : cp_371_89 v1 v2 N) (hC : C1 (cf_371_89 v1 v2 N)) : mz_G (d, mz_X0 L xs, none, [], mk_371, 3, Q) 89 mt_371_89 [(0, .ref 1), (1, .int v1), (2, .int v2)] [] false (mz_k S R N b t) := by
  unfold cf_371_89 at hC
  unfold cp_371_89 at hp
  refine g_iinc rfl mzi_30 (Nat.le_of_ble_eq_true rfl) rfl ?_
  refine g_weak ?_ (g_cl (cg_371_92 hd hS hR (v1 + 30) v2 N hr hc1 hx1 hp hC))
  exact ⟨rfl, rfl, rfl, trivial⟩
theorem cg_371_124 (hd : 2 ≤ d) (hS : mz_extR S 232) (hR : mz_rok R 232)  (N : mz_N) {C0 : (mz_N) → Prop} (hr : ∀ (N2 : mz_N), C0 N2 → Q (.inl none) (mz_k S R N2 b t)) (hp : cp_371_124 N) (hC : C0 (cf_371_124 N)) : mz_G (d, mz_X0 L xs, none, [], mk_371, 3, Q) 124 mt_371_124 [] [] false (mz_k S R N b t) := by
  unfold cf_371_124 at hC
  unfold cp_371_124 at hp
  exact g_vret rfl (hr _ hC)
theorem cb_371_24 (hd : 2 ≤ d) (hS : mz_extR S 232) (hR : mz_rok R 232)   (s : Int32 × Int32 × mz_N) {C0 : (mz_N) → Prop} (hr : ∀ (N2 : mz_N), C0 N2 → Q (.inl none) (mz_k S R N2 b t)) {C1 : ((Int32 × Int32 × mz_N) ⊕ (mz_N)) → Prop} (hc1 : ∀ s2, C1 (.inl s2) → mz_G (d, mz_X0 L xs, none, [], mk_371, 3, Q) 24 mt_371_24 [(0, .ref 1), (1, .int s2.1), (2, .int s2.2.1)] [] false (mz_k S R s2.2.2 b t)) (hx1 : ∀ z, C1 (.inr z) → C0 z) (hp : cd_371_24  s) (hC : C1 (cq_371_24  s)) : mz_G (d, mz_X0 L xs, none, [], mk_371, 3, Q) 24 mt_371_24 [(0, .ref 1), (1, .int s.1), (2, .int s.2.1)] [] false (mz_k S R s.2.2 b t) := by
  unfold cq_371_24 at hC
  unfold cd_371_24 at hp
  refine g_iload_n rfl (g_sipush mzs_135 ?_)
  refine g_icge (tg := 98) rfl ms_371_98 hC (fun h1 hC => ?_) (fun h1 hC => ?_)
  · have hp := hp.1 h1
    refine g_aload_n rfl (g_getR (mz_at hS (Nat.le_of_ble_eq_true rfl) mzcS_1) mzcf_4_8 (mz_rb hR (Nat.le_of_ble_eq_true rfl) rfl mzcR_1_8) (g_getR (mz_at hS (Nat.le_of_ble_eq_true rfl) mzcS_219) mzcf_8_2 (mz_rb hR (Nat.le_of_ble_eq_true rfl) rfl mzcR_219_2) (g_iload_n rfl ?_)))
    obtain ⟨h2, hp⟩ := hp
    refine g_iald hS.1 (mz_at hS (Nat.le_of_ble_eq_true rfl) mzcS_224) h2 (g_iconst mzi_1 ?_)
    refine g_icne (tg := 92) rfl ms_371_92 hC (fun h3 hC => ?_) (fun h3 hC => ?_)
    · have hp := hp.1 h3
      refine g_aload_n rfl (g_getR (mz_at hS (Nat.le_of_ble_eq_true rfl) mzcS_1) mzcf_4_9 (mz_rb hR (Nat.le_of_ble_eq_true rfl) rfl mzcR_1_9) (g_iload_n rfl (g_iload_n rfl ?_)))
      obtain ⟨h4, hp⟩ := hp
      refine g_s1v (Nat.le_of_ble_eq_true rfl) (fun _ hq => cs_55 (Nat.le_trans (Nat.le_of_ble_eq_true rfl) hd) (hS.le (Nat.le_of_ble_eq_true rfl)) (hR.le (Nat.le_of_ble_eq_true rfl))  s.2.1 h4 hq) ?_
      obtain ⟨h5, hp⟩ := hp
      refine g_iast (mz_at hS (Nat.le_of_ble_eq_true rfl) mzcS_228) h5 (g_aload_n rfl (g_getR (mz_at hS (Nat.le_of_ble_eq_true rfl) mzcS_1) mzcf_4_9 (mz_rb hR (Nat.le_of_ble_eq_true rfl) rfl mzcR_1_9) (g_iload_n rfl (g_iconst mzi_1 (g_iadd (g_iload_n rfl ?_))))))
      obtain ⟨h6, hp⟩ := hp
      refine g_s1v (Nat.le_of_ble_eq_true rfl) (fun _ hq => cs_56 (Nat.le_trans (Nat.le_of_ble_eq_true rfl) hd) (hS.le (Nat.le_of_ble_eq_true rfl)) (hR.le (Nat.le_of_ble_eq_true rfl))  s.2.1 h6 hq) ?_
      obtain ⟨h7, hp⟩ := hp
      refine g_iast (mz_at hS (Nat.le_of_ble_eq_true rfl) mzcS_228) h7 (g_aload_n rfl (g_getR (mz_at hS (Nat.le_of_ble_eq_true rfl) mzcS_1) mzcf_4_8 (mz_rb hR (Nat.le_of_ble_eq_true rfl) rfl mzcR_1_8) (g_getR (mz_at hS (Nat.le_of_ble_eq_true rfl) mzcS_219) mzcf_8_1 (mz_rb hR (Nat.le_of_ble_eq_true rfl) rfl mzcR_219_1) (g_iload_n rfl (g_bipush mzb_28 (g_imul (g_aload_n rfl ?_)))))))
      refine g_getR (mz_at hS (Nat.le_of_ble_eq_true rfl) mzcS_1) mzcf_4_9 (mz_rb hR (Nat.le_of_ble_eq_true rfl) rfl mzcR_1_9) (g_iload_n rfl (g_iconst mzi_2 (g_iadd (g_bipush mzb_28 ?_))))
      obtain ⟨h8, hp⟩ := hp
      refine g_cpI (Nat.le_of_ble_eq_true rfl) (mz_at hS (Nat.le_of_ble_eq_true rfl) mzcS_223) (mz_at hS (Nat.le_of_ble_eq_true rfl) mzcS_228) h8 ?_
      refine g_weak ?_ (g_cl (cg_371_89 hd hS hR s.1 s.2.1 (mz_yI (mz_wI (mz_wI s.2.2 228 s.1 (cf_55_0 s.2.1)) 228 (s.1 + 1) (cf_56_0 s.2.1)) 223 (s.2.1 * 28) 228 (s.1 + 2) 28) hr hc1 hx1 hp hC))
      exact ⟨rfl, rfl, rfl, trivial⟩
    · have hp := hp.2 h3
      refine g_weak ?_ (g_cl (cg_371_92 hd hS hR s.1 s.2.1 s.2.2 hr hc1 hx1 hp hC))
      exact ⟨rfl, rfl, rfl, trivial⟩
  · have hp := hp.2 h1
    refine g_aload_n rfl (g_getR (mz_at hS (Nat.le_of_ble_eq_true rfl) mzcS_1) mzcf_4_9 (mz_rb hR (Nat.le_of_ble_eq_true rfl) rfl mzcR_1_9) (g_iload_n rfl (g_iconst mzi_4 (g_aload_n rfl (g_getR (mz_at hS (Nat.le_of_ble_eq_true rfl) mzcS_1) mzcf_4_9 (mz_rb hR (Nat.le_of_ble_eq_true rfl) rfl mzcR_1_9) (g_iconst mzi_0 (g_iload_n rfl ?_)))))))
    obtain ⟨h9, hp⟩ := hp
    refine g_s3v (Nat.le_of_ble_eq_true rfl) (fun _ hq => cs_16 (Nat.le_trans (Nat.le_of_ble_eq_true rfl) hd) (hS.le (Nat.le_of_ble_eq_true rfl)) (mz_rs_of hR (Nat.le_of_ble_eq_true rfl)) 228 4056 (mz_at hS (Nat.le_of_ble_eq_true rfl) mzcS_228) 0 s.1 s.2.2 h9 hq) (g_i2l ?_)
    obtain ⟨h10, hp⟩ := hp
    refine g_s4n (Nat.le_of_ble_eq_true rfl) (fun _ hq => cs_14 (Nat.le_trans (Nat.le_of_ble_eq_true rfl) hd) (hS.le (Nat.le_of_ble_eq_true rfl)) (mz_rs_of hR (Nat.le_of_ble_eq_true rfl)) 228 4056 (mz_at hS (Nat.le_of_ble_eq_true rfl) mzcS_228) s.1 4 ((cf_16_0 228 4056 0 s.1 s.2.2).toInt64) s.2.2 h10 hq) (g_aload_n rfl (g_iload_n rfl (g_iconst mzi_4 (g_iadd (g_putI (mz_at hS (Nat.le_of_ble_eq_true rfl) mzcS_1) mzcf_4_10 ?_)))))
    refine g_weak ?_ (g_cl (cg_371_124 hd hS hR (mz_pI (cf_14_0 228 4056 s.1 4 ((cf_16_0 228 4056 0 s.1 s.2.2).toInt64) s.2.2) 1 10 (s.1 + 4)) hr hp (hx1 _ hC)))
    exact trivial
theorem cg_371_24 (hd : 2 ≤ d) (hS : mz_extR S 232) (hR : mz_rok R 232)  (v1 : Int32) (v2 : Int32) (N : mz_N) {C0 : (mz_N) → Prop} (hr : ∀ (N2 : mz_N), C0 N2 → Q (.inl none) (mz_k S R N2 b t)) (hp : cp_371_24 v1 v2 N) (hC : C0 (cf_371_24 v1 v2 N)) : mz_G (d, mz_X0 L xs, none, [], mk_371, 3, Q) 24 mt_371_24 [(0, .ref 1), (1, .int v1), (2, .int v2)] [] false (mz_k S R N b t) := by
  obtain ⟨n, hn⟩ := hp
  exact g_loop (G := fun s => mz_G (d, mz_X0 L xs, none, [], mk_371, 3, Q) 24 mt_371_24 [(0, .ref 1), (1, .int s.1), (2, .int s.2.1)] [] false (mz_k S R s.2.2 b t)) (C := C0) (fun C2 hc hx s hP hC => cb_371_24 hd hS hR  s hr hc hx hP hC) n (v1, v2, N) hn hC
theorem cg_371_0 (hd : 2 ≤ d) (hS : mz_extR S 232) (hR : mz_rok R 232)  (N : mz_N) {C0 : (mz_N) → Prop} (hr : ∀ (N2 : mz_N), C0 N2 → Q (.inl none) (mz_k S R N2 b t)) (hp : cp_371_0 N) (hC : C0 (cf_371_0 N)) : mz_G (d, mz_X0 L xs, none, [], mk_371, 3, Q) 0 mk_371 [(0, .ref 1)] [] true (mz_k S R N b t) := by
  unfold cf_371_0 at hC
  unfold cp_371_0 at hp
  refine g_aload_n rfl (g_getR (mz_at hS (Nat.le_of_ble_eq_true rfl) mzcS_1) mzcf_4_9 (mz_rb hR (Nat.le_of_ble_eq_true rfl) rfl mzcR_1_9) (g_iconst mzi_0 (g_iconst mzi_2 (g_aload_n rfl (g_getR (mz_at hS (Nat.le_of_ble_eq_true rfl) mzcS_1) mzcf_4_8 (mz_rb hR (Nat.le_of_ble_eq_true rfl) rfl mzcR_1_8) (g_getR (mz_at hS (Nat.le_of_ble_eq_true rfl) mzcS_219) mzcf_8_2 (mz_rb hR (Nat.le_of_ble_eq_true rfl) rfl mzcR_219_2) ?_))))))
  obtain ⟨h1, hp⟩ := hp
  refine g_s1v (Nat.le_of_ble_eq_true rfl) (fun _ hq => cs_138 (Nat.le_trans (Nat.le_of_ble_eq_true rfl) hd) (hS.le (Nat.le_of_ble_eq_true rfl)) (hR.le (Nat.le_of_ble_eq_true rfl)) 224 (mz_at hS (Nat.le_of_ble_eq_true rfl) mzcS_224) N h1 hq) (g_i2l ?_)
  obtain ⟨h2, hp⟩ := hp
  refine g_s4n (Nat.le_of_ble_eq_true rfl) (fun _ hq => cs_14 (Nat.le_trans (Nat.le_of_ble_eq_true rfl) hd) (hS.le (Nat.le_of_ble_eq_true rfl)) (mz_rs_of hR (Nat.le_of_ble_eq_true rfl)) 228 4056 (mz_at hS (Nat.le_of_ble_eq_true rfl) mzcS_228) 0 2 ((cf_138_0 224 N).toInt64) N h2 hq) (g_iconst mzi_2 (g_istore_n (Nat.le_of_ble_eq_true rfl) rfl (g_iconst mzi_0 (g_istore_n (Nat.le_of_ble_eq_true rfl) rfl ?_))))
  refine g_weak ?_ (g_cl (cg_371_24 hd hS hR 2 0 (cf_14_0 228 4056 0 2 ((cf_138_0 224 N).toInt64) N) hr hp hC))
  exact ⟨rfl, rfl, rfl, trivial⟩
theorem cs_371 (hd : 3 ≤ d) (hS : mz_extR S 232) (hR : mz_rok R 232)  (N : mz_N) (hp : cp_371_0 N) (hq : Q (.inl none) (mz_k S R (cf_371_0 N) b t)) : mz_Ed (mz_X0 L xs) d 371 [.ref 1] (mz_k S R N b t) Q :=
  by
  refine g_in mzq_371 (Nat.le_of_ble_eq_true rfl) (Nat.le_of_ble_eq_true rfl) (Nat.le_trans (Nat.le_of_ble_eq_true rfl) hd) ?_
  refine g_weak ?_ (cg_371_0 (d := d - 1) (by omega) hS hR N (C0 := fun z => Q (.inl none) (mz_k S R z b t)) (fun _ h => h) hp hq)
  exact ⟨rfl, trivial⟩
end Fn17
