/-! THE FUNCTIONS: written by program: each method comes to its function. -/
section Fn15
variable {L : Nat} {xs : Nat → Int32} {d : Nat} {S : mz_S} {R : Nat → Nat → Option Nat} {Q : mz_Q} {N : mz_N} {b : Bool} {t : Nat}
/-! 299 KeptHouse.door (II)I -/
theorem ms_299_0 : mz_sf mk_299 0 = mk_299 := mz_sf_zero _
theorem ms_299_25 : mz_sf mk_299 25 = mt_299_25 := mz_sf_add ms_299_0 (t := 25) rfl rfl
theorem ms_299_42 : mz_sf mk_299 42 = mt_299_42 := mz_sf_add ms_299_25 (t := 17) rfl rfl
set_option maxRecDepth 100000 in
theorem mzq_299 : mz_PG0 299 = some (11, ⟨"KeptHouse", "door", "(II)I"⟩, prog_1_method_42_code, 4, some .int, [], mk_299, []) := rfl
theorem cg_299_0 (hd : 5 ≤ d) (hS : mz_extR S 232) (hR : mz_rok R 232)  (v1 : Int32) (v2 : Int32) (N : mz_N) (b : Bool) {C0 : (Nat × Int32 × mz_N) → Prop} (hr : ∀ (w : Int32) (N2 : mz_N), C0 (0, w, N2) → Q (.inl (some (.int w))) (mz_k S R N2 b t)) (ht : ∀ (c : Nat) (w : Int32) (N2 : mz_N), ¬ c = 0 → C0 (c, w, N2) → Q (.inr (c - 1)) (mz_k S R N2 b (t + 1))) (h1000 : t < 1000) (hp : cp_299_0 v1 v2 N b) (hC : C0 (cf_299_0 v1 v2 N b)) : mz_G (d, mz_X0 L xs, some .int, [], mk_299, 4, Q) 0 mk_299 [(0, .ref 0), (1, .int v1), (2, .int v2)] [] true (mz_k S R N b t) := by
  unfold cf_299_0 at hC
  unfold cp_299_0 at hp
  refine g_aload_n rfl ?_
  obtain ⟨h1, hp⟩ := hp
  refine g_v1nt (Nat.le_of_ble_eq_true rfl) (mz_at hS (Nat.le_of_ble_eq_true rfl) mzcS_0) rfl (fun _ hz0 hz1 => cs_104 (Nat.le_trans (Nat.le_of_ble_eq_true rfl) hd) (hS.le (Nat.le_of_ble_eq_true rfl)) (hR.le (Nat.le_of_ble_eq_true rfl))  N h1 h1000 hz0 hz1) hC (fun h13 hC => ?_) (fun h13 hC => ?_)
  · have hp := hp.1 h13
    refine g_iload_n rfl (g_iconst mzi_0 (g_iconst mzi_4 ?_))
    obtain ⟨h2, hp⟩ := hp
    refine g_s3nt (Nat.le_of_ble_eq_true rfl) rfl (fun _ hz0 hz1 => cs_105 (Nat.le_trans (Nat.le_of_ble_eq_true rfl) hd) (hS.le (Nat.le_of_ble_eq_true rfl)) (hR.le (Nat.le_of_ble_eq_true rfl))  v1 0 4 h2 h1000 hz0 hz1) hC (fun h12 hC => ?_) (fun h12 hC => ?_)
    · have hp := hp.1 h12
      refine g_iload_n rfl (g_iconst mzi_0 (g_bipush mzb_109 ?_))
      obtain ⟨h3, hp⟩ := hp
      refine g_s3nt (Nat.le_of_ble_eq_true rfl) rfl (fun _ hz0 hz1 => cs_105 (Nat.le_trans (Nat.le_of_ble_eq_true rfl) hd) (hS.le (Nat.le_of_ble_eq_true rfl)) (hR.le (Nat.le_of_ble_eq_true rfl))  v2 0 109 h3 h1000 hz0 hz1) hC (fun h11 hC => ?_) (fun h11 hC => ?_)
      · have hp := hp.1 h11
        refine g_iload_n rfl (g_iload_n rfl ?_)
        refine g_s2v (Nat.le_of_ble_eq_true rfl) (fun _ hq => cs_300 (Nat.le_trans (Nat.le_of_ble_eq_true rfl) hd) (hS.le (Nat.le_of_ble_eq_true rfl)) (hR.le (Nat.le_of_ble_eq_true rfl))  v1 v2 trivial hq) ?_
        refine g_s1nt (Nat.le_of_ble_eq_true rfl) rfl (fun _ hz0 hz1 => cs_142 (Nat.le_trans (Nat.le_of_ble_eq_true rfl) hd) (hS.le (Nat.le_of_ble_eq_true rfl)) (hR.le (Nat.le_of_ble_eq_true rfl))  (cf_300_0 v1 v2) trivial h1000 hz0 hz1) hC (fun h10 hC => ?_) (fun h10 hC => ?_)
        · have hp := hp.1 h10
          refine g_aload_n rfl (g_getR (mz_at hS (Nat.le_of_ble_eq_true rfl) mzcS_0) mzcf_11_6 (mz_rb hR (Nat.le_of_ble_eq_true rfl) rfl mzcR_0_6) ?_)
          obtain ⟨h6, hp⟩ := hp
          refine g_v1v (Nat.le_of_ble_eq_true rfl) (mz_at hS (Nat.le_of_ble_eq_true rfl) mzcS_100) (fun _ hq => cs_301 (Nat.le_trans (Nat.le_of_ble_eq_true rfl) hd) (hS.le (Nat.le_of_ble_eq_true rfl)) (hR.le (Nat.le_of_ble_eq_true rfl))  N h6 hq) (g_istore_n (Nat.le_of_ble_eq_true rfl) rfl (g_iload_n rfl (g_iconst mzi_m1 ?_)))
          refine g_icne (tg := 42) rfl ms_299_42 hC (fun h7 hC => ?_) (fun h7 hC => ?_)
          · have hp := hp.1 h7
            refine g_sipush mzs_m1003 ?_
            exact g_iret rfl (hr _ _ hC)
          · have hp := hp.2 h7
            refine g_aload_n rfl (g_getR (mz_at hS (Nat.le_of_ble_eq_true rfl) mzcS_0) mzcf_11_6 (mz_rb hR (Nat.le_of_ble_eq_true rfl) rfl mzcR_0_6) (g_iload_n rfl (g_iload_n rfl (g_iload_n rfl ?_))))
            obtain ⟨h8, hp⟩ := hp
            refine g_v4n (Nat.le_of_ble_eq_true rfl) (mz_at hS (Nat.le_of_ble_eq_true rfl) mzcS_100) (fun _ hq => cs_69 (Nat.le_trans (Nat.le_of_ble_eq_true rfl) hd) (hS.le (Nat.le_of_ble_eq_true rfl)) (hR.le (Nat.le_of_ble_eq_true rfl))  (cf_301_0 N) v1 v2 N h8 hq) (g_aload_n rfl (g_bipush mzb_13 (g_iload_n rfl (g_iload_n rfl ?_))))
            have h9 := hp
            refine g_v4v (Nat.le_of_ble_eq_true rfl) (mz_at hS (Nat.le_of_ble_eq_true rfl) mzcS_0) (fun _ hq => cs_171 (Nat.le_trans (Nat.le_of_ble_eq_true rfl) hd) (hS.le (Nat.le_of_ble_eq_true rfl)) (hR.le (Nat.le_of_ble_eq_true rfl))  13 (cf_301_0 N) (cf_301_0 N) (cf_69_0 (cf_301_0 N) v1 v2 N) b h9 hq) ?_
            exact g_iret rfl (hr _ _ hC)
        · have hp := hp.2 h10
          exact ht _ _ _ h10 hC
      · have hp := hp.2 h11
        exact ht _ _ _ h11 hC
    · have hp := hp.2 h12
      exact ht _ _ _ h12 hC
  · have hp := hp.2 h13
    exact ht _ _ _ h13 hC
theorem cs_299 (hd : 6 ≤ d) (hS : mz_extR S 232) (hR : mz_rok R 232)  (v1 : Int32) (v2 : Int32) (N : mz_N) (b : Bool) (hp : cp_299_0 v1 v2 N b) (h1000 : t < 1000) (h0 : (cf_299_0 v1 v2 N b).1 = 0 → Q (.inl (some (.int ((cf_299_0 v1 v2 N b).2.1)))) (mz_k S R ((cf_299_0 v1 v2 N b).2.2) b t)) (h1 : ¬ (cf_299_0 v1 v2 N b).1 = 0 → Q (.inr (((cf_299_0 v1 v2 N b).1) - 1)) (mz_k S R ((cf_299_0 v1 v2 N b).2.2) b (t + 1))) : mz_Ed (mz_X0 L xs) d 299 [.ref 0, .int v1, .int v2] (mz_k S R N b t) Q :=
  by
  refine g_in mzq_299 (Nat.le_of_ble_eq_true rfl) (Nat.le_of_ble_eq_true rfl) (Nat.le_trans (Nat.le_of_ble_eq_true rfl) hd) ?_
  refine g_weak ?_ (cg_299_0 (d := d - 1) (by omega) hS hR v1 v2 N b (C0 := fun z => (z.1 = 0 → Q (.inl (some (.int z.2.1))) (mz_k S R z.2.2 b t)) ∧ (¬ z.1 = 0 → Q (.inr (z.1 - 1)) (mz_k S R z.2.2 b (t + 1)))) (fun _ _ h => h.1 rfl) (fun c _ _ hc h => h.2 hc) h1000 hp ⟨h0, h1⟩)
  exact ⟨rfl, rfl, rfl, trivial⟩
/-! 298 KeptHouseLaw.door (LKeptHouse;II[J)I -/
theorem ms_298_0 : mz_sf mk_298 0 = mk_298 := mz_sf_zero _
theorem ms_298_15 : mz_sf mk_298 15 = mt_298_15 := mz_sf_add ms_298_0 (t := 15) rfl rfl
theorem ms_298_19 : mz_sf mk_298 19 = mt_298_19 := mz_sf_add ms_298_15 (t := 4) rfl rfl
theorem ms_298_21 : mz_sf mk_298 21 = mt_298_21 := mz_sf_add ms_298_19 (t := 2) rfl rfl
set_option maxRecDepth 100000 in
theorem mzq_298 : mz_PG0 298 = some (13, ⟨"KeptHouseLaw", "door", "(LKeptHouse;II[J)I"⟩, method_38_code, 5, some .int, [(0, 10, 13, 13), (0, 10, 17, 15)], mk_298, [(0, 13, 15), (1, 17, 19)]) := rfl
theorem cg_298_21 (hd : 6 ≤ d) (hS : mz_extR S 343) (hR : mz_rok R 343)  (N : mz_N) (b : Bool) (t : Nat) {C0 : (Int32 × mz_N × Nat) → Prop} (hr : ∀ (w : Int32) (N2 : mz_N) (t2 : Nat), C0 (w, N2, t2) → Q (.inl (some (.int w))) (mz_k S R N2 b t2)) (hp : cp_298_21 N b t) (hC : C0 (cf_298_21 N b t)) : mz_G (d, mz_X0 L xs, some .int, [(0, 13, 15), (1, 17, 19)], mk_298, 5, Q) 21 mt_298_21 [] [] false (mz_k S R N b t) := by
  unfold cf_298_21 at hC
  unfold cp_298_21 at hp
  refine g_iconst mzi_0 ?_
  exact g_iret rfl (hr _ _ _ hC)
theorem cg_298_0 (hd : 6 ≤ d) (hS : mz_extR S 343) (hR : mz_rok R 343)  (v1 : Int32) (v2 : Int32) (N : mz_N) (b : Bool) (t : Nat) {C0 : (Int32 × mz_N × Nat) → Prop} (hr : ∀ (w : Int32) (N2 : mz_N) (t2 : Nat), C0 (w, N2, t2) → Q (.inl (some (.int w))) (mz_k S R N2 b t2)) (hp : cp_298_0 v1 v2 N b t) (hC : C0 (cf_298_0 v1 v2 N b t)) : mz_G (d, mz_X0 L xs, some .int, [(0, 13, 15), (1, 17, 19)], mk_298, 5, Q) 0 mk_298 [(0, .ref 0), (1, .int v1), (2, .int v2), (3, .ref 342)] [] true (mz_k S R N b t) := by
  unfold cf_298_0 at hC
  unfold cp_298_0 at hp
  refine g_aload_n rfl (g_iconst mzi_0 (g_aload_n rfl (g_iload_n rfl (g_iload_n rfl ?_))))
  obtain ⟨h1, hp⟩ := hp
  obtain ⟨h1000, hp⟩ := hp
  refine g_v3vh (Nat.le_of_ble_eq_true rfl) (mz_at hS (Nat.le_of_ble_eq_true rfl) mzcS_0) (fun _ hz0 hz1 => cs_299 (Nat.le_trans (Nat.le_of_ble_eq_true rfl) hd) (hS.le (Nat.le_of_ble_eq_true rfl)) (hR.le (Nat.le_of_ble_eq_true rfl))  v1 v2 N b h1 h1000 hz0 hz1) hC (fun h2 hC => ?_) (fun h2 hC => ?_)
  · have hp := hp.1 h2
    refine g_i2l (g_last (mz_at hS (Nat.le_of_ble_eq_true rfl) mzcS_342) (mz_ibd (by decide)) (g_goto (tg := 21) rfl ms_298_21 ?_))
    refine g_weak ?_ (g_cl (cg_298_21 hd hS hR (mz_wL ((cf_299_0 v1 v2 N b).2.2) 342 0 (((cf_299_0 v1 v2 N b).2.1).toInt64)) b t hr hp hC))
    exact trivial
  · have hp := hp.2 h2
    refine mz_cs hC (fun h6 hC => ?_) (fun h6 hC => ?_)
    · have hp := hp.1 h6
      refine ⟨(0, 13, 15), (by rw [h6]; rfl), ?_⟩
      show mz_G (d, mz_X0 L xs, some .int, [(0, 13, 15), (1, 17, 19)], mk_298, 5, Q) 15 (mz_sf mk_298 15) [] [] false (mz_k S R ((cf_299_0 v1 v2 N b).2.2) b (t + 1))
      rw [ms_298_15]
      refine g_iconst mzi_1 ?_
      exact g_iret rfl (hr _ _ _ hC)
    · have hp := hp.2 h6
      have h4 := hp
      refine ⟨(1, 17, 19), (by rw [h4]; rfl), ?_⟩
      show mz_G (d, mz_X0 L xs, some .int, [(0, 13, 15), (1, 17, 19)], mk_298, 5, Q) 19 (mz_sf mk_298 19) [] [] false (mz_k S R ((cf_299_0 v1 v2 N b).2.2) b (t + 1))
      rw [ms_298_19]
      refine g_iconst mzi_2 ?_
      exact g_iret rfl (hr _ _ _ hC)
theorem cs_298 (hd : 7 ≤ d) (hS : mz_extR S 343) (hR : mz_rok R 343)  (v1 : Int32) (v2 : Int32) (N : mz_N) (b : Bool) (t : Nat) (hp : cp_298_0 v1 v2 N b t) (hq : Q (.inl (some (.int ((cf_298_0 v1 v2 N b t).1)))) (mz_k S R ((cf_298_0 v1 v2 N b t).2.1) b ((cf_298_0 v1 v2 N b t).2.2))) : mz_Ed (mz_X0 L xs) d 298 [.ref 0, .int v1, .int v2, .ref 342] (mz_k S R N b t) Q :=
  by
  refine g_in mzq_298 (Nat.le_of_ble_eq_true rfl) (Nat.le_of_ble_eq_true rfl) (Nat.le_trans (Nat.le_of_ble_eq_true rfl) hd) ?_
  refine g_weak ?_ (cg_298_0 (d := d - 1) (by omega) hS hR v1 v2 N b t (C0 := fun z => Q (.inl (some (.int z.1))) (mz_k S R z.2.1 b z.2.2)) (fun _ _ _ h => h) hp hq)
  exact ⟨rfl, rfl, rfl, rfl, trivial⟩
/-! 303 KeptHouse.card (IIIIZ)I -/
theorem ms_303_0 : mz_sf mk_303 0 = mk_303 := mz_sf_zero _
theorem ms_303_26 : mz_sf mk_303 26 = mt_303_26 := mz_sf_add ms_303_0 (t := 26) rfl rfl
theorem ms_303_52 : mz_sf mk_303 52 = mt_303_52 := mz_sf_add ms_303_26 (t := 26) rfl rfl
theorem ms_303_53 : mz_sf mk_303 53 = mt_303_53 := mz_sf_add ms_303_52 (t := 1) rfl rfl
set_option maxRecDepth 100000 in
theorem mzq_303 : mz_PG0 303 = some (11, ⟨"KeptHouse", "card", "(IIIIZ)I"⟩, prog_1_method_43_code, 6, some .int, [], mk_303, []) := rfl
theorem cg_303_53 (hd : 5 ≤ d) (hS : mz_extR S 232) (hR : mz_rok R 232)  (s1 : Int32) (s2 : Int32) (s3 : Int32) (s4 : Int32) (s5 : Bool) (v1 : Int32) (N : mz_N) (b : Bool) {C0 : (Nat × Int32 × mz_N) → Prop} (hr : ∀ (w : Int32) (N2 : mz_N), C0 (0, w, N2) → Q (.inl (some (.int w))) (mz_k S R N2 b t)) (ht : ∀ (c : Nat) (w : Int32) (N2 : mz_N), ¬ c = 0 → C0 (c, w, N2) → Q (.inr (c - 1)) (mz_k S R N2 b (t + 1))) (h1000 : t < 1000) (hp : cp_303_53 s1 s2 s3 s4 s5 v1 N b) (hC : C0 (cf_303_53 s1 s2 s3 s4 s5 v1 N b)) : mz_G (d, mz_X0 L xs, some .int, [], mk_303, 6, Q) 53 mt_303_53 [(0, .ref 0), (1, .int v1)] [.int (mz_b01 s5), .int s4, .int s3, .int s2, .int s1, .ref 100] false (mz_k S R N b t) := by
  unfold cf_303_53 at hC
  unfold cp_303_53 at hp
  obtain ⟨h1, hp⟩ := hp
  refine g_v6n (Nat.le_of_ble_eq_true rfl) (mz_at hS (Nat.le_of_ble_eq_true rfl) mzcS_100) (fun _ hq => cs_71 (Nat.le_trans (Nat.le_of_ble_eq_true rfl) hd) (hS.le (Nat.le_of_ble_eq_true rfl)) (hR.le (Nat.le_of_ble_eq_true rfl))  s1 s2 s3 s4 (mz_b01 s5) N h1 hq) (g_aload_n rfl (g_bipush mzb_14 (g_iload_n rfl (g_iconst mzi_0 ?_))))
  have h2 := hp
  refine g_v4v (Nat.le_of_ble_eq_true rfl) (mz_at hS (Nat.le_of_ble_eq_true rfl) mzcS_0) (fun _ hq => cs_171 (Nat.le_trans (Nat.le_of_ble_eq_true rfl) hd) (hS.le (Nat.le_of_ble_eq_true rfl)) (hR.le (Nat.le_of_ble_eq_true rfl))  14 v1 0 (cf_71_0 s1 s2 s3 s4 (mz_b01 s5) N) b h2 hq) ?_
  exact g_iret rfl (hr _ _ hC)
theorem cg_303_0 (hd : 5 ≤ d) (hS : mz_extR S 232) (hR : mz_rok R 232)  (v1 : Int32) (v2 : Int32) (v3 : Int32) (v4 : Int32) (v5 : Bool) (N : mz_N) (b : Bool) {C0 : (Nat × Int32 × mz_N) → Prop} (hr : ∀ (w : Int32) (N2 : mz_N), C0 (0, w, N2) → Q (.inl (some (.int w))) (mz_k S R N2 b t)) (ht : ∀ (c : Nat) (w : Int32) (N2 : mz_N), ¬ c = 0 → C0 (c, w, N2) → Q (.inr (c - 1)) (mz_k S R N2 b (t + 1))) (h1000 : t < 1000) (hp : cp_303_0 v1 v2 v3 v4 v5 N b) (hC : C0 (cf_303_0 v1 v2 v3 v4 v5 N b)) : mz_G (d, mz_X0 L xs, some .int, [], mk_303, 6, Q) 0 mk_303 [(0, .ref 0), (1, .int v1), (2, .int v2), (3, .int v3), (4, .int v4), (5, .int (mz_b01 v5))] [] true (mz_k S R N b t) := by
  unfold cf_303_0 at hC
  unfold cp_303_0 at hp
  refine g_aload_n rfl ?_
  obtain ⟨h1, hp⟩ := hp
  refine g_v1nt (Nat.le_of_ble_eq_true rfl) (mz_at hS (Nat.le_of_ble_eq_true rfl) mzcS_0) rfl (fun _ hz0 hz1 => cs_104 (Nat.le_trans (Nat.le_of_ble_eq_true rfl) hd) (hS.le (Nat.le_of_ble_eq_true rfl)) (hR.le (Nat.le_of_ble_eq_true rfl))  N h1 h1000 hz0 hz1) hC (fun h11 hC => ?_) (fun h11 hC => ?_)
  · have hp := hp.1 h11
    refine g_iload_n rfl (g_iconst mzi_0 (g_bipush mzb_39 ?_))
    obtain ⟨h2, hp⟩ := hp
    refine g_s3nt (Nat.le_of_ble_eq_true rfl) rfl (fun _ hz0 hz1 => cs_105 (Nat.le_trans (Nat.le_of_ble_eq_true rfl) hd) (hS.le (Nat.le_of_ble_eq_true rfl)) (hR.le (Nat.le_of_ble_eq_true rfl))  v1 0 39 h2 h1000 hz0 hz1) hC (fun h10 hC => ?_) (fun h10 hC => ?_)
    · have hp := hp.1 h10
      refine g_iload_n rfl (g_iconst mzi_0 (g_con3 ?_))
      obtain ⟨h3, hp⟩ := hp
      refine g_s3nt (Nat.le_of_ble_eq_true rfl) rfl (fun _ hz0 hz1 => cs_105 (Nat.le_trans (Nat.le_of_ble_eq_true rfl) hd) (hS.le (Nat.le_of_ble_eq_true rfl)) (hR.le (Nat.le_of_ble_eq_true rfl))  v2 0 1048575 h3 h1000 hz0 hz1) hC (fun h9 hC => ?_) (fun h9 hC => ?_)
      · have hp := hp.1 h9
        refine g_iload_n rfl (g_iconst mzi_0 (g_bipush mzb_23 ?_))
        obtain ⟨h4, hp⟩ := hp
        refine g_s3nt (Nat.le_of_ble_eq_true rfl) rfl (fun _ hz0 hz1 => cs_105 (Nat.le_trans (Nat.le_of_ble_eq_true rfl) hd) (hS.le (Nat.le_of_ble_eq_true rfl)) (hR.le (Nat.le_of_ble_eq_true rfl))  v3 0 23 h4 h1000 hz0 hz1) hC (fun h8 hC => ?_) (fun h8 hC => ?_)
        · have hp := hp.1 h8
          refine g_iload rfl (g_iconst mzi_0 (g_bipush mzb_23 ?_))
          obtain ⟨h5, hp⟩ := hp
          refine g_s3nt (Nat.le_of_ble_eq_true rfl) rfl (fun _ hz0 hz1 => cs_105 (Nat.le_trans (Nat.le_of_ble_eq_true rfl) hd) (hS.le (Nat.le_of_ble_eq_true rfl)) (hR.le (Nat.le_of_ble_eq_true rfl))  v4 0 23 h5 h1000 hz0 hz1) hC (fun h7 hC => ?_) (fun h7 hC => ?_)
          · have hp := hp.1 h7
            refine g_aload_n rfl (g_getR (mz_at hS (Nat.le_of_ble_eq_true rfl) mzcS_0) mzcf_11_6 (mz_rb hR (Nat.le_of_ble_eq_true rfl) rfl mzcR_0_6) (g_iload_n rfl (g_iload_n rfl (g_iload_n rfl (g_iload rfl (g_iload rfl ?_))))))
            refine g_zeq (tg := 52) rfl ms_303_52 hC (fun h6 hC => ?_) (fun h6 hC => ?_)
            · have hp := hp.1 h6
              refine g_iconst mzi_1 (g_goto (tg := 53) rfl ms_303_53 ?_)
              refine g_weak ?_ (g_cl (cg_303_53 hd hS hR v1 v2 v3 v4 true v1 N b hr ht h1000 hp hC))
              exact ⟨rfl, rfl, trivial⟩
            · have hp := hp.2 h6
              refine g_iconst mzi_0 ?_
              refine g_weak ?_ (g_cl (cg_303_53 hd hS hR v1 v2 v3 v4 false v1 N b hr ht h1000 hp hC))
              exact ⟨rfl, rfl, trivial⟩
          · have hp := hp.2 h7
            exact ht _ _ _ h7 hC
        · have hp := hp.2 h8
          exact ht _ _ _ h8 hC
      · have hp := hp.2 h9
        exact ht _ _ _ h9 hC
    · have hp := hp.2 h10
      exact ht _ _ _ h10 hC
  · have hp := hp.2 h11
    exact ht _ _ _ h11 hC
theorem cs_303 (hd : 6 ≤ d) (hS : mz_extR S 232) (hR : mz_rok R 232)  (v1 : Int32) (v2 : Int32) (v3 : Int32) (v4 : Int32) (v5 : Bool) (N : mz_N) (b : Bool) (hp : cp_303_0 v1 v2 v3 v4 v5 N b) (h1000 : t < 1000) (h0 : (cf_303_0 v1 v2 v3 v4 v5 N b).1 = 0 → Q (.inl (some (.int ((cf_303_0 v1 v2 v3 v4 v5 N b).2.1)))) (mz_k S R ((cf_303_0 v1 v2 v3 v4 v5 N b).2.2) b t)) (h1 : ¬ (cf_303_0 v1 v2 v3 v4 v5 N b).1 = 0 → Q (.inr (((cf_303_0 v1 v2 v3 v4 v5 N b).1) - 1)) (mz_k S R ((cf_303_0 v1 v2 v3 v4 v5 N b).2.2) b (t + 1))) : mz_Ed (mz_X0 L xs) d 303 [.ref 0, .int v1, .int v2, .int v3, .int v4, .int (mz_b01 v5)] (mz_k S R N b t) Q :=
  by
  refine g_in mzq_303 (Nat.le_of_ble_eq_true rfl) (Nat.le_of_ble_eq_true rfl) (Nat.le_trans (Nat.le_of_ble_eq_true rfl) hd) ?_
  refine g_weak ?_ (cg_303_0 (d := d - 1) (by omega) hS hR v1 v2 v3 v4 v5 N b (C0 := fun z => (z.1 = 0 → Q (.inl (some (.int z.2.1))) (mz_k S R z.2.2 b t)) ∧ (¬ z.1 = 0 → Q (.inr (z.1 - 1)) (mz_k S R z.2.2 b (t + 1)))) (fun _ _ h => h.1 rfl) (fun c _ _ hc h => h.2 hc) h1000 hp ⟨h0, h1⟩)
  exact ⟨rfl, rfl, rfl, rfl, rfl, rfl, trivial⟩
/-! 302 KeptHouseLaw.card (LKeptHouse;IIIIZ[J)I -/
theorem ms_302_0 : mz_sf mk_302 0 = mk_302 := mz_sf_zero _
theorem ms_302_21 : mz_sf mk_302 21 = mt_302_21 := mz_sf_add ms_302_0 (t := 21) rfl rfl
theorem ms_302_25 : mz_sf mk_302 25 = mt_302_25 := mz_sf_add ms_302_21 (t := 4) rfl rfl
theorem ms_302_27 : mz_sf mk_302 27 = mt_302_27 := mz_sf_add ms_302_25 (t := 2) rfl rfl
set_option maxRecDepth 100000 in
theorem mzq_302 : mz_PG0 302 = some (13, ⟨"KeptHouseLaw", "card", "(LKeptHouse;IIIIZ[J)I"⟩, method_39_code, 8, some .int, [(0, 16, 19, 13), (0, 16, 23, 15)], mk_302, [(0, 19, 21), (1, 23, 25)]) := rfl
theorem cg_302_27 (hd : 6 ≤ d) (hS : mz_extR S 343) (hR : mz_rok R 343)  (N : mz_N) (b : Bool) (t : Nat) {C0 : (Int32 × mz_N × Nat) → Prop} (hr : ∀ (w : Int32) (N2 : mz_N) (t2 : Nat), C0 (w, N2, t2) → Q (.inl (some (.int w))) (mz_k S R N2 b t2)) (hp : cp_302_27 N b t) (hC : C0 (cf_302_27 N b t)) : mz_G (d, mz_X0 L xs, some .int, [(0, 19, 21), (1, 23, 25)], mk_302, 8, Q) 27 mt_302_27 [] [] false (mz_k S R N b t) := by
  unfold cf_302_27 at hC
  unfold cp_302_27 at hp
  refine g_iconst mzi_0 ?_
  exact g_iret rfl (hr _ _ _ hC)
theorem cg_302_0 (hd : 6 ≤ d) (hS : mz_extR S 343) (hR : mz_rok R 343)  (v1 : Int32) (v2 : Int32) (v3 : Int32) (v4 : Int32) (v5 : Bool) (N : mz_N) (b : Bool) (t : Nat) {C0 : (Int32 × mz_N × Nat) → Prop} (hr : ∀ (w : Int32) (N2 : mz_N) (t2 : Nat), C0 (w, N2, t2) → Q (.inl (some (.int w))) (mz_k S R N2 b t2)) (hp : cp_302_0 v1 v2 v3 v4 v5 N b t) (hC : C0 (cf_302_0 v1 v2 v3 v4 v5 N b t)) : mz_G (d, mz_X0 L xs, some .int, [(0, 19, 21), (1, 23, 25)], mk_302, 8, Q) 0 mk_302 [(0, .ref 0), (1, .int v1), (2, .int v2), (3, .int v3), (4, .int v4), (5, .int (mz_b01 v5)), (6, .ref 342)] [] true (mz_k S R N b t) := by
  unfold cf_302_0 at hC
  unfold cp_302_0 at hp
  refine g_aload rfl (g_iconst mzi_0 (g_aload_n rfl (g_iload_n rfl (g_iload_n rfl (g_iload_n rfl (g_iload rfl (g_iload rfl ?_)))))))
  obtain ⟨h1, hp⟩ := hp
  obtain ⟨h1000, hp⟩ := hp
  refine g_v6vh (Nat.le_of_ble_eq_true rfl) (mz_at hS (Nat.le_of_ble_eq_true rfl) mzcS_0) (fun _ hz0 hz1 => cs_303 (Nat.le_trans (Nat.le_of_ble_eq_true rfl) hd) (hS.le (Nat.le_of_ble_eq_true rfl)) (hR.le (Nat.le_of_ble_eq_true rfl))  v1 v2 v3 v4 v5 N b h1 h1000 hz0 hz1) hC (fun h2 hC => ?_) (fun h2 hC => ?_)
  · have hp := hp.1 h2
    refine g_i2l (g_last (mz_at hS (Nat.le_of_ble_eq_true rfl) mzcS_342) (mz_ibd (by decide)) (g_goto (tg := 27) rfl ms_302_27 ?_))
    refine g_weak ?_ (g_cl (cg_302_27 hd hS hR (mz_wL ((cf_303_0 v1 v2 v3 v4 v5 N b).2.2) 342 0 (((cf_303_0 v1 v2 v3 v4 v5 N b).2.1).toInt64)) b t hr hp hC))
    exact trivial
  · have hp := hp.2 h2
    refine mz_cs hC (fun h6 hC => ?_) (fun h6 hC => ?_)
    · have hp := hp.1 h6
      refine ⟨(0, 19, 21), (by rw [h6]; rfl), ?_⟩
      show mz_G (d, mz_X0 L xs, some .int, [(0, 19, 21), (1, 23, 25)], mk_302, 8, Q) 21 (mz_sf mk_302 21) [] [] false (mz_k S R ((cf_303_0 v1 v2 v3 v4 v5 N b).2.2) b (t + 1))
      rw [ms_302_21]
      refine g_iconst mzi_1 ?_
      exact g_iret rfl (hr _ _ _ hC)
    · have hp := hp.2 h6
      have h4 := hp
      refine ⟨(1, 23, 25), (by rw [h4]; rfl), ?_⟩
      show mz_G (d, mz_X0 L xs, some .int, [(0, 19, 21), (1, 23, 25)], mk_302, 8, Q) 25 (mz_sf mk_302 25) [] [] false (mz_k S R ((cf_303_0 v1 v2 v3 v4 v5 N b).2.2) b (t + 1))
      rw [ms_302_25]
      refine g_iconst mzi_2 ?_
      exact g_iret rfl (hr _ _ _ hC)
theorem cs_302 (hd : 7 ≤ d) (hS : mz_extR S 343) (hR : mz_rok R 343)  (v1 : Int32) (v2 : Int32) (v3 : Int32) (v4 : Int32) (v5 : Bool) (N : mz_N) (b : Bool) (t : Nat) (hp : cp_302_0 v1 v2 v3 v4 v5 N b t) (hq : Q (.inl (some (.int ((cf_302_0 v1 v2 v3 v4 v5 N b t).1)))) (mz_k S R ((cf_302_0 v1 v2 v3 v4 v5 N b t).2.1) b ((cf_302_0 v1 v2 v3 v4 v5 N b t).2.2))) : mz_Ed (mz_X0 L xs) d 302 [.ref 0, .int v1, .int v2, .int v3, .int v4, .int (mz_b01 v5), .ref 342] (mz_k S R N b t) Q :=
  by
  refine g_in mzq_302 (Nat.le_of_ble_eq_true rfl) (Nat.le_of_ble_eq_true rfl) (Nat.le_trans (Nat.le_of_ble_eq_true rfl) hd) ?_
  refine g_weak ?_ (cg_302_0 (d := d - 1) (by omega) hS hR v1 v2 v3 v4 v5 N b t (C0 := fun z => Q (.inl (some (.int z.1))) (mz_k S R z.2.1 b z.2.2)) (fun _ _ _ h => h) hp hq)
  exact ⟨rfl, rfl, rfl, rfl, rfl, rfl, rfl, trivial⟩
/-! 306 KeptHouse$Access.isCard (I)Z -/
theorem ms_306_0 : mz_sf mk_306 0 = mk_306 := mz_sf_zero _
theorem ms_306_24 : mz_sf mk_306 24 = mt_306_24 := mz_sf_add ms_306_0 (t := 24) rfl rfl
theorem ms_306_25 : mz_sf mk_306 25 = mt_306_25 := mz_sf_add ms_306_24 (t := 1) rfl rfl
set_option maxRecDepth 100000 in
theorem mzq_306 : mz_PG0 306 = some (0, ⟨"KeptHouse$Access", "isCard", "(I)Z"⟩, prog_2_method_8_code, 2, some .boolean, [], mk_306, []) := rfl
theorem cg_306_0 (hd : 0 ≤ d) (hS : mz_extR S 232) (hR : mz_rok R 232)  (v1 : Int32) (N : mz_N) {C0 : (Bool) → Prop} (hr : ∀ (w : Bool), C0 w → Q (.inl (some (.int (mz_b01 w)))) (mz_k S R N b t)) (hp : cp_306_0 v1 N) (hC : C0 (cf_306_0 v1 N)) : mz_G (d, mz_X0 L xs, some .boolean, [], mk_306, 2, Q) 0 mk_306 [(0, .ref 100), (1, .int v1)] [] true (mz_k S R N b t) := by
  unfold cf_306_0 at hC
  unfold cp_306_0 at hp
  refine g_iload_n rfl ?_
  refine g_iflt (tg := 24) rfl ms_306_24 hC (fun h1 hC => ?_) (fun h1 hC => ?_)
  · have hp := hp.1 h1
    refine g_iconst mzi_0 ?_
    exact g_zret (z := false) rfl (hr _ hC)
  · have hp := hp.2 h1
    refine g_iload_n rfl (g_bipush mzb_40 ?_)
    refine g_icge (tg := 24) rfl ms_306_24 hC (fun h2 hC => ?_) (fun h2 hC => ?_)
    · have hp := hp.1 h2
      refine g_aload_n rfl (g_getR (mz_at hS (Nat.le_of_ble_eq_true rfl) mzcS_100) mzcf_0_3 (mz_rb hR (Nat.le_of_ble_eq_true rfl) rfl mzcR_100_3) (g_iload_n rfl ?_))
      have h3 := hp
      refine g_iald hS.1 (mz_at hS (Nat.le_of_ble_eq_true rfl) mzcS_104) h3 (g_iconst mzi_1 ?_)
      refine g_icne (tg := 24) rfl ms_306_24 hC (fun h4 hC => ?_) (fun h4 hC => ?_)
      · refine g_iconst mzi_1 (g_goto (tg := 25) rfl ms_306_25 ?_)
        exact g_zret (z := true) rfl (hr _ hC)
      · refine g_iconst mzi_0 ?_
        exact g_zret (z := false) rfl (hr _ hC)
    · have hp := hp.2 h2
      refine g_iconst mzi_0 ?_
      exact g_zret (z := false) rfl (hr _ hC)
theorem cs_306 (hd : 1 ≤ d) (hS : mz_extR S 232) (hR : mz_rok R 232)  (v1 : Int32) (N : mz_N) (hp : cp_306_0 v1 N) (hq : Q (.inl (some (.int (mz_b01 (cf_306_0 v1 N))))) (mz_k S R N b t)) : mz_Ed (mz_X0 L xs) d 306 [.ref 100, .int v1] (mz_k S R N b t) Q :=
  by
  refine g_in mzq_306 (Nat.le_of_ble_eq_true rfl) (Nat.le_of_ble_eq_true rfl) (Nat.le_trans (Nat.le_of_ble_eq_true rfl) hd) ?_
  refine g_weak ?_ (cg_306_0 (d := d - 1) (by omega) hS hR v1 N (C0 := fun z => Q (.inl (some (.int (mz_b01 z)))) (mz_k S R N b t)) (fun _ h => h) hp hq)
  exact ⟨rfl, rfl, trivial⟩
/-! 307 KeptHouse$Access.isDoor (I)Z -/
theorem ms_307_0 : mz_sf mk_307 0 = mk_307 := mz_sf_zero _
theorem ms_307_24 : mz_sf mk_307 24 = mt_307_24 := mz_sf_add ms_307_0 (t := 24) rfl rfl
theorem ms_307_25 : mz_sf mk_307 25 = mt_307_25 := mz_sf_add ms_307_24 (t := 1) rfl rfl
set_option maxRecDepth 100000 in
theorem mzq_307 : mz_PG0 307 = some (0, ⟨"KeptHouse$Access", "isDoor", "(I)Z"⟩, prog_2_method_7_code, 2, some .boolean, [], mk_307, []) := rfl
theorem cg_307_0 (hd : 0 ≤ d) (hS : mz_extR S 232) (hR : mz_rok R 232)  (v1 : Int32) (N : mz_N) {C0 : (Bool) → Prop} (hr : ∀ (w : Bool), C0 w → Q (.inl (some (.int (mz_b01 w)))) (mz_k S R N b t)) (hp : cp_307_0 v1 N) (hC : C0 (cf_307_0 v1 N)) : mz_G (d, mz_X0 L xs, some .boolean, [], mk_307, 2, Q) 0 mk_307 [(0, .ref 100), (1, .int v1)] [] true (mz_k S R N b t) := by
  unfold cf_307_0 at hC
  unfold cp_307_0 at hp
  refine g_iload_n rfl ?_
  refine g_iflt (tg := 24) rfl ms_307_24 hC (fun h1 hC => ?_) (fun h1 hC => ?_)
  · have hp := hp.1 h1
    refine g_iconst mzi_0 ?_
    exact g_zret (z := false) rfl (hr _ hC)
  · have hp := hp.2 h1
    refine g_iload_n rfl (g_bipush mzb_20 ?_)
    refine g_icge (tg := 24) rfl ms_307_24 hC (fun h2 hC => ?_) (fun h2 hC => ?_)
    · have hp := hp.1 h2
      refine g_aload_n rfl (g_getR (mz_at hS (Nat.le_of_ble_eq_true rfl) mzcS_100) mzcf_0_0 (mz_rb hR (Nat.le_of_ble_eq_true rfl) rfl mzcR_100_0) (g_iload_n rfl ?_))
      have h3 := hp
      refine g_iald hS.1 (mz_at hS (Nat.le_of_ble_eq_true rfl) mzcS_101) h3 (g_iconst mzi_1 ?_)
      refine g_icne (tg := 24) rfl ms_307_24 hC (fun h4 hC => ?_) (fun h4 hC => ?_)
      · refine g_iconst mzi_1 (g_goto (tg := 25) rfl ms_307_25 ?_)
        exact g_zret (z := true) rfl (hr _ hC)
      · refine g_iconst mzi_0 ?_
        exact g_zret (z := false) rfl (hr _ hC)
    · have hp := hp.2 h2
      refine g_iconst mzi_0 ?_
      exact g_zret (z := false) rfl (hr _ hC)
theorem cs_307 (hd : 1 ≤ d) (hS : mz_extR S 232) (hR : mz_rok R 232)  (v1 : Int32) (N : mz_N) (hp : cp_307_0 v1 N) (hq : Q (.inl (some (.int (mz_b01 (cf_307_0 v1 N))))) (mz_k S R N b t)) : mz_Ed (mz_X0 L xs) d 307 [.ref 100, .int v1] (mz_k S R N b t) Q :=
  by
  refine g_in mzq_307 (Nat.le_of_ble_eq_true rfl) (Nat.le_of_ble_eq_true rfl) (Nat.le_trans (Nat.le_of_ble_eq_true rfl) hd) ?_
  refine g_weak ?_ (cg_307_0 (d := d - 1) (by omega) hS hR v1 N (C0 := fun z => Q (.inl (some (.int (mz_b01 z)))) (mz_k S R N b t)) (fun _ h => h) hp hq)
  exact ⟨rfl, rfl, trivial⟩
/-! 309 KeptHouse$Access.near (I)I -/
theorem ms_309_0 : mz_sf mk_309 0 = mk_309 := mz_sf_zero _
theorem ms_309_19 : mz_sf mk_309 19 = mt_309_19 := mz_sf_add ms_309_0 (t := 19) rfl rfl
theorem ms_309_30 : mz_sf mk_309 30 = mt_309_30 := mz_sf_add ms_309_19 (t := 11) rfl rfl
set_option maxRecDepth 100000 in
theorem mzq_309 : mz_PG0 309 = some (0, ⟨"KeptHouse$Access", "near", "(I)I"⟩, prog_2_method_9_code, 3, some .int, [], mk_309, []) := rfl
theorem cg_309_0 (hd : 1 ≤ d) (hS : mz_extR S 232) (hR : mz_rok R 232)  (v1 : Int32) (N : mz_N) {C0 : (Int32) → Prop} (hr : ∀ (w : Int32), C0 w → Q (.inl (some (.int w))) (mz_k S R N b t)) (hp : cp_309_0 v1 N) (hC : C0 (cf_309_0 v1 N)) : mz_G (d, mz_X0 L xs, some .int, [], mk_309, 3, Q) 0 mk_309 [(0, .ref 100), (1, .int v1)] [] true (mz_k S R N b t) := by
  unfold cf_309_0 at hC
  unfold cp_309_0 at hp
  refine g_aload_n rfl (g_getR (mz_at hS (Nat.le_of_ble_eq_true rfl) mzcS_100) mzcf_0_2 (mz_rb hR (Nat.le_of_ble_eq_true rfl) rfl mzcR_100_2) (g_iload_n rfl ?_))
  obtain ⟨h1, hp⟩ := hp
  refine g_iald hS.1 (mz_at hS (Nat.le_of_ble_eq_true rfl) mzcS_103) h1 ?_
  refine g_s1v (Nat.le_of_ble_eq_true rfl) (fun _ hq => cs_84 (Nat.le_trans (Nat.le_of_ble_eq_true rfl) hd) (hS.le (Nat.le_of_ble_eq_true rfl)) (hR.le (Nat.le_of_ble_eq_true rfl))  (mz_gI N 103 v1) trivial hq) (g_istore_n (Nat.le_of_ble_eq_true rfl) rfl (g_iload_n rfl (g_iconst mzi_m1 ?_)))
  refine g_icne (tg := 19) rfl ms_309_19 hC (fun h3 hC => ?_) (fun h3 hC => ?_)
  · have hp := hp.1 h3
    refine g_iconst mzi_m1 (g_goto (tg := 30) rfl ms_309_30 ?_)
    exact g_iret rfl (hr _ hC)
  · have hp := hp.2 h3
    refine g_aload_n rfl (g_getR (mz_at hS (Nat.le_of_ble_eq_true rfl) mzcS_100) mzcf_0_1 (mz_rb hR (Nat.le_of_ble_eq_true rfl) rfl mzcR_100_1) (g_iload_n rfl ?_))
    have h4 := hp
    refine g_iald hS.1 (mz_at hS (Nat.le_of_ble_eq_true rfl) mzcS_102) h4 (g_bipush mzb_48 (g_imul (g_iload_n rfl (g_iadd ?_))))
    exact g_iret rfl (hr _ hC)
theorem cs_309 (hd : 2 ≤ d) (hS : mz_extR S 232) (hR : mz_rok R 232)  (v1 : Int32) (N : mz_N) (hp : cp_309_0 v1 N) (hq : Q (.inl (some (.int (cf_309_0 v1 N)))) (mz_k S R N b t)) : mz_Ed (mz_X0 L xs) d 309 [.ref 100, .int v1] (mz_k S R N b t) Q :=
  by
  refine g_in mzq_309 (Nat.le_of_ble_eq_true rfl) (Nat.le_of_ble_eq_true rfl) (Nat.le_trans (Nat.le_of_ble_eq_true rfl) hd) ?_
  refine g_weak ?_ (cg_309_0 (d := d - 1) (by omega) hS hR v1 N (C0 := fun z => Q (.inl (some (.int z))) (mz_k S R N b t)) (fun _ h => h) hp hq)
  exact ⟨rfl, rfl, trivial⟩
/-! 310 KeptHouse$Access.meets (LKeptHouse$Plan;II)Z -/
theorem ms_310_0 : mz_sf mk_310 0 = mk_310 := mz_sf_zero _
theorem ms_310_10 : mz_sf mk_310 10 = mt_310_10 := mz_sf_add ms_310_0 (t := 10) rfl rfl
theorem ms_310_19 : mz_sf mk_310 19 = mt_310_19 := mz_sf_add ms_310_10 (t := 9) rfl rfl
theorem ms_310_20 : mz_sf mk_310 20 = mt_310_20 := mz_sf_add ms_310_19 (t := 1) rfl rfl
theorem ms_310_21 : mz_sf mk_310 21 = mt_310_21 := mz_sf_add ms_310_20 (t := 1) rfl rfl
theorem ms_310_40 : mz_sf mk_310 40 = mt_310_40 := mz_sf_add ms_310_21 (t := 19) rfl rfl
theorem ms_310_41 : mz_sf mk_310 41 = mt_310_41 := mz_sf_add ms_310_40 (t := 1) rfl rfl
set_option maxRecDepth 100000 in
theorem mzq_310 : mz_PG0 310 = some (0, ⟨"KeptHouse$Access", "meets", "(LKeptHouse$Plan;II)Z"⟩, prog_2_method_11_code, 3, some .boolean, [], mk_310, []) := rfl
theorem cg_310_10 (hd : 0 ≤ d) (hS : mz_extR S 232) (hR : mz_rok R 232)  (v1 : Int32) (v2 : Int32) (N : mz_N) {C0 : (Bool) → Prop} (hr : ∀ (w : Bool), C0 w → Q (.inl (some (.int (mz_b01 w)))) (mz_k S R N b t)) (hp : cp_310_10 v1 v2 N) (hC : C0 (cf_310_10 v1 v2 N)) : mz_G (d, mz_X0 L xs, some .boolean, [], mk_310, 3, Q) 10 mt_310_10 [(1, .int v1), (2, .int v2)] [] true (mz_k S R N b t) := by
  unfold cf_310_10 at hC
  unfold cp_310_10 at hp
  refine g_iload_n rfl (g_iload_n rfl ?_)
  refine g_icne (tg := 19) rfl ms_310_19 hC (fun h1 hC => ?_) (fun h1 hC => ?_)
  · refine g_iconst mzi_1 (g_goto (tg := 20) rfl ms_310_20 ?_)
    exact g_zret (z := true) rfl (hr _ hC)
  · refine g_iconst mzi_0 ?_
    exact g_zret (z := false) rfl (hr _ hC)
theorem cg_310_0 (hd : 0 ≤ d) (hS : mz_extR S 232) (hR : mz_rok R 232)  (v1 : Int32) (v2 : Int32) (N : mz_N) {C0 : (Bool) → Prop} (hr : ∀ (w : Bool), C0 w → Q (.inl (some (.int (mz_b01 w)))) (mz_k S R N b t)) (hp : cp_310_0 v1 v2 N) (hC : C0 (cf_310_0 v1 v2 N)) : mz_G (d, mz_X0 L xs, some .boolean, [], mk_310, 3, Q) 0 mk_310 [(0, .ref 2), (1, .int v1), (2, .int v2)] [] true (mz_k S R N b t) := by
  unfold cf_310_0 at hC
  unfold cp_310_0 at hp
  refine g_iload_n rfl (g_iconst mzi_m1 ?_)
  refine g_iceq (tg := 10) rfl ms_310_10 hC (fun h1 hC => ?_) (fun h1 hC => ?_)
  · have hp := hp.1 h1
    refine g_weak ?_ (cg_310_10 hd hS hR v1 v2 N hr hp hC)
    exact ⟨rfl, rfl, trivial⟩
  · have hp := hp.2 h1
    refine g_iload_n rfl (g_iconst mzi_m1 ?_)
    refine g_icne (tg := 21) rfl ms_310_21 hC (fun h2 hC => ?_) (fun h2 hC => ?_)
    · have hp := hp.1 h2
      refine g_weak ?_ (cg_310_10 hd hS hR v1 v2 N hr hp hC)
      exact ⟨rfl, rfl, trivial⟩
    · have hp := hp.2 h2
      refine g_aload_n rfl (g_getR (mz_at hS (Nat.le_of_ble_eq_true rfl) mzcS_2) mzcf_5_8 (mz_rb hR (Nat.le_of_ble_eq_true rfl) rfl mzcR_2_8) (g_iload_n rfl ?_))
      obtain ⟨h3, hp⟩ := hp
      refine g_iald hS.1 (mz_at hS (Nat.le_of_ble_eq_true rfl) mzcS_15) h3 (g_aload_n rfl (g_getR (mz_at hS (Nat.le_of_ble_eq_true rfl) mzcS_2) mzcf_5_8 (mz_rb hR (Nat.le_of_ble_eq_true rfl) rfl mzcR_2_8) (g_iload_n rfl ?_)))
      have h4 := hp
      refine g_iald hS.1 (mz_at hS (Nat.le_of_ble_eq_true rfl) mzcS_15) h4 ?_
      refine g_icne (tg := 40) rfl ms_310_40 hC (fun h5 hC => ?_) (fun h5 hC => ?_)
      · refine g_iconst mzi_1 (g_goto (tg := 41) rfl ms_310_41 ?_)
        exact g_zret (z := true) rfl (hr _ hC)
      · refine g_iconst mzi_0 ?_
        exact g_zret (z := false) rfl (hr _ hC)
theorem cs_310 (hd : 1 ≤ d) (hS : mz_extR S 232) (hR : mz_rok R 232)  (v1 : Int32) (v2 : Int32) (N : mz_N) (hp : cp_310_0 v1 v2 N) (hq : Q (.inl (some (.int (mz_b01 (cf_310_0 v1 v2 N))))) (mz_k S R N b t)) : mz_Ed (mz_X0 L xs) d 310 [.ref 2, .int v1, .int v2] (mz_k S R N b t) Q :=
  by
  refine g_in mzq_310 (Nat.le_of_ble_eq_true rfl) (Nat.le_of_ble_eq_true rfl) (Nat.le_trans (Nat.le_of_ble_eq_true rfl) hd) ?_
  refine g_weak ?_ (cg_310_0 (d := d - 1) (by omega) hS hR v1 v2 N (C0 := fun z => Q (.inl (some (.int (mz_b01 z)))) (mz_k S R N b t)) (fun _ h => h) hp hq)
  exact ⟨rfl, rfl, rfl, trivial⟩
/-! 311 KeptHouse$Access.far (I)I -/
theorem ms_311_0 : mz_sf mk_311 0 = mk_311 := mz_sf_zero _
theorem ms_311_19 : mz_sf mk_311 19 = mt_311_19 := mz_sf_add ms_311_0 (t := 19) rfl rfl
theorem ms_311_30 : mz_sf mk_311 30 = mt_311_30 := mz_sf_add ms_311_19 (t := 11) rfl rfl
set_option maxRecDepth 100000 in
theorem mzq_311 : mz_PG0 311 = some (0, ⟨"KeptHouse$Access", "far", "(I)I"⟩, prog_2_method_10_code, 3, some .int, [], mk_311, []) := rfl
theorem cg_311_0 (hd : 1 ≤ d) (hS : mz_extR S 232) (hR : mz_rok R 232)  (v1 : Int32) (N : mz_N) {C0 : (Int32) → Prop} (hr : ∀ (w : Int32), C0 w → Q (.inl (some (.int w))) (mz_k S R N b t)) (hp : cp_311_0 v1 N) (hC : C0 (cf_311_0 v1 N)) : mz_G (d, mz_X0 L xs, some .int, [], mk_311, 3, Q) 0 mk_311 [(0, .ref 100), (1, .int v1)] [] true (mz_k S R N b t) := by
  unfold cf_311_0 at hC
  unfold cp_311_0 at hp
  refine g_aload_n rfl (g_getR (mz_at hS (Nat.le_of_ble_eq_true rfl) mzcS_100) mzcf_0_2 (mz_rb hR (Nat.le_of_ble_eq_true rfl) rfl mzcR_100_2) (g_iload_n rfl ?_))
  obtain ⟨h1, hp⟩ := hp
  refine g_iald hS.1 (mz_at hS (Nat.le_of_ble_eq_true rfl) mzcS_103) h1 ?_
  refine g_s1v (Nat.le_of_ble_eq_true rfl) (fun _ hq => cs_85 (Nat.le_trans (Nat.le_of_ble_eq_true rfl) hd) (hS.le (Nat.le_of_ble_eq_true rfl)) (hR.le (Nat.le_of_ble_eq_true rfl))  (mz_gI N 103 v1) trivial hq) (g_istore_n (Nat.le_of_ble_eq_true rfl) rfl (g_iload_n rfl (g_iconst mzi_m1 ?_)))
  refine g_icne (tg := 19) rfl ms_311_19 hC (fun h3 hC => ?_) (fun h3 hC => ?_)
  · have hp := hp.1 h3
    refine g_iconst mzi_m1 (g_goto (tg := 30) rfl ms_311_30 ?_)
    exact g_iret rfl (hr _ hC)
  · have hp := hp.2 h3
    refine g_aload_n rfl (g_getR (mz_at hS (Nat.le_of_ble_eq_true rfl) mzcS_100) mzcf_0_1 (mz_rb hR (Nat.le_of_ble_eq_true rfl) rfl mzcR_100_1) (g_iload_n rfl ?_))
    have h4 := hp
    refine g_iald hS.1 (mz_at hS (Nat.le_of_ble_eq_true rfl) mzcS_102) h4 (g_bipush mzb_48 (g_imul (g_iload_n rfl (g_iadd ?_))))
    exact g_iret rfl (hr _ hC)
theorem cs_311 (hd : 2 ≤ d) (hS : mz_extR S 232) (hR : mz_rok R 232)  (v1 : Int32) (N : mz_N) (hp : cp_311_0 v1 N) (hq : Q (.inl (some (.int (cf_311_0 v1 N)))) (mz_k S R N b t)) : mz_Ed (mz_X0 L xs) d 311 [.ref 100, .int v1] (mz_k S R N b t) Q :=
  by
  refine g_in mzq_311 (Nat.le_of_ble_eq_true rfl) (Nat.le_of_ble_eq_true rfl) (Nat.le_trans (Nat.le_of_ble_eq_true rfl) hd) ?_
  refine g_weak ?_ (cg_311_0 (d := d - 1) (by omega) hS hR v1 N (C0 := fun z => Q (.inl (some (.int z))) (mz_k S R N b t)) (fun _ h => h) hp hq)
  exact ⟨rfl, rfl, trivial⟩
/-! 312 KeptHouse$Access.isItsHour (II)Z -/
theorem ms_312_0 : mz_sf mk_312 0 = mk_312 := mz_sf_zero _
theorem ms_312_14 : mz_sf mk_312 14 = mt_312_14 := mz_sf_add ms_312_0 (t := 14) rfl rfl
theorem ms_312_15 : mz_sf mk_312 15 = mt_312_15 := mz_sf_add ms_312_14 (t := 1) rfl rfl
theorem ms_312_30 : mz_sf mk_312 30 = mt_312_30 := mz_sf_add ms_312_15 (t := 15) rfl rfl
theorem ms_312_31 : mz_sf mk_312 31 = mt_312_31 := mz_sf_add ms_312_30 (t := 1) rfl rfl
theorem ms_312_52 : mz_sf mk_312 52 = mt_312_52 := mz_sf_add ms_312_31 (t := 21) rfl rfl
theorem ms_312_57 : mz_sf mk_312 57 = mt_312_57 := mz_sf_add ms_312_52 (t := 5) rfl rfl
theorem ms_312_61 : mz_sf mk_312 61 = mt_312_61 := mz_sf_add ms_312_57 (t := 4) rfl rfl
theorem ms_312_65 : mz_sf mk_312 65 = mt_312_65 := mz_sf_add ms_312_61 (t := 4) rfl rfl
theorem ms_312_78 : mz_sf mk_312 78 = mt_312_78 := mz_sf_add ms_312_65 (t := 13) rfl rfl
theorem ms_312_79 : mz_sf mk_312 79 = mt_312_79 := mz_sf_add ms_312_78 (t := 1) rfl rfl
set_option maxRecDepth 100000 in
theorem mzq_312 : mz_PG0 312 = some (0, ⟨"KeptHouse$Access", "isItsHour", "(II)Z"⟩, prog_2_method_13_code, 5, some .boolean, [], mk_312, []) := rfl
theorem cg_312_31 (hd : 0 ≤ d) (hS : mz_extR S 232) (hR : mz_rok R 232)  (s0 : Bool) (v1 : Int32) (v3 : Bool) (N : mz_N) {C0 : (Bool) → Prop} (hr : ∀ (w : Bool), C0 w → Q (.inl (some (.int (mz_b01 w)))) (mz_k S R N b t)) (hp : cp_312_31 s0 v1 v3 N) (hC : C0 (cf_312_31 s0 v1 v3 N)) : mz_G (d, mz_X0 L xs, some .boolean, [], mk_312, 5, Q) 31 mt_312_31 [(0, .ref 100), (1, .int v1), (3, .int (mz_b01 v3))] [.int (mz_b01 s0)] true (mz_k S R N b t) := by
  unfold cf_312_31 at hC
  unfold cp_312_31 at hp
  refine g_istore (Nat.le_of_ble_eq_true rfl) rfl (g_aload_n rfl (g_getR (mz_at hS (Nat.le_of_ble_eq_true rfl) mzcS_100) mzcf_0_4 (mz_rb hR (Nat.le_of_ble_eq_true rfl) rfl mzcR_100_4) (g_iload_n rfl ?_)))
  obtain ⟨h1, hp⟩ := hp
  refine g_iald hS.1 (mz_at hS (Nat.le_of_ble_eq_true rfl) mzcS_105) h1 (g_aload_n rfl (g_getR (mz_at hS (Nat.le_of_ble_eq_true rfl) mzcS_100) mzcf_0_5 (mz_rb hR (Nat.le_of_ble_eq_true rfl) rfl mzcR_100_5) (g_iload_n rfl ?_)))
  have h2 := hp
  refine g_iald hS.1 (mz_at hS (Nat.le_of_ble_eq_true rfl) mzcS_106) h2 ?_
  refine g_icle (tg := 65) rfl ms_312_65 hC (fun h3 hC => ?_) (fun h3 hC => ?_)
  · refine g_iload_n rfl ?_
    refine g_zne (tg := 57) rfl ms_312_57 hC (fun h4 hC => ?_) (fun h4 hC => ?_)
    · refine g_iconst mzi_1 (g_goto (tg := 79) rfl ms_312_79 ?_)
      exact g_zret (z := true) rfl (hr _ hC)
    · refine g_iload rfl ?_
      refine g_zeq (tg := 61) rfl ms_312_61 hC (fun h5 hC => ?_) (fun h5 hC => ?_)
      · refine g_iconst mzi_1 (g_goto (tg := 79) rfl ms_312_79 ?_)
        exact g_zret (z := true) rfl (hr _ hC)
      · refine g_iconst mzi_0 (g_goto (tg := 79) rfl ms_312_79 ?_)
        exact g_zret (z := false) rfl (hr _ hC)
  · refine g_iload_n rfl ?_
    refine g_zeq (tg := 78) rfl ms_312_78 hC (fun h6 hC => ?_) (fun h6 hC => ?_)
    · refine g_iload rfl ?_
      refine g_zeq (tg := 78) rfl ms_312_78 hC (fun h7 hC => ?_) (fun h7 hC => ?_)
      · refine g_iconst mzi_1 (g_goto (tg := 79) rfl ms_312_79 ?_)
        exact g_zret (z := true) rfl (hr _ hC)
      · refine g_iconst mzi_0 ?_
        exact g_zret (z := false) rfl (hr _ hC)
    · refine g_iconst mzi_0 ?_
      exact g_zret (z := false) rfl (hr _ hC)
theorem cg_312_15 (hd : 0 ≤ d) (hS : mz_extR S 232) (hR : mz_rok R 232)  (s0 : Bool) (v1 : Int32) (v2 : Int32) (N : mz_N) {C0 : (Bool) → Prop} (hr : ∀ (w : Bool), C0 w → Q (.inl (some (.int (mz_b01 w)))) (mz_k S R N b t)) (hp : cp_312_15 s0 v1 v2 N) (hC : C0 (cf_312_15 s0 v1 v2 N)) : mz_G (d, mz_X0 L xs, some .boolean, [], mk_312, 5, Q) 15 mt_312_15 [(0, .ref 100), (1, .int v1), (2, .int v2)] [.int (mz_b01 s0)] true (mz_k S R N b t) := by
  unfold cf_312_15 at hC
  unfold cp_312_15 at hp
  refine g_istore_n (Nat.le_of_ble_eq_true rfl) rfl (g_iload_n rfl (g_aload_n rfl (g_getR (mz_at hS (Nat.le_of_ble_eq_true rfl) mzcS_100) mzcf_0_5 (mz_rb hR (Nat.le_of_ble_eq_true rfl) rfl mzcR_100_5) (g_iload_n rfl ?_))))
  obtain ⟨h1, hp⟩ := hp
  refine g_iald hS.1 (mz_at hS (Nat.le_of_ble_eq_true rfl) mzcS_106) h1 ?_
  refine g_icgt (tg := 30) rfl ms_312_30 hC (fun h2 hC => ?_) (fun h2 hC => ?_)
  · have hp := hp.1 h2
    refine g_iconst mzi_0 ?_
    refine g_weak ?_ (cg_312_31 hd hS hR false v1 s0 N hr hp hC)
    exact ⟨rfl, rfl, rfl, trivial⟩
  · have hp := hp.2 h2
    refine g_iconst mzi_1 (g_goto (tg := 31) rfl ms_312_31 ?_)
    refine g_weak ?_ (cg_312_31 hd hS hR true v1 s0 N hr hp hC)
    exact ⟨rfl, rfl, rfl, trivial⟩
theorem cg_312_0 (hd : 0 ≤ d) (hS : mz_extR S 232) (hR : mz_rok R 232)  (v1 : Int32) (v2 : Int32) (N : mz_N) {C0 : (Bool) → Prop} (hr : ∀ (w : Bool), C0 w → Q (.inl (some (.int (mz_b01 w)))) (mz_k S R N b t)) (hp : cp_312_0 v1 v2 N) (hC : C0 (cf_312_0 v1 v2 N)) : mz_G (d, mz_X0 L xs, some .boolean, [], mk_312, 5, Q) 0 mk_312 [(0, .ref 100), (1, .int v1), (2, .int v2)] [] true (mz_k S R N b t) := by
  unfold cf_312_0 at hC
  unfold cp_312_0 at hp
  refine g_iload_n rfl (g_aload_n rfl (g_getR (mz_at hS (Nat.le_of_ble_eq_true rfl) mzcS_100) mzcf_0_4 (mz_rb hR (Nat.le_of_ble_eq_true rfl) rfl mzcR_100_4) (g_iload_n rfl ?_)))
  obtain ⟨h1, hp⟩ := hp
  refine g_iald hS.1 (mz_at hS (Nat.le_of_ble_eq_true rfl) mzcS_105) h1 ?_
  refine g_iclt (tg := 14) rfl ms_312_14 hC (fun h2 hC => ?_) (fun h2 hC => ?_)
  · have hp := hp.1 h2
    refine g_iconst mzi_0 ?_
    refine g_weak ?_ (cg_312_15 hd hS hR false v1 v2 N hr hp hC)
    exact ⟨rfl, rfl, rfl, trivial⟩
  · have hp := hp.2 h2
    refine g_iconst mzi_1 (g_goto (tg := 15) rfl ms_312_15 ?_)
    refine g_weak ?_ (cg_312_15 hd hS hR true v1 v2 N hr hp hC)
    exact ⟨rfl, rfl, rfl, trivial⟩
theorem cs_312 (hd : 1 ≤ d) (hS : mz_extR S 232) (hR : mz_rok R 232)  (v1 : Int32) (v2 : Int32) (N : mz_N) (hp : cp_312_0 v1 v2 N) (hq : Q (.inl (some (.int (mz_b01 (cf_312_0 v1 v2 N))))) (mz_k S R N b t)) : mz_Ed (mz_X0 L xs) d 312 [.ref 100, .int v1, .int v2] (mz_k S R N b t) Q :=
  by
  refine g_in mzq_312 (Nat.le_of_ble_eq_true rfl) (Nat.le_of_ble_eq_true rfl) (Nat.le_trans (Nat.le_of_ble_eq_true rfl) hd) ?_
  refine g_weak ?_ (cg_312_0 (d := d - 1) (by omega) hS hR v1 v2 N (C0 := fun z => Q (.inl (some (.int (mz_b01 z)))) (mz_k S R N b t)) (fun _ h => h) hp hq)
  exact ⟨rfl, rfl, rfl, trivial⟩
/-! 308 KeptHouse$Access.judge (LKeptHouse$Plan;IIZI)I -/
theorem ms_308_0 : mz_sf mk_308 0 = mk_308 := mz_sf_zero _
theorem ms_308_36 : mz_sf mk_308 36 = mt_308_36 := mz_sf_add ms_308_0 (t := 36) rfl rfl
theorem ms_308_38 : mz_sf mk_308 38 = mt_308_38 := mz_sf_add ms_308_36 (t := 2) rfl rfl
theorem ms_308_45 : mz_sf mk_308 45 = mt_308_45 := mz_sf_add ms_308_38 (t := 7) rfl rfl
theorem ms_308_57 : mz_sf mk_308 57 = mt_308_57 := mz_sf_add ms_308_45 (t := 12) rfl rfl
theorem ms_308_72 : mz_sf mk_308 72 = mt_308_72 := mz_sf_add ms_308_57 (t := 15) rfl rfl
theorem ms_308_86 : mz_sf mk_308 86 = mt_308_86 := mz_sf_add ms_308_72 (t := 14) rfl rfl
theorem ms_308_87 : mz_sf mk_308 87 = mt_308_87 := mz_sf_add ms_308_86 (t := 1) rfl rfl
set_option maxRecDepth 100000 in
theorem mzq_308 : mz_PG0 308 = some (0, ⟨"KeptHouse$Access", "judge", "(LKeptHouse$Plan;IIZI)I"⟩, prog_2_method_12_code, 6, some .int, [], mk_308, []) := rfl
theorem cg_308_38 (hd : 2 ≤ d) (hS : mz_extR S 232) (hR : mz_rok R 232)  (v2 : Int32) (v3 : Int32) (v4 : Bool) (v5 : Int32) (N : mz_N) {C0 : (Int32) → Prop} (hr : ∀ (w : Int32), C0 w → Q (.inl (some (.int w))) (mz_k S R N b t)) (hp : cp_308_38 v2 v3 v4 v5 N) (hC : C0 (cf_308_38 v2 v3 v4 v5 N)) : mz_G (d, mz_X0 L xs, some .int, [], mk_308, 6, Q) 38 mt_308_38 [(0, .ref 100), (2, .int v2), (3, .int v3), (4, .int (mz_b01 v4)), (5, .int v5)] [] false (mz_k S R N b t) := by
  unfold cf_308_38 at hC
  unfold cp_308_38 at hp
  refine g_iload rfl ?_
  refine g_zeq (tg := 45) rfl ms_308_45 hC (fun h1 hC => ?_) (fun h1 hC => ?_)
  · have hp := hp.1 h1
    refine g_iconst mzi_0 ?_
    exact g_iret rfl (hr _ hC)
  · have hp := hp.2 h1
    refine g_aload_n rfl (g_getR (mz_at hS (Nat.le_of_ble_eq_true rfl) mzcS_100) mzcf_0_6 (mz_rb hR (Nat.le_of_ble_eq_true rfl) rfl mzcR_100_6) (g_iload_n rfl ?_))
    obtain ⟨h2, hp⟩ := hp
    refine g_iald hS.1 (mz_at hS (Nat.le_of_ble_eq_true rfl) mzcS_107) h2 (g_iconst mzi_1 ?_)
    refine g_icne (tg := 57) rfl ms_308_57 hC (fun h3 hC => ?_) (fun h3 hC => ?_)
    · have hp := hp.1 h3
      refine g_iconst mzi_3 ?_
      exact g_iret rfl (hr _ hC)
    · have hp := hp.2 h3
      refine g_aload_n rfl (g_getR (mz_at hS (Nat.le_of_ble_eq_true rfl) mzcS_100) mzcf_0_7 (mz_rb hR (Nat.le_of_ble_eq_true rfl) rfl mzcR_100_7) (g_iload_n rfl ?_))
      obtain ⟨h4, hp⟩ := hp
      refine g_iald hS.1 (mz_at hS (Nat.le_of_ble_eq_true rfl) mzcS_108) h4 (g_iload_n rfl (g_ishr (g_iconst mzi_1 (g_iand ?_))))
      refine g_ifne (tg := 72) rfl ms_308_72 hC (fun h5 hC => ?_) (fun h5 hC => ?_)
      · have hp := hp.1 h5
        refine g_iconst mzi_1 ?_
        exact g_iret rfl (hr _ hC)
      · have hp := hp.2 h5
        refine g_aload_n rfl (g_iload_n rfl (g_iload rfl ?_))
        have h6 := hp
        refine g_v3v (Nat.le_of_ble_eq_true rfl) (mz_at hS (Nat.le_of_ble_eq_true rfl) mzcS_100) (fun _ hq => cs_312 (Nat.le_trans (Nat.le_of_ble_eq_true rfl) hd) (hS.le (Nat.le_of_ble_eq_true rfl)) (hR.le (Nat.le_of_ble_eq_true rfl))  v2 v5 N h6 hq) ?_
        refine g_zeq (tg := 86) rfl ms_308_86 hC (fun h7 hC => ?_) (fun h7 hC => ?_)
        · refine g_iconst mzi_0 (g_goto (tg := 87) rfl ms_308_87 ?_)
          exact g_iret rfl (hr _ hC)
        · refine g_iconst mzi_2 ?_
          exact g_iret rfl (hr _ hC)
theorem cg_308_0 (hd : 2 ≤ d) (hS : mz_extR S 232) (hR : mz_rok R 232)  (v2 : Int32) (v3 : Int32) (v4 : Bool) (v5 : Int32) (N : mz_N) {C0 : (Int32) → Prop} (hr : ∀ (w : Int32), C0 w → Q (.inl (some (.int w))) (mz_k S R N b t)) (hp : cp_308_0 v2 v3 v4 v5 N) (hC : C0 (cf_308_0 v2 v3 v4 v5 N)) : mz_G (d, mz_X0 L xs, some .int, [], mk_308, 6, Q) 0 mk_308 [(0, .ref 100), (1, .ref 2), (2, .int v2), (3, .int v3), (4, .int (mz_b01 v4)), (5, .int v5)] [] true (mz_k S R N b t) := by
  unfold cf_308_0 at hC
  unfold cp_308_0 at hp
  refine g_aload_n rfl (g_aload_n rfl (g_getR (mz_at hS (Nat.le_of_ble_eq_true rfl) mzcS_100) mzcf_0_8 (mz_rb hR (Nat.le_of_ble_eq_true rfl) rfl mzcR_100_8) (g_iload_n rfl ?_)))
  obtain ⟨h1, hp⟩ := hp
  refine g_iald hS.1 (mz_at hS (Nat.le_of_ble_eq_true rfl) mzcS_109) h1 (g_aload_n rfl (g_iload_n rfl ?_))
  obtain ⟨h2, hp⟩ := hp
  refine g_v2v (Nat.le_of_ble_eq_true rfl) (mz_at hS (Nat.le_of_ble_eq_true rfl) mzcS_100) (fun _ hq => cs_309 (Nat.le_trans (Nat.le_of_ble_eq_true rfl) hd) (hS.le (Nat.le_of_ble_eq_true rfl)) (hR.le (Nat.le_of_ble_eq_true rfl))  v3 N h2 hq) ?_
  obtain ⟨h3, hp⟩ := hp
  refine g_s3v (Nat.le_of_ble_eq_true rfl) (fun _ hq => cs_310 (Nat.le_trans (Nat.le_of_ble_eq_true rfl) hd) (hS.le (Nat.le_of_ble_eq_true rfl)) (hR.le (Nat.le_of_ble_eq_true rfl))  (mz_gI N 109 v2) (cf_309_0 v3 N) N h3 hq) ?_
  refine g_zne (tg := 38) rfl ms_308_38 hC (fun h4 hC => ?_) (fun h4 hC => ?_)
  · have hp := hp.1 h4
    refine g_weak ?_ (g_cl (cg_308_38 hd hS hR v2 v3 v4 v5 N hr hp hC))
    exact ⟨rfl, rfl, rfl, rfl, rfl, trivial⟩
  · have hp := hp.2 h4
    refine g_aload_n rfl (g_aload_n rfl (g_getR (mz_at hS (Nat.le_of_ble_eq_true rfl) mzcS_100) mzcf_0_8 (mz_rb hR (Nat.le_of_ble_eq_true rfl) rfl mzcR_100_8) (g_iload_n rfl ?_)))
    obtain ⟨h5, hp⟩ := hp
    refine g_iald hS.1 (mz_at hS (Nat.le_of_ble_eq_true rfl) mzcS_109) h5 (g_aload_n rfl (g_iload_n rfl ?_))
    obtain ⟨h6, hp⟩ := hp
    refine g_v2v (Nat.le_of_ble_eq_true rfl) (mz_at hS (Nat.le_of_ble_eq_true rfl) mzcS_100) (fun _ hq => cs_311 (Nat.le_trans (Nat.le_of_ble_eq_true rfl) hd) (hS.le (Nat.le_of_ble_eq_true rfl)) (hR.le (Nat.le_of_ble_eq_true rfl))  v3 N h6 hq) ?_
    obtain ⟨h7, hp⟩ := hp
    refine g_s3v (Nat.le_of_ble_eq_true rfl) (fun _ hq => cs_310 (Nat.le_trans (Nat.le_of_ble_eq_true rfl) hd) (hS.le (Nat.le_of_ble_eq_true rfl)) (hR.le (Nat.le_of_ble_eq_true rfl))  (mz_gI N 109 v2) (cf_311_0 v3 N) N h7 hq) ?_
    refine g_zne (tg := 38) rfl ms_308_38 hC (fun h8 hC => ?_) (fun h8 hC => ?_)
    · have hp := hp.1 h8
      refine g_weak ?_ (g_cl (cg_308_38 hd hS hR v2 v3 v4 v5 N hr hp hC))
      exact ⟨rfl, rfl, rfl, rfl, rfl, trivial⟩
    · have hp := hp.2 h8
      refine g_iconst mzi_4 ?_
      exact g_iret rfl (hr _ hC)
theorem cs_308 (hd : 3 ≤ d) (hS : mz_extR S 232) (hR : mz_rok R 232)  (v2 : Int32) (v3 : Int32) (v4 : Bool) (v5 : Int32) (N : mz_N) (hp : cp_308_0 v2 v3 v4 v5 N) (hq : Q (.inl (some (.int (cf_308_0 v2 v3 v4 v5 N)))) (mz_k S R N b t)) : mz_Ed (mz_X0 L xs) d 308 [.ref 100, .ref 2, .int v2, .int v3, .int (mz_b01 v4), .int v5] (mz_k S R N b t) Q :=
  by
  refine g_in mzq_308 (Nat.le_of_ble_eq_true rfl) (Nat.le_of_ble_eq_true rfl) (Nat.le_trans (Nat.le_of_ble_eq_true rfl) hd) ?_
  refine g_weak ?_ (cg_308_0 (d := d - 1) (by omega) hS hR v2 v3 v4 v5 N (C0 := fun z => Q (.inl (some (.int z))) (mz_k S R N b t)) (fun _ h => h) hp hq)
  exact ⟨rfl, rfl, rfl, rfl, rfl, rfl, trivial⟩
/-! 313 KeptHouse$Access.step (LKeptHouse$Plan;II)V -/
theorem ms_313_0 : mz_sf mk_313 0 = mk_313 := mz_sf_zero _
theorem ms_313_31 : mz_sf mk_313 31 = mt_313_31 := mz_sf_add ms_313_0 (t := 31) rfl rfl
theorem ms_313_36 : mz_sf mk_313 36 = mt_313_36 := mz_sf_add ms_313_31 (t := 5) rfl rfl
set_option maxRecDepth 100000 in
theorem mzq_313 : mz_PG0 313 = some (0, ⟨"KeptHouse$Access", "step", "(LKeptHouse$Plan;II)V"⟩, prog_2_method_14_code, 4, none, [], mk_313, []) := rfl
theorem cg_313_36 (hd : 2 ≤ d) (hS : mz_extR S 232) (hR : mz_rok R 232)  (s1 : Int32) (s2 : Int32) (N : mz_N) {C0 : (mz_N) → Prop} (hr : ∀ (N2 : mz_N), C0 N2 → Q (.inl none) (mz_k S R N2 b t)) (hp : cp_313_36 s1 s2 N) (hC : C0 (cf_313_36 s1 s2 N)) : mz_G (d, mz_X0 L xs, none, [], mk_313, 4, Q) 36 mt_313_36 [] [.int s2, .int s1, .ref 109] false (mz_k S R N b t) := by
  unfold cf_313_36 at hC
  unfold cp_313_36 at hp
  have h1 := hp
  refine g_iast (mz_at hS (Nat.le_of_ble_eq_true rfl) mzcS_109) h1 ?_
  exact g_vret rfl (hr _ hC)
theorem cg_313_0 (hd : 2 ≤ d) (hS : mz_extR S 232) (hR : mz_rok R 232)  (v2 : Int32) (v3 : Int32) (N : mz_N) {C0 : (mz_N) → Prop} (hr : ∀ (N2 : mz_N), C0 N2 → Q (.inl none) (mz_k S R N2 b t)) (hp : cp_313_0 v2 v3 N) (hC : C0 (cf_313_0 v2 v3 N)) : mz_G (d, mz_X0 L xs, none, [], mk_313, 4, Q) 0 mk_313 [(0, .ref 100), (1, .ref 2), (2, .int v2), (3, .int v3)] [] true (mz_k S R N b t) := by
  unfold cf_313_0 at hC
  unfold cp_313_0 at hp
  refine g_aload_n rfl (g_getR (mz_at hS (Nat.le_of_ble_eq_true rfl) mzcS_100) mzcf_0_8 (mz_rb hR (Nat.le_of_ble_eq_true rfl) rfl mzcR_100_8) (g_iload_n rfl (g_aload_n rfl (g_aload_n rfl (g_getR (mz_at hS (Nat.le_of_ble_eq_true rfl) mzcS_100) mzcf_0_8 (mz_rb hR (Nat.le_of_ble_eq_true rfl) rfl mzcR_100_8) (g_iload_n rfl ?_))))))
  obtain ⟨h1, hp⟩ := hp
  refine g_iald hS.1 (mz_at hS (Nat.le_of_ble_eq_true rfl) mzcS_109) h1 (g_aload_n rfl (g_iload_n rfl ?_))
  obtain ⟨h2, hp⟩ := hp
  refine g_v2v (Nat.le_of_ble_eq_true rfl) (mz_at hS (Nat.le_of_ble_eq_true rfl) mzcS_100) (fun _ hq => cs_309 (Nat.le_trans (Nat.le_of_ble_eq_true rfl) hd) (hS.le (Nat.le_of_ble_eq_true rfl)) (hR.le (Nat.le_of_ble_eq_true rfl))  v3 N h2 hq) ?_
  obtain ⟨h3, hp⟩ := hp
  refine g_s3v (Nat.le_of_ble_eq_true rfl) (fun _ hq => cs_310 (Nat.le_trans (Nat.le_of_ble_eq_true rfl) hd) (hS.le (Nat.le_of_ble_eq_true rfl)) (hR.le (Nat.le_of_ble_eq_true rfl))  (mz_gI N 109 v2) (cf_309_0 v3 N) N h3 hq) ?_
  refine g_zeq (tg := 31) rfl ms_313_31 hC (fun h4 hC => ?_) (fun h4 hC => ?_)
  · have hp := hp.1 h4
    refine g_aload_n rfl (g_iload_n rfl ?_)
    obtain ⟨h5, hp⟩ := hp
    refine g_v2v (Nat.le_of_ble_eq_true rfl) (mz_at hS (Nat.le_of_ble_eq_true rfl) mzcS_100) (fun _ hq => cs_311 (Nat.le_trans (Nat.le_of_ble_eq_true rfl) hd) (hS.le (Nat.le_of_ble_eq_true rfl)) (hR.le (Nat.le_of_ble_eq_true rfl))  v3 N h5 hq) (g_goto (tg := 36) rfl ms_313_36 ?_)
    refine g_weak ?_ (g_cl (cg_313_36 hd hS hR v2 (cf_311_0 v3 N) N hr hp hC))
    exact trivial
  · have hp := hp.2 h4
    refine g_aload_n rfl (g_iload_n rfl ?_)
    obtain ⟨h6, hp⟩ := hp
    refine g_v2v (Nat.le_of_ble_eq_true rfl) (mz_at hS (Nat.le_of_ble_eq_true rfl) mzcS_100) (fun _ hq => cs_309 (Nat.le_trans (Nat.le_of_ble_eq_true rfl) hd) (hS.le (Nat.le_of_ble_eq_true rfl)) (hR.le (Nat.le_of_ble_eq_true rfl))  v3 N h6 hq) ?_
    refine g_weak ?_ (g_cl (cg_313_36 hd hS hR v2 (cf_309_0 v3 N) N hr hp hC))
    exact trivial
theorem cs_313 (hd : 3 ≤ d) (hS : mz_extR S 232) (hR : mz_rok R 232)  (v2 : Int32) (v3 : Int32) (N : mz_N) (hp : cp_313_0 v2 v3 N) (hq : Q (.inl none) (mz_k S R (cf_313_0 v2 v3 N) b t)) : mz_Ed (mz_X0 L xs) d 313 [.ref 100, .ref 2, .int v2, .int v3] (mz_k S R N b t) Q :=
  by
  refine g_in mzq_313 (Nat.le_of_ble_eq_true rfl) (Nat.le_of_ble_eq_true rfl) (Nat.le_trans (Nat.le_of_ble_eq_true rfl) hd) ?_
  refine g_weak ?_ (cg_313_0 (d := d - 1) (by omega) hS hR v2 v3 N (C0 := fun z => Q (.inl none) (mz_k S R z b t)) (fun _ h => h) hp hq)
  exact ⟨rfl, rfl, rfl, rfl, trivial⟩
/-! 314 KeptHouse$Access.note (IIII)V -/
theorem ms_314_0 : mz_sf mk_314 0 = mk_314 := mz_sf_zero _
theorem ms_314_19 : mz_sf mk_314 19 = mt_314_19 := mz_sf_add ms_314_0 (t := 19) rfl rfl
theorem ms_314_39 : mz_sf mk_314 39 = mt_314_39 := mz_sf_add ms_314_19 (t := 20) rfl rfl
theorem ms_314_60 : mz_sf mk_314 60 = mt_314_60 := mz_sf_add ms_314_39 (t := 21) rfl rfl
set_option maxRecDepth 100000 in
theorem mzq_314 : mz_PG0 314 = some (0, ⟨"KeptHouse$Access", "note", "(IIII)V"⟩, prog_2_method_15_code, 6, none, [], mk_314, []) := rfl
theorem cg_314_39 (hd : 0 ≤ d) (hS : mz_extR S 232) (hR : mz_rok R 232)  (v4 : Int32) (v5 : Int32) (N : mz_N) {C0 : (mz_N) → Prop} (hr : ∀ (N2 : mz_N), C0 N2 → Q (.inl none) (mz_k S R N2 b t)) (hp : cp_314_39 v4 v5 N) (hC : C0 (cf_314_39 v4 v5 N)) : mz_G (d, mz_X0 L xs, none, [], mk_314, 6, Q) 39 mt_314_39 [(0, .ref 100), (4, .int v4), (5, .int v5)] [] false (mz_k S R N b t) := by
  unfold cf_314_39 at hC
  unfold cp_314_39 at hp
  refine g_aload_n rfl (g_getR (mz_at hS (Nat.le_of_ble_eq_true rfl) mzcS_100) mzcf_0_9 (mz_rb hR (Nat.le_of_ble_eq_true rfl) rfl mzcR_100_9) (g_iconst mzi_3 (g_aald4 (m := 114) (mz_at hS (Nat.le_of_ble_eq_true rfl) mzcS_110) (mz_ibd (by decide)) (mz_rb hR (Nat.le_of_ble_eq_true rfl) rfl mzcRr_110_3) (g_iload rfl (g_iload rfl ?_)))))
  have h1 := hp
  refine g_iast (mz_at hS (Nat.le_of_ble_eq_true rfl) mzcS_114) h1 (g_aload_n rfl (g_dup rfl (g_getI (mz_at hS (Nat.le_of_ble_eq_true rfl) mzcS_100) mzcf_0_10 (g_iconst mzi_1 (g_iadd (g_putI (mz_at hS (Nat.le_of_ble_eq_true rfl) mzcS_100) mzcf_0_10 ?_))))))
  exact g_vret rfl (hr _ hC)
theorem cg_314_0 (hd : 0 ≤ d) (hS : mz_extR S 232) (hR : mz_rok R 232)  (v1 : Int32) (v2 : Int32) (v3 : Int32) (v4 : Int32) (N : mz_N) {C0 : (mz_N) → Prop} (hr : ∀ (N2 : mz_N), C0 N2 → Q (.inl none) (mz_k S R N2 b t)) (hp : cp_314_0 v1 v2 v3 v4 N) (hC : C0 (cf_314_0 v1 v2 v3 v4 N)) : mz_G (d, mz_X0 L xs, none, [], mk_314, 6, Q) 0 mk_314 [(0, .ref 100), (1, .int v1), (2, .int v2), (3, .int v3), (4, .int v4)] [] true (mz_k S R N b t) := by
  unfold cf_314_0 at hC
  unfold cp_314_0 at hp
  refine g_aload_n rfl (g_getI (mz_at hS (Nat.le_of_ble_eq_true rfl) mzcS_100) mzcf_0_10 (g_bipush mzb_64 (g_irem (by decide) (g_istore (Nat.le_of_ble_eq_true rfl) rfl (g_aload_n rfl (g_getR (mz_at hS (Nat.le_of_ble_eq_true rfl) mzcS_100) mzcf_0_9 (mz_rb hR (Nat.le_of_ble_eq_true rfl) rfl mzcR_100_9) (g_iconst mzi_0 ?_)))))))
  refine g_aald4 (m := 111) (mz_at hS (Nat.le_of_ble_eq_true rfl) mzcS_110) (mz_ibd (by decide)) (mz_rb hR (Nat.le_of_ble_eq_true rfl) rfl mzcRr_110_0) (g_iload rfl (g_iload_n rfl ?_))
  obtain ⟨h1, hp⟩ := hp
  refine g_iast (mz_at hS (Nat.le_of_ble_eq_true rfl) mzcS_111) h1 (g_aload_n rfl (g_getR (mz_at hS (Nat.le_of_ble_eq_true rfl) mzcS_100) mzcf_0_9 (mz_rb hR (Nat.le_of_ble_eq_true rfl) rfl mzcR_100_9) (g_iconst mzi_1 (g_aald4 (m := 112) (mz_at hS (Nat.le_of_ble_eq_true rfl) mzcS_110) (mz_ibd (by decide)) (mz_rb hR (Nat.le_of_ble_eq_true rfl) rfl mzcRr_110_1) (g_iload rfl (g_iload_n rfl ?_))))))
  obtain ⟨h2, hp⟩ := hp
  refine g_iast (mz_at hS (Nat.le_of_ble_eq_true rfl) mzcS_112) h2 (g_aload_n rfl (g_getR (mz_at hS (Nat.le_of_ble_eq_true rfl) mzcS_100) mzcf_0_9 (mz_rb hR (Nat.le_of_ble_eq_true rfl) rfl mzcR_100_9) (g_iconst mzi_2 (g_aald4 (m := 113) (mz_at hS (Nat.le_of_ble_eq_true rfl) mzcS_110) (mz_ibd (by decide)) (mz_rb hR (Nat.le_of_ble_eq_true rfl) rfl mzcRr_110_2) (g_iload rfl (g_iload_n rfl ?_))))))
  obtain ⟨h3, hp⟩ := hp
  refine g_iast (mz_at hS (Nat.le_of_ble_eq_true rfl) mzcS_113) h3 ?_
  refine g_weak ?_ (g_cl (cg_314_39 hd hS hR v4 (mz_irem (N.1 100 10) 64) (mz_wI (mz_wI (mz_wI N 111 (mz_irem (N.1 100 10) 64) v1) 112 (mz_irem (N.1 100 10) 64) v2) 113 (mz_irem (N.1 100 10) 64) v3) hr hp hC))
  exact ⟨rfl, rfl, rfl, trivial⟩
theorem cs_314 (hd : 1 ≤ d) (hS : mz_extR S 232) (hR : mz_rok R 232)  (v1 : Int32) (v2 : Int32) (v3 : Int32) (v4 : Int32) (N : mz_N) (hp : cp_314_0 v1 v2 v3 v4 N) (hq : Q (.inl none) (mz_k S R (cf_314_0 v1 v2 v3 v4 N) b t)) : mz_Ed (mz_X0 L xs) d 314 [.ref 100, .int v1, .int v2, .int v3, .int v4] (mz_k S R N b t) Q :=
  by
  refine g_in mzq_314 (Nat.le_of_ble_eq_true rfl) (Nat.le_of_ble_eq_true rfl) (Nat.le_trans (Nat.le_of_ble_eq_true rfl) hd) ?_
  refine g_weak ?_ (cg_314_0 (d := d - 1) (by omega) hS hR v1 v2 v3 v4 N (C0 := fun z => Q (.inl none) (mz_k S R z b t)) (fun _ h => h) hp hq)
  exact ⟨rfl, rfl, rfl, rfl, rfl, trivial⟩
/-! 305 KeptHouse.go (II)I -/
theorem ms_305_0 : mz_sf mk_305 0 = mk_305 := mz_sf_zero _
theorem ms_305_26 : mz_sf mk_305 26 = mt_305_26 := mz_sf_add ms_305_0 (t := 26) rfl rfl
theorem ms_305_51 : mz_sf mk_305 51 = mt_305_51 := mz_sf_add ms_305_26 (t := 25) rfl rfl
theorem ms_305_52 : mz_sf mk_305 52 = mt_305_52 := mz_sf_add ms_305_51 (t := 1) rfl rfl
theorem ms_305_80 : mz_sf mk_305 80 = mt_305_80 := mz_sf_add ms_305_52 (t := 28) rfl rfl
set_option maxRecDepth 100000 in
theorem mzq_305 : mz_PG0 305 = some (11, ⟨"KeptHouse", "go", "(II)I"⟩, prog_1_method_44_code, 4, some .int, [], mk_305, []) := rfl
theorem cg_305_80 (hd : 3 ≤ d) (hS : mz_extR S 232) (hR : mz_rok R 232)  (v1 : Int32) (v2 : Int32) (v3 : Int32) (N : mz_N) {C0 : (Nat × Int32 × mz_N) → Prop} (hr : ∀ (w : Int32) (N2 : mz_N), C0 (0, w, N2) → Q (.inl (some (.int w))) (mz_k S R N2 b t)) (ht : ∀ (c : Nat) (w : Int32) (N2 : mz_N), ¬ c = 0 → C0 (c, w, N2) → Q (.inr (c - 1)) (mz_k S R N2 b (t + 1))) (h1000 : t < 1000) (hp : cp_305_80 v1 v2 v3 N) (hC : C0 (cf_305_80 v1 v2 v3 N)) : mz_G (d, mz_X0 L xs, some .int, [], mk_305, 4, Q) 80 mt_305_80 [(0, .ref 0), (1, .int v1), (2, .int v2), (3, .int v3)] [] false (mz_k S R N b t) := by
  unfold cf_305_80 at hC
  unfold cp_305_80 at hp
  refine g_aload_n rfl (g_getR (mz_at hS (Nat.le_of_ble_eq_true rfl) mzcS_0) mzcf_11_6 (mz_rb hR (Nat.le_of_ble_eq_true rfl) rfl mzcR_0_6) (g_aload_n rfl (g_getR (mz_at hS (Nat.le_of_ble_eq_true rfl) mzcS_0) mzcf_11_8 (mz_rb hR (Nat.le_of_ble_eq_true rfl) rfl mzcR_0_8) (g_getI (mz_at hS (Nat.le_of_ble_eq_true rfl) mzcS_208) mzcf_1_0 (g_iload_n rfl (g_iload_n rfl (g_iload_n rfl ?_)))))))
  have h1 := hp
  refine g_v5n (Nat.le_of_ble_eq_true rfl) (mz_at hS (Nat.le_of_ble_eq_true rfl) mzcS_100) (fun _ hq => cs_314 (Nat.le_trans (Nat.le_of_ble_eq_true rfl) hd) (hS.le (Nat.le_of_ble_eq_true rfl)) (hR.le (Nat.le_of_ble_eq_true rfl))  (N.1 208 0) v1 v2 v3 N h1 hq) (g_iload_n rfl ?_)
  exact g_iret rfl (hr _ _ hC)
theorem cg_305_52 (hd : 3 ≤ d) (hS : mz_extR S 232) (hR : mz_rok R 232)  (s2 : Int32) (s3 : Int32) (s4 : Bool) (v1 : Int32) (v2 : Int32) (N : mz_N) {C0 : (Nat × Int32 × mz_N) → Prop} (hr : ∀ (w : Int32) (N2 : mz_N), C0 (0, w, N2) → Q (.inl (some (.int w))) (mz_k S R N2 b t)) (ht : ∀ (c : Nat) (w : Int32) (N2 : mz_N), ¬ c = 0 → C0 (c, w, N2) → Q (.inr (c - 1)) (mz_k S R N2 b (t + 1))) (h1000 : t < 1000) (hp : cp_305_52 s2 s3 s4 v1 v2 N) (hC : C0 (cf_305_52 s2 s3 s4 v1 v2 N)) : mz_G (d, mz_X0 L xs, some .int, [], mk_305, 4, Q) 52 mt_305_52 [(0, .ref 0), (1, .int v1), (2, .int v2)] [.int (mz_b01 s4), .int s3, .int s2, .ref 2, .ref 100] false (mz_k S R N b t) := by
  unfold cf_305_52 at hC
  unfold cp_305_52 at hp
  refine g_aload_n rfl (g_getR (mz_at hS (Nat.le_of_ble_eq_true rfl) mzcS_0) mzcf_11_8 (mz_rb hR (Nat.le_of_ble_eq_true rfl) rfl mzcR_0_8) ?_)
  refine g_v1v (Nat.le_of_ble_eq_true rfl) (mz_at hS (Nat.le_of_ble_eq_true rfl) mzcS_208) (fun _ hq => cs_200 (Nat.le_trans (Nat.le_of_ble_eq_true rfl) hd) (hS.le (Nat.le_of_ble_eq_true rfl)) (hR.le (Nat.le_of_ble_eq_true rfl))  N trivial hq) ?_
  obtain ⟨h2, hp⟩ := hp
  refine g_v6v (Nat.le_of_ble_eq_true rfl) (mz_at hS (Nat.le_of_ble_eq_true rfl) mzcS_100) (fun _ hq => cs_308 (Nat.le_trans (Nat.le_of_ble_eq_true rfl) hd) (hS.le (Nat.le_of_ble_eq_true rfl)) (hR.le (Nat.le_of_ble_eq_true rfl))  s2 s3 s4 (cf_200_0 N) N h2 hq) (g_istore_n (Nat.le_of_ble_eq_true rfl) rfl (g_iload_n rfl ?_))
  refine g_ifne (tg := 80) rfl ms_305_80 hC (fun h3 hC => ?_) (fun h3 hC => ?_)
  · have hp := hp.1 h3
    refine g_aload_n rfl (g_getR (mz_at hS (Nat.le_of_ble_eq_true rfl) mzcS_0) mzcf_11_6 (mz_rb hR (Nat.le_of_ble_eq_true rfl) rfl mzcR_0_6) (g_aload_n rfl (g_getR (mz_at hS (Nat.le_of_ble_eq_true rfl) mzcS_0) mzcf_11_1 (mz_rb hR (Nat.le_of_ble_eq_true rfl) rfl mzcR_0_1) (g_iload_n rfl (g_iload_n rfl ?_)))))
    obtain ⟨h4, hp⟩ := hp
    refine g_v4n (Nat.le_of_ble_eq_true rfl) (mz_at hS (Nat.le_of_ble_eq_true rfl) mzcS_100) (fun _ hq => cs_313 (Nat.le_trans (Nat.le_of_ble_eq_true rfl) hd) (hS.le (Nat.le_of_ble_eq_true rfl)) (hR.le (Nat.le_of_ble_eq_true rfl))  v1 v2 N h4 hq) ?_
    refine g_weak ?_ (g_cl (cg_305_80 hd hS hR v1 v2 (cf_308_0 s2 s3 s4 (cf_200_0 N) N) (cf_313_0 v1 v2 N) hr ht h1000 hp hC))
    exact ⟨rfl, rfl, rfl, rfl, trivial⟩
  · have hp := hp.2 h3
    refine g_weak ?_ (g_cl (cg_305_80 hd hS hR v1 v2 (cf_308_0 s2 s3 s4 (cf_200_0 N) N) N hr ht h1000 hp hC))
    exact ⟨rfl, rfl, rfl, rfl, trivial⟩
theorem cg_305_0 (hd : 3 ≤ d) (hS : mz_extR S 232) (hR : mz_rok R 232)  (v1 : Int32) (v2 : Int32) (N : mz_N) {C0 : (Nat × Int32 × mz_N) → Prop} (hr : ∀ (w : Int32) (N2 : mz_N), C0 (0, w, N2) → Q (.inl (some (.int w))) (mz_k S R N2 b t)) (ht : ∀ (c : Nat) (w : Int32) (N2 : mz_N), ¬ c = 0 → C0 (c, w, N2) → Q (.inr (c - 1)) (mz_k S R N2 b (t + 1))) (h1000 : t < 1000) (hp : cp_305_0 v1 v2 N) (hC : C0 (cf_305_0 v1 v2 N)) : mz_G (d, mz_X0 L xs, some .int, [], mk_305, 4, Q) 0 mk_305 [(0, .ref 0), (1, .int v1), (2, .int v2)] [] true (mz_k S R N b t) := by
  unfold cf_305_0 at hC
  unfold cp_305_0 at hp
  refine g_aload_n rfl ?_
  obtain ⟨h1, hp⟩ := hp
  refine g_v1nt (Nat.le_of_ble_eq_true rfl) (mz_at hS (Nat.le_of_ble_eq_true rfl) mzcS_0) rfl (fun _ hz0 hz1 => cs_104 (Nat.le_trans (Nat.le_of_ble_eq_true rfl) hd) (hS.le (Nat.le_of_ble_eq_true rfl)) (hR.le (Nat.le_of_ble_eq_true rfl))  N h1 h1000 hz0 hz1) hC (fun h9 hC => ?_) (fun h9 hC => ?_)
  · have hp := hp.1 h9
    refine g_aload_n rfl (g_getR (mz_at hS (Nat.le_of_ble_eq_true rfl) mzcS_0) mzcf_11_6 (mz_rb hR (Nat.le_of_ble_eq_true rfl) rfl mzcR_0_6) (g_iload_n rfl ?_))
    obtain ⟨h2, hp⟩ := hp
    refine g_v2v (Nat.le_of_ble_eq_true rfl) (mz_at hS (Nat.le_of_ble_eq_true rfl) mzcS_100) (fun _ hq => cs_306 (Nat.le_trans (Nat.le_of_ble_eq_true rfl) hd) (hS.le (Nat.le_of_ble_eq_true rfl)) (hR.le (Nat.le_of_ble_eq_true rfl))  v1 N h2 hq) ?_
    refine g_s1nt (Nat.le_of_ble_eq_true rfl) rfl (fun _ hz0 hz1 => cs_142 (Nat.le_trans (Nat.le_of_ble_eq_true rfl) hd) (hS.le (Nat.le_of_ble_eq_true rfl)) (hR.le (Nat.le_of_ble_eq_true rfl))  (cf_306_0 v1 N) trivial h1000 hz0 hz1) hC (fun h8 hC => ?_) (fun h8 hC => ?_)
    · have hp := hp.1 h8
      refine g_aload_n rfl (g_getR (mz_at hS (Nat.le_of_ble_eq_true rfl) mzcS_0) mzcf_11_6 (mz_rb hR (Nat.le_of_ble_eq_true rfl) rfl mzcR_0_6) (g_iload_n rfl ?_))
      obtain ⟨h4, hp⟩ := hp
      refine g_v2v (Nat.le_of_ble_eq_true rfl) (mz_at hS (Nat.le_of_ble_eq_true rfl) mzcS_100) (fun _ hq => cs_307 (Nat.le_trans (Nat.le_of_ble_eq_true rfl) hd) (hS.le (Nat.le_of_ble_eq_true rfl)) (hR.le (Nat.le_of_ble_eq_true rfl))  v2 N h4 hq) ?_
      refine g_s1nt (Nat.le_of_ble_eq_true rfl) rfl (fun _ hz0 hz1 => cs_142 (Nat.le_trans (Nat.le_of_ble_eq_true rfl) hd) (hS.le (Nat.le_of_ble_eq_true rfl)) (hR.le (Nat.le_of_ble_eq_true rfl))  (cf_307_0 v2 N) trivial h1000 hz0 hz1) hC (fun h7 hC => ?_) (fun h7 hC => ?_)
      · have hp := hp.1 h7
        refine g_aload_n rfl (g_getR (mz_at hS (Nat.le_of_ble_eq_true rfl) mzcS_0) mzcf_11_6 (mz_rb hR (Nat.le_of_ble_eq_true rfl) rfl mzcR_0_6) (g_aload_n rfl (g_getR (mz_at hS (Nat.le_of_ble_eq_true rfl) mzcS_0) mzcf_11_1 (mz_rb hR (Nat.le_of_ble_eq_true rfl) rfl mzcR_0_1) (g_iload_n rfl (g_iload_n rfl (g_aload_n rfl (g_getR (mz_at hS (Nat.le_of_ble_eq_true rfl) mzcS_0) mzcf_11_10 (mz_rb hR (Nat.le_of_ble_eq_true rfl) rfl mzcR_0_10) ?_)))))))
        refine g_bipush mzb_14 (g_iald hS.1 (mz_at hS (Nat.le_of_ble_eq_true rfl) mzcS_53) (mz_ibd (by decide)) (g_iconst mzi_1 ?_))
        refine g_icne (tg := 51) rfl ms_305_51 hC (fun h6 hC => ?_) (fun h6 hC => ?_)
        · have hp := hp.1 h6
          refine g_iconst mzi_1 (g_goto (tg := 52) rfl ms_305_52 ?_)
          refine g_weak ?_ (g_cl (cg_305_52 hd hS hR v1 v2 true v1 v2 N hr ht h1000 hp hC))
          exact ⟨rfl, rfl, rfl, trivial⟩
        · have hp := hp.2 h6
          refine g_iconst mzi_0 ?_
          refine g_weak ?_ (g_cl (cg_305_52 hd hS hR v1 v2 false v1 v2 N hr ht h1000 hp hC))
          exact ⟨rfl, rfl, rfl, trivial⟩
      · have hp := hp.2 h7
        exact ht _ _ _ h7 hC
    · have hp := hp.2 h8
      exact ht _ _ _ h8 hC
  · have hp := hp.2 h9
    exact ht _ _ _ h9 hC
theorem cs_305 (hd : 4 ≤ d) (hS : mz_extR S 232) (hR : mz_rok R 232)  (v1 : Int32) (v2 : Int32) (N : mz_N) (hp : cp_305_0 v1 v2 N) (h1000 : t < 1000) (h0 : (cf_305_0 v1 v2 N).1 = 0 → Q (.inl (some (.int ((cf_305_0 v1 v2 N).2.1)))) (mz_k S R ((cf_305_0 v1 v2 N).2.2) b t)) (h1 : ¬ (cf_305_0 v1 v2 N).1 = 0 → Q (.inr (((cf_305_0 v1 v2 N).1) - 1)) (mz_k S R ((cf_305_0 v1 v2 N).2.2) b (t + 1))) : mz_Ed (mz_X0 L xs) d 305 [.ref 0, .int v1, .int v2] (mz_k S R N b t) Q :=
  by
  refine g_in mzq_305 (Nat.le_of_ble_eq_true rfl) (Nat.le_of_ble_eq_true rfl) (Nat.le_trans (Nat.le_of_ble_eq_true rfl) hd) ?_
  refine g_weak ?_ (cg_305_0 (d := d - 1) (by omega) hS hR v1 v2 N (C0 := fun z => (z.1 = 0 → Q (.inl (some (.int z.2.1))) (mz_k S R z.2.2 b t)) ∧ (¬ z.1 = 0 → Q (.inr (z.1 - 1)) (mz_k S R z.2.2 b (t + 1)))) (fun _ _ h => h.1 rfl) (fun c _ _ hc h => h.2 hc) h1000 hp ⟨h0, h1⟩)
  exact ⟨rfl, rfl, rfl, trivial⟩
/-! 304 KeptHouseLaw.go (LKeptHouse;II[J)I -/
theorem ms_304_0 : mz_sf mk_304 0 = mk_304 := mz_sf_zero _
theorem ms_304_15 : mz_sf mk_304 15 = mt_304_15 := mz_sf_add ms_304_0 (t := 15) rfl rfl
theorem ms_304_19 : mz_sf mk_304 19 = mt_304_19 := mz_sf_add ms_304_15 (t := 4) rfl rfl
theorem ms_304_21 : mz_sf mk_304 21 = mt_304_21 := mz_sf_add ms_304_19 (t := 2) rfl rfl
set_option maxRecDepth 100000 in
theorem mzq_304 : mz_PG0 304 = some (13, ⟨"KeptHouseLaw", "go", "(LKeptHouse;II[J)I"⟩, method_40_code, 5, some .int, [(0, 10, 13, 13), (0, 10, 17, 15)], mk_304, [(0, 13, 15), (1, 17, 19)]) := rfl
theorem cg_304_21 (hd : 4 ≤ d) (hS : mz_extR S 343) (hR : mz_rok R 343)  (N : mz_N) (t : Nat) {C0 : (Int32 × mz_N × Nat) → Prop} (hr : ∀ (w : Int32) (N2 : mz_N) (t2 : Nat), C0 (w, N2, t2) → Q (.inl (some (.int w))) (mz_k S R N2 b t2)) (hp : cp_304_21 N t) (hC : C0 (cf_304_21 N t)) : mz_G (d, mz_X0 L xs, some .int, [(0, 13, 15), (1, 17, 19)], mk_304, 5, Q) 21 mt_304_21 [] [] false (mz_k S R N b t) := by
  unfold cf_304_21 at hC
  unfold cp_304_21 at hp
  refine g_iconst mzi_0 ?_
  exact g_iret rfl (hr _ _ _ hC)
theorem cg_304_0 (hd : 4 ≤ d) (hS : mz_extR S 343) (hR : mz_rok R 343)  (v1 : Int32) (v2 : Int32) (N : mz_N) (t : Nat) {C0 : (Int32 × mz_N × Nat) → Prop} (hr : ∀ (w : Int32) (N2 : mz_N) (t2 : Nat), C0 (w, N2, t2) → Q (.inl (some (.int w))) (mz_k S R N2 b t2)) (hp : cp_304_0 v1 v2 N t) (hC : C0 (cf_304_0 v1 v2 N t)) : mz_G (d, mz_X0 L xs, some .int, [(0, 13, 15), (1, 17, 19)], mk_304, 5, Q) 0 mk_304 [(0, .ref 0), (1, .int v1), (2, .int v2), (3, .ref 342)] [] true (mz_k S R N b t) := by
  unfold cf_304_0 at hC
  unfold cp_304_0 at hp
  refine g_aload_n rfl (g_iconst mzi_0 (g_aload_n rfl (g_iload_n rfl (g_iload_n rfl ?_))))
  obtain ⟨h1, hp⟩ := hp
  obtain ⟨h1000, hp⟩ := hp
  refine g_v3vh (Nat.le_of_ble_eq_true rfl) (mz_at hS (Nat.le_of_ble_eq_true rfl) mzcS_0) (fun _ hz0 hz1 => cs_305 (Nat.le_trans (Nat.le_of_ble_eq_true rfl) hd) (hS.le (Nat.le_of_ble_eq_true rfl)) (hR.le (Nat.le_of_ble_eq_true rfl))  v1 v2 N h1 h1000 hz0 hz1) hC (fun h2 hC => ?_) (fun h2 hC => ?_)
  · have hp := hp.1 h2
    refine g_i2l (g_last (mz_at hS (Nat.le_of_ble_eq_true rfl) mzcS_342) (mz_ibd (by decide)) (g_goto (tg := 21) rfl ms_304_21 ?_))
    refine g_weak ?_ (g_cl (cg_304_21 hd hS hR (mz_wL ((cf_305_0 v1 v2 N).2.2) 342 0 (((cf_305_0 v1 v2 N).2.1).toInt64)) t hr hp hC))
    exact trivial
  · have hp := hp.2 h2
    refine mz_cs hC (fun h6 hC => ?_) (fun h6 hC => ?_)
    · have hp := hp.1 h6
      refine ⟨(0, 13, 15), (by rw [h6]; rfl), ?_⟩
      show mz_G (d, mz_X0 L xs, some .int, [(0, 13, 15), (1, 17, 19)], mk_304, 5, Q) 15 (mz_sf mk_304 15) [] [] false (mz_k S R ((cf_305_0 v1 v2 N).2.2) b (t + 1))
      rw [ms_304_15]
      refine g_iconst mzi_1 ?_
      exact g_iret rfl (hr _ _ _ hC)
    · have hp := hp.2 h6
      have h4 := hp
      refine ⟨(1, 17, 19), (by rw [h4]; rfl), ?_⟩
      show mz_G (d, mz_X0 L xs, some .int, [(0, 13, 15), (1, 17, 19)], mk_304, 5, Q) 19 (mz_sf mk_304 19) [] [] false (mz_k S R ((cf_305_0 v1 v2 N).2.2) b (t + 1))
      rw [ms_304_19]
      refine g_iconst mzi_2 ?_
      exact g_iret rfl (hr _ _ _ hC)
theorem cs_304 (hd : 5 ≤ d) (hS : mz_extR S 343) (hR : mz_rok R 343)  (v1 : Int32) (v2 : Int32) (N : mz_N) (t : Nat) (hp : cp_304_0 v1 v2 N t) (hq : Q (.inl (some (.int ((cf_304_0 v1 v2 N t).1)))) (mz_k S R ((cf_304_0 v1 v2 N t).2.1) b ((cf_304_0 v1 v2 N t).2.2))) : mz_Ed (mz_X0 L xs) d 304 [.ref 0, .int v1, .int v2, .ref 342] (mz_k S R N b t) Q :=
  by
  refine g_in mzq_304 (Nat.le_of_ble_eq_true rfl) (Nat.le_of_ble_eq_true rfl) (Nat.le_trans (Nat.le_of_ble_eq_true rfl) hd) ?_
  refine g_weak ?_ (cg_304_0 (d := d - 1) (by omega) hS hR v1 v2 N t (C0 := fun z => Q (.inl (some (.int z.1))) (mz_k S R z.2.1 b z.2.2)) (fun _ _ _ h => h) hp hq)
  exact ⟨rfl, rfl, rfl, rfl, trivial⟩
/-! 316 KeptHouse.place (I)I -/
theorem ms_316_0 : mz_sf mk_316 0 = mk_316 := mz_sf_zero _
set_option maxRecDepth 100000 in
theorem mzq_316 : mz_PG0 316 = some (11, ⟨"KeptHouse", "place", "(I)I"⟩, prog_1_method_45_code, 2, some .int, [], mk_316, []) := rfl
theorem cg_316_0 (hd : 1 ≤ d) (hS : mz_extR S 232) (hR : mz_rok R 232)  (v1 : Int32) (N : mz_N) {C0 : (Nat × Int32) → Prop} (hr : ∀ (w : Int32), C0 (0, w) → Q (.inl (some (.int w))) (mz_k S R N b t)) (ht : ∀ (c : Nat) (w : Int32), ¬ c = 0 → C0 (c, w) → Q (.inr (c - 1)) (mz_k S R N b (t + 1))) (h1000 : t < 1000) (hp : cp_316_0 v1 N) (hC : C0 (cf_316_0 v1 N)) : mz_G (d, mz_X0 L xs, some .int, [], mk_316, 2, Q) 0 mk_316 [(0, .ref 0), (1, .int v1)] [] true (mz_k S R N b t) := by
  unfold cf_316_0 at hC
  unfold cp_316_0 at hp
  refine g_aload_n rfl ?_
  obtain ⟨h1, hp⟩ := hp
  refine g_v1nt (Nat.le_of_ble_eq_true rfl) (mz_at hS (Nat.le_of_ble_eq_true rfl) mzcS_0) rfl (fun _ hz0 hz1 => cs_104 (Nat.le_trans (Nat.le_of_ble_eq_true rfl) hd) (hS.le (Nat.le_of_ble_eq_true rfl)) (hR.le (Nat.le_of_ble_eq_true rfl))  N h1 h1000 hz0 hz1) hC (fun h6 hC => ?_) (fun h6 hC => ?_)
  · have hp := hp.1 h6
    refine g_aload_n rfl (g_getR (mz_at hS (Nat.le_of_ble_eq_true rfl) mzcS_0) mzcf_11_6 (mz_rb hR (Nat.le_of_ble_eq_true rfl) rfl mzcR_0_6) (g_iload_n rfl ?_))
    obtain ⟨h2, hp⟩ := hp
    refine g_v2v (Nat.le_of_ble_eq_true rfl) (mz_at hS (Nat.le_of_ble_eq_true rfl) mzcS_100) (fun _ hq => cs_306 (Nat.le_trans (Nat.le_of_ble_eq_true rfl) hd) (hS.le (Nat.le_of_ble_eq_true rfl)) (hR.le (Nat.le_of_ble_eq_true rfl))  v1 N h2 hq) ?_
    refine g_s1nt (Nat.le_of_ble_eq_true rfl) rfl (fun _ hz0 hz1 => cs_142 (Nat.le_trans (Nat.le_of_ble_eq_true rfl) hd) (hS.le (Nat.le_of_ble_eq_true rfl)) (hR.le (Nat.le_of_ble_eq_true rfl))  (cf_306_0 v1 N) trivial h1000 hz0 hz1) hC (fun h5 hC => ?_) (fun h5 hC => ?_)
    · have hp := hp.1 h5
      refine g_aload_n rfl (g_getR (mz_at hS (Nat.le_of_ble_eq_true rfl) mzcS_0) mzcf_11_6 (mz_rb hR (Nat.le_of_ble_eq_true rfl) rfl mzcR_0_6) (g_getR (mz_at hS (Nat.le_of_ble_eq_true rfl) mzcS_100) mzcf_0_8 (mz_rb hR (Nat.le_of_ble_eq_true rfl) rfl mzcR_100_8) (g_iload_n rfl ?_)))
      have h4 := hp
      refine g_iald hS.1 (mz_at hS (Nat.le_of_ble_eq_true rfl) mzcS_109) h4 ?_
      exact g_iret rfl (hr _ hC)
    · have hp := hp.2 h5
      exact ht _ _ h5 hC
  · have hp := hp.2 h6
    exact ht _ _ h6 hC
theorem cs_316 (hd : 2 ≤ d) (hS : mz_extR S 232) (hR : mz_rok R 232)  (v1 : Int32) (N : mz_N) (hp : cp_316_0 v1 N) (h1000 : t < 1000) (h0 : (cf_316_0 v1 N).1 = 0 → Q (.inl (some (.int ((cf_316_0 v1 N).2)))) (mz_k S R N b t)) (h1 : ¬ (cf_316_0 v1 N).1 = 0 → Q (.inr (((cf_316_0 v1 N).1) - 1)) (mz_k S R N b (t + 1))) : mz_Ed (mz_X0 L xs) d 316 [.ref 0, .int v1] (mz_k S R N b t) Q :=
  by
  refine g_in mzq_316 (Nat.le_of_ble_eq_true rfl) (Nat.le_of_ble_eq_true rfl) (Nat.le_trans (Nat.le_of_ble_eq_true rfl) hd) ?_
  refine g_weak ?_ (cg_316_0 (d := d - 1) (by omega) hS hR v1 N (C0 := fun z => (z.1 = 0 → Q (.inl (some (.int z.2))) (mz_k S R N b t)) ∧ (¬ z.1 = 0 → Q (.inr (z.1 - 1)) (mz_k S R N b (t + 1)))) (fun _ h => h.1 rfl) (fun c _ hc h => h.2 hc) h1000 hp ⟨h0, h1⟩)
  exact ⟨rfl, rfl, trivial⟩
/-! 315 KeptHouseLaw.place (LKeptHouse;I[J)I -/
theorem ms_315_0 : mz_sf mk_315 0 = mk_315 := mz_sf_zero _
theorem ms_315_13 : mz_sf mk_315 13 = mt_315_13 := mz_sf_add ms_315_0 (t := 13) rfl rfl
theorem ms_315_16 : mz_sf mk_315 16 = mt_315_16 := mz_sf_add ms_315_13 (t := 3) rfl rfl
theorem ms_315_18 : mz_sf mk_315 18 = mt_315_18 := mz_sf_add ms_315_16 (t := 2) rfl rfl
set_option maxRecDepth 100000 in
theorem mzq_315 : mz_PG0 315 = some (13, ⟨"KeptHouseLaw", "place", "(LKeptHouse;I[J)I"⟩, method_41_code, 4, some .int, [(0, 9, 12, 13), (0, 9, 15, 15)], mk_315, [(0, 12, 13), (1, 15, 16)]) := rfl
theorem cg_315_0 (hd : 2 ≤ d) (hS : mz_extR S 343) (hR : mz_rok R 343)  (v1 : Int32) (N : mz_N) (t : Nat) {C0 : (Int32 × mz_N × Nat) → Prop} (hr : ∀ (w : Int32) (N2 : mz_N) (t2 : Nat), C0 (w, N2, t2) → Q (.inl (some (.int w))) (mz_k S R N2 b t2)) (hp : cp_315_0 v1 N t) (hC : C0 (cf_315_0 v1 N t)) : mz_G (d, mz_X0 L xs, some .int, [(0, 12, 13), (1, 15, 16)], mk_315, 4, Q) 0 mk_315 [(0, .ref 0), (1, .int v1), (2, .ref 342)] [] true (mz_k S R N b t) := by
  unfold cf_315_0 at hC
  unfold cp_315_0 at hp
  refine g_aload_n rfl (g_iconst mzi_0 (g_aload_n rfl (g_iload_n rfl ?_)))
  obtain ⟨h1, hp⟩ := hp
  obtain ⟨h1000, hp⟩ := hp
  refine g_v2vh (Nat.le_of_ble_eq_true rfl) (mz_at hS (Nat.le_of_ble_eq_true rfl) mzcS_0) (fun _ hz0 hz1 => cs_316 (Nat.le_trans (Nat.le_of_ble_eq_true rfl) hd) (hS.le (Nat.le_of_ble_eq_true rfl)) (hR.le (Nat.le_of_ble_eq_true rfl))  v1 N h1 h1000 hz0 hz1) hC (fun h2 hC => ?_) (fun h2 hC => ?_)
  · have hp := hp.1 h2
    refine g_i2l (g_last (mz_at hS (Nat.le_of_ble_eq_true rfl) mzcS_342) (mz_ibd (by decide)) (g_goto (tg := 18) rfl ms_315_18 (g_iconst mzi_0 ?_)))
    exact g_iret rfl (hr _ _ _ hC)
  · have hp := hp.2 h2
    refine mz_cs hC (fun h6 hC => ?_) (fun h6 hC => ?_)
    · have hp := hp.1 h6
      refine ⟨(0, 12, 13), (by rw [h6]; rfl), ?_⟩
      show mz_G (d, mz_X0 L xs, some .int, [(0, 12, 13), (1, 15, 16)], mk_315, 4, Q) 13 (mz_sf mk_315 13) [] [] false (mz_k S R N b (t + 1))
      rw [ms_315_13]
      refine g_iconst mzi_1 ?_
      exact g_iret rfl (hr _ _ _ hC)
    · have hp := hp.2 h6
      have h4 := hp
      refine ⟨(1, 15, 16), (by rw [h4]; rfl), ?_⟩
      show mz_G (d, mz_X0 L xs, some .int, [(0, 12, 13), (1, 15, 16)], mk_315, 4, Q) 16 (mz_sf mk_315 16) [] [] false (mz_k S R N b (t + 1))
      rw [ms_315_16]
      refine g_iconst mzi_2 ?_
      exact g_iret rfl (hr _ _ _ hC)
theorem cs_315 (hd : 3 ≤ d) (hS : mz_extR S 343) (hR : mz_rok R 343)  (v1 : Int32) (N : mz_N) (t : Nat) (hp : cp_315_0 v1 N t) (hq : Q (.inl (some (.int ((cf_315_0 v1 N t).1)))) (mz_k S R ((cf_315_0 v1 N t).2.1) b ((cf_315_0 v1 N t).2.2))) : mz_Ed (mz_X0 L xs) d 315 [.ref 0, .int v1, .ref 342] (mz_k S R N b t) Q :=
  by
  refine g_in mzq_315 (Nat.le_of_ble_eq_true rfl) (Nat.le_of_ble_eq_true rfl) (Nat.le_trans (Nat.le_of_ble_eq_true rfl) hd) ?_
  refine g_weak ?_ (cg_315_0 (d := d - 1) (by omega) hS hR v1 N t (C0 := fun z => Q (.inl (some (.int z.1))) (mz_k S R z.2.1 b z.2.2)) (fun _ _ _ h => h) hp hq)
  exact ⟨rfl, rfl, rfl, trivial⟩
/-! 319 KeptHouse$Access.countIn (LKeptHouse$Plan;I)I -/
theorem ms_319_0 : mz_sf mk_319 0 = mk_319 := mz_sf_zero _
theorem ms_319_5 : mz_sf mk_319 5 = mt_319_5 := mz_sf_add ms_319_0 (t := 5) rfl rfl
theorem ms_319_39 : mz_sf mk_319 39 = mt_319_39 := mz_sf_add ms_319_5 (t := 34) rfl rfl
theorem ms_319_42 : mz_sf mk_319 42 = mt_319_42 := mz_sf_add ms_319_39 (t := 3) rfl rfl
theorem ms_319_48 : mz_sf mk_319 48 = mt_319_48 := mz_sf_add ms_319_42 (t := 6) rfl rfl
set_option maxRecDepth 100000 in
theorem mzq_319 : mz_PG0 319 = some (0, ⟨"KeptHouse$Access", "countIn", "(LKeptHouse$Plan;I)I"⟩, prog_2_method_16_code, 5, some .int, [], mk_319, []) := rfl
theorem cg_319_42 (hd : 0 ≤ d) (hS : mz_extR S 232) (hR : mz_rok R 232)  (v2 : Int32) (v3 : Int32) (v4 : Int32) (N : mz_N) {C0 : (Int32) → Prop} (hr : ∀ (w : Int32), C0 w → Q (.inl (some (.int w))) (mz_k S R N b t)) {C1 : ((Int32 × Int32) ⊕ (Int32)) → Prop} (hc1 : ∀ s2, C1 (.inl s2) → mz_G (d, mz_X0 L xs, some .int, [], mk_319, 5, Q) 5 mt_319_5 [(0, .ref 100), (1, .ref 2), (2, .int v2), (3, .int s2.1), (4, .int s2.2)] [] false (mz_k S R N b t)) (hx1 : ∀ z, C1 (.inr z) → C0 z) (hp : cp_319_42 v2 v3 v4 N) (hC : C1 (cf_319_42 v2 v3 v4 N)) : mz_G (d, mz_X0 L xs, some .int, [], mk_319, 5, Q) 42 mt_319_42 [(0, .ref 100), (1, .ref 2), (2, .int v2), (3, .int v3), (4, .int v4)] [] false (mz_k S R N b t) := by
  unfold cf_319_42 at hC
  unfold cp_319_42 at hp
  refine g_iinc rfl mzi_1 (Nat.le_of_ble_eq_true rfl) rfl (g_goto (tg := 5) rfl ms_319_5 ?_)
  refine g_weak ?_ (g_cl (hc1 (v3, (v4 + 1)) hC))
  exact ⟨rfl, rfl, rfl, rfl, rfl, trivial⟩
theorem cb_319_5 (hd : 0 ≤ d) (hS : mz_extR S 232) (hR : mz_rok R 232)  (v2 : Int32) (N : mz_N) (s : Int32 × Int32) {C0 : (Int32) → Prop} (hr : ∀ (w : Int32), C0 w → Q (.inl (some (.int w))) (mz_k S R N b t)) {C1 : ((Int32 × Int32) ⊕ (Int32)) → Prop} (hc1 : ∀ s2, C1 (.inl s2) → mz_G (d, mz_X0 L xs, some .int, [], mk_319, 5, Q) 5 mt_319_5 [(0, .ref 100), (1, .ref 2), (2, .int v2), (3, .int s2.1), (4, .int s2.2)] [] false (mz_k S R N b t)) (hx1 : ∀ z, C1 (.inr z) → C0 z) (hp : cd_319_5 v2 N s) (hC : C1 (cq_319_5 v2 N s)) : mz_G (d, mz_X0 L xs, some .int, [], mk_319, 5, Q) 5 mt_319_5 [(0, .ref 100), (1, .ref 2), (2, .int v2), (3, .int s.1), (4, .int s.2)] [] false (mz_k S R N b t) := by
  unfold cq_319_5 at hC
  unfold cd_319_5 at hp
  refine g_iload rfl (g_bipush mzb_40 ?_)
  refine g_icge (tg := 48) rfl ms_319_48 hC (fun h1 hC => ?_) (fun h1 hC => ?_)
  · have hp := hp.1 h1
    refine g_aload_n rfl (g_getR (mz_at hS (Nat.le_of_ble_eq_true rfl) mzcS_100) mzcf_0_8 (mz_rb hR (Nat.le_of_ble_eq_true rfl) rfl mzcR_100_8) (g_iload rfl ?_))
    obtain ⟨h2, hp⟩ := hp
    refine g_iald hS.1 (mz_at hS (Nat.le_of_ble_eq_true rfl) mzcS_109) h2 (g_iconst mzi_m1 ?_)
    refine g_iceq (tg := 42) rfl ms_319_42 hC (fun h3 hC => ?_) (fun h3 hC => ?_)
    · have hp := hp.1 h3
      refine g_weak ?_ (g_cl (cg_319_42 hd hS hR v2 s.1 s.2 N hr hc1 hx1 hp hC))
      exact ⟨rfl, rfl, rfl, rfl, rfl, trivial⟩
    · have hp := hp.2 h3
      refine g_aload_n rfl (g_getR (mz_at hS (Nat.le_of_ble_eq_true rfl) mzcS_2) mzcf_5_8 (mz_rb hR (Nat.le_of_ble_eq_true rfl) rfl mzcR_2_8) (g_aload_n rfl (g_getR (mz_at hS (Nat.le_of_ble_eq_true rfl) mzcS_100) mzcf_0_8 (mz_rb hR (Nat.le_of_ble_eq_true rfl) rfl mzcR_100_8) (g_iload rfl ?_))))
      obtain ⟨h4, hp⟩ := hp
      refine g_iald hS.1 (mz_at hS (Nat.le_of_ble_eq_true rfl) mzcS_109) h4 ?_
      obtain ⟨h5, hp⟩ := hp
      refine g_iald hS.1 (mz_at hS (Nat.le_of_ble_eq_true rfl) mzcS_15) h5 (g_iload_n rfl ?_)
      refine g_icne (tg := 42) rfl ms_319_42 hC (fun h6 hC => ?_) (fun h6 hC => ?_)
      · have hp := hp.1 h6
        refine g_iinc rfl mzi_1 (Nat.le_of_ble_eq_true rfl) rfl ?_
        refine g_weak ?_ (g_cl (cg_319_42 hd hS hR v2 (s.1 + 1) s.2 N hr hc1 hx1 hp hC))
        exact ⟨rfl, rfl, rfl, rfl, rfl, trivial⟩
      · have hp := hp.2 h6
        refine g_weak ?_ (g_cl (cg_319_42 hd hS hR v2 s.1 s.2 N hr hc1 hx1 hp hC))
        exact ⟨rfl, rfl, rfl, rfl, rfl, trivial⟩
  · have hp := hp.2 h1
    refine g_iload_n rfl ?_
    exact g_iret rfl (hr _ (hx1 _ hC))
theorem cg_319_5 (hd : 0 ≤ d) (hS : mz_extR S 232) (hR : mz_rok R 232)  (v2 : Int32) (v3 : Int32) (v4 : Int32) (N : mz_N) {C0 : (Int32) → Prop} (hr : ∀ (w : Int32), C0 w → Q (.inl (some (.int w))) (mz_k S R N b t)) (hp : cp_319_5 v2 v3 v4 N) (hC : C0 (cf_319_5 v2 v3 v4 N)) : mz_G (d, mz_X0 L xs, some .int, [], mk_319, 5, Q) 5 mt_319_5 [(0, .ref 100), (1, .ref 2), (2, .int v2), (3, .int v3), (4, .int v4)] [] false (mz_k S R N b t) := by
  obtain ⟨n, hn⟩ := hp
  exact g_loop (G := fun s => mz_G (d, mz_X0 L xs, some .int, [], mk_319, 5, Q) 5 mt_319_5 [(0, .ref 100), (1, .ref 2), (2, .int v2), (3, .int s.1), (4, .int s.2)] [] false (mz_k S R N b t)) (C := C0) (fun C2 hc hx s hP hC => cb_319_5 hd hS hR v2 N s hr hc hx hP hC) n (v3, v4) hn hC
theorem cg_319_0 (hd : 0 ≤ d) (hS : mz_extR S 232) (hR : mz_rok R 232)  (v2 : Int32) (N : mz_N) {C0 : (Int32) → Prop} (hr : ∀ (w : Int32), C0 w → Q (.inl (some (.int w))) (mz_k S R N b t)) (hp : cp_319_0 v2 N) (hC : C0 (cf_319_0 v2 N)) : mz_G (d, mz_X0 L xs, some .int, [], mk_319, 5, Q) 0 mk_319 [(0, .ref 100), (1, .ref 2), (2, .int v2)] [] true (mz_k S R N b t) := by
  unfold cf_319_0 at hC
  unfold cp_319_0 at hp
  refine g_iconst mzi_0 (g_istore_n (Nat.le_of_ble_eq_true rfl) rfl (g_iconst mzi_0 (g_istore (Nat.le_of_ble_eq_true rfl) rfl ?_)))
  refine g_weak ?_ (g_cl (cg_319_5 hd hS hR v2 0 0 N hr hp hC))
  exact ⟨rfl, rfl, rfl, rfl, rfl, trivial⟩
theorem cs_319 (hd : 1 ≤ d) (hS : mz_extR S 232) (hR : mz_rok R 232)  (v2 : Int32) (N : mz_N) (hp : cp_319_0 v2 N) (hq : Q (.inl (some (.int (cf_319_0 v2 N)))) (mz_k S R N b t)) : mz_Ed (mz_X0 L xs) d 319 [.ref 100, .ref 2, .int v2] (mz_k S R N b t) Q :=
  by
  refine g_in mzq_319 (Nat.le_of_ble_eq_true rfl) (Nat.le_of_ble_eq_true rfl) (Nat.le_trans (Nat.le_of_ble_eq_true rfl) hd) ?_
  refine g_weak ?_ (cg_319_0 (d := d - 1) (by omega) hS hR v2 N (C0 := fun z => Q (.inl (some (.int z))) (mz_k S R N b t)) (fun _ h => h) hp hq)
  exact ⟨rfl, rfl, rfl, trivial⟩
/-! 318 KeptHouse.inside (I)I -/
theorem ms_318_0 : mz_sf mk_318 0 = mk_318 := mz_sf_zero _
set_option maxRecDepth 100000 in
theorem mzq_318 : mz_PG0 318 = some (11, ⟨"KeptHouse", "inside", "(I)I"⟩, prog_1_method_46_code, 2, some .int, [], mk_318, []) := rfl
theorem cg_318_0 (hd : 1 ≤ d) (hS : mz_extR S 232) (hR : mz_rok R 232)  (v1 : Int32) (N : mz_N) {C0 : (Nat × Int32) → Prop} (hr : ∀ (w : Int32), C0 (0, w) → Q (.inl (some (.int w))) (mz_k S R N b t)) (ht : ∀ (c : Nat) (w : Int32), ¬ c = 0 → C0 (c, w) → Q (.inr (c - 1)) (mz_k S R N b (t + 1))) (h1000 : t < 1000) (hp : cp_318_0 v1 N) (hC : C0 (cf_318_0 v1 N)) : mz_G (d, mz_X0 L xs, some .int, [], mk_318, 2, Q) 0 mk_318 [(0, .ref 0), (1, .int v1)] [] true (mz_k S R N b t) := by
  unfold cf_318_0 at hC
  unfold cp_318_0 at hp
  refine g_aload_n rfl ?_
  obtain ⟨h1, hp⟩ := hp
  refine g_v1nt (Nat.le_of_ble_eq_true rfl) (mz_at hS (Nat.le_of_ble_eq_true rfl) mzcS_0) rfl (fun _ hz0 hz1 => cs_104 (Nat.le_trans (Nat.le_of_ble_eq_true rfl) hd) (hS.le (Nat.le_of_ble_eq_true rfl)) (hR.le (Nat.le_of_ble_eq_true rfl))  N h1 h1000 hz0 hz1) hC (fun h5 hC => ?_) (fun h5 hC => ?_)
  · have hp := hp.1 h5
    refine g_iload_n rfl (g_iconst mzi_0 (g_aload_n rfl (g_getR (mz_at hS (Nat.le_of_ble_eq_true rfl) mzcS_0) mzcf_11_1 (mz_rb hR (Nat.le_of_ble_eq_true rfl) rfl mzcR_0_1) (g_getI (mz_at hS (Nat.le_of_ble_eq_true rfl) mzcS_2) mzcf_5_7 (g_iconst mzi_1 (g_isub ?_))))))
    obtain ⟨h2, hp⟩ := hp
    refine g_s3nt (Nat.le_of_ble_eq_true rfl) rfl (fun _ hz0 hz1 => cs_105 (Nat.le_trans (Nat.le_of_ble_eq_true rfl) hd) (hS.le (Nat.le_of_ble_eq_true rfl)) (hR.le (Nat.le_of_ble_eq_true rfl))  v1 0 ((N.1 2 7) - 1) h2 h1000 hz0 hz1) hC (fun h4 hC => ?_) (fun h4 hC => ?_)
    · have hp := hp.1 h4
      refine g_aload_n rfl (g_getR (mz_at hS (Nat.le_of_ble_eq_true rfl) mzcS_0) mzcf_11_6 (mz_rb hR (Nat.le_of_ble_eq_true rfl) rfl mzcR_0_6) (g_aload_n rfl (g_getR (mz_at hS (Nat.le_of_ble_eq_true rfl) mzcS_0) mzcf_11_1 (mz_rb hR (Nat.le_of_ble_eq_true rfl) rfl mzcR_0_1) (g_iload_n rfl ?_))))
      have h3 := hp
      refine g_v3v (Nat.le_of_ble_eq_true rfl) (mz_at hS (Nat.le_of_ble_eq_true rfl) mzcS_100) (fun _ hq => cs_319 (Nat.le_trans (Nat.le_of_ble_eq_true rfl) hd) (hS.le (Nat.le_of_ble_eq_true rfl)) (hR.le (Nat.le_of_ble_eq_true rfl))  v1 N h3 hq) ?_
      exact g_iret rfl (hr _ hC)
    · have hp := hp.2 h4
      exact ht _ _ h4 hC
  · have hp := hp.2 h5
    exact ht _ _ h5 hC
theorem cs_318 (hd : 2 ≤ d) (hS : mz_extR S 232) (hR : mz_rok R 232)  (v1 : Int32) (N : mz_N) (hp : cp_318_0 v1 N) (h1000 : t < 1000) (h0 : (cf_318_0 v1 N).1 = 0 → Q (.inl (some (.int ((cf_318_0 v1 N).2)))) (mz_k S R N b t)) (h1 : ¬ (cf_318_0 v1 N).1 = 0 → Q (.inr (((cf_318_0 v1 N).1) - 1)) (mz_k S R N b (t + 1))) : mz_Ed (mz_X0 L xs) d 318 [.ref 0, .int v1] (mz_k S R N b t) Q :=
  by
  refine g_in mzq_318 (Nat.le_of_ble_eq_true rfl) (Nat.le_of_ble_eq_true rfl) (Nat.le_trans (Nat.le_of_ble_eq_true rfl) hd) ?_
  refine g_weak ?_ (cg_318_0 (d := d - 1) (by omega) hS hR v1 N (C0 := fun z => (z.1 = 0 → Q (.inl (some (.int z.2))) (mz_k S R N b t)) ∧ (¬ z.1 = 0 → Q (.inr (z.1 - 1)) (mz_k S R N b (t + 1)))) (fun _ h => h.1 rfl) (fun c _ hc h => h.2 hc) h1000 hp ⟨h0, h1⟩)
  exact ⟨rfl, rfl, trivial⟩
/-! 317 KeptHouseLaw.inside (LKeptHouse;I[J)I -/
theorem ms_317_0 : mz_sf mk_317 0 = mk_317 := mz_sf_zero _
theorem ms_317_13 : mz_sf mk_317 13 = mt_317_13 := mz_sf_add ms_317_0 (t := 13) rfl rfl
theorem ms_317_16 : mz_sf mk_317 16 = mt_317_16 := mz_sf_add ms_317_13 (t := 3) rfl rfl
theorem ms_317_18 : mz_sf mk_317 18 = mt_317_18 := mz_sf_add ms_317_16 (t := 2) rfl rfl
set_option maxRecDepth 100000 in
theorem mzq_317 : mz_PG0 317 = some (13, ⟨"KeptHouseLaw", "inside", "(LKeptHouse;I[J)I"⟩, method_42_code, 4, some .int, [(0, 9, 12, 13), (0, 9, 15, 15)], mk_317, [(0, 12, 13), (1, 15, 16)]) := rfl
theorem cg_317_0 (hd : 2 ≤ d) (hS : mz_extR S 343) (hR : mz_rok R 343)  (v1 : Int32) (N : mz_N) (t : Nat) {C0 : (Int32 × mz_N × Nat) → Prop} (hr : ∀ (w : Int32) (N2 : mz_N) (t2 : Nat), C0 (w, N2, t2) → Q (.inl (some (.int w))) (mz_k S R N2 b t2)) (hp : cp_317_0 v1 N t) (hC : C0 (cf_317_0 v1 N t)) : mz_G (d, mz_X0 L xs, some .int, [(0, 12, 13), (1, 15, 16)], mk_317, 4, Q) 0 mk_317 [(0, .ref 0), (1, .int v1), (2, .ref 342)] [] true (mz_k S R N b t) := by
  unfold cf_317_0 at hC
  unfold cp_317_0 at hp
  refine g_aload_n rfl (g_iconst mzi_0 (g_aload_n rfl (g_iload_n rfl ?_)))
  obtain ⟨h1, hp⟩ := hp
  obtain ⟨h1000, hp⟩ := hp
  refine g_v2vh (Nat.le_of_ble_eq_true rfl) (mz_at hS (Nat.le_of_ble_eq_true rfl) mzcS_0) (fun _ hz0 hz1 => cs_318 (Nat.le_trans (Nat.le_of_ble_eq_true rfl) hd) (hS.le (Nat.le_of_ble_eq_true rfl)) (hR.le (Nat.le_of_ble_eq_true rfl))  v1 N h1 h1000 hz0 hz1) hC (fun h2 hC => ?_) (fun h2 hC => ?_)
  · have hp := hp.1 h2
    refine g_i2l (g_last (mz_at hS (Nat.le_of_ble_eq_true rfl) mzcS_342) (mz_ibd (by decide)) (g_goto (tg := 18) rfl ms_317_18 (g_iconst mzi_0 ?_)))
    exact g_iret rfl (hr _ _ _ hC)
  · have hp := hp.2 h2
    refine mz_cs hC (fun h6 hC => ?_) (fun h6 hC => ?_)
    · have hp := hp.1 h6
      refine ⟨(0, 12, 13), (by rw [h6]; rfl), ?_⟩
      show mz_G (d, mz_X0 L xs, some .int, [(0, 12, 13), (1, 15, 16)], mk_317, 4, Q) 13 (mz_sf mk_317 13) [] [] false (mz_k S R N b (t + 1))
      rw [ms_317_13]
      refine g_iconst mzi_1 ?_
      exact g_iret rfl (hr _ _ _ hC)
    · have hp := hp.2 h6
      have h4 := hp
      refine ⟨(1, 15, 16), (by rw [h4]; rfl), ?_⟩
      show mz_G (d, mz_X0 L xs, some .int, [(0, 12, 13), (1, 15, 16)], mk_317, 4, Q) 16 (mz_sf mk_317 16) [] [] false (mz_k S R N b (t + 1))
      rw [ms_317_16]
      refine g_iconst mzi_2 ?_
      exact g_iret rfl (hr _ _ _ hC)
theorem cs_317 (hd : 3 ≤ d) (hS : mz_extR S 343) (hR : mz_rok R 343)  (v1 : Int32) (N : mz_N) (t : Nat) (hp : cp_317_0 v1 N t) (hq : Q (.inl (some (.int ((cf_317_0 v1 N t).1)))) (mz_k S R ((cf_317_0 v1 N t).2.1) b ((cf_317_0 v1 N t).2.2))) : mz_Ed (mz_X0 L xs) d 317 [.ref 0, .int v1, .ref 342] (mz_k S R N b t) Q :=
  by
  refine g_in mzq_317 (Nat.le_of_ble_eq_true rfl) (Nat.le_of_ble_eq_true rfl) (Nat.le_trans (Nat.le_of_ble_eq_true rfl) hd) ?_
  refine g_weak ?_ (cg_317_0 (d := d - 1) (by omega) hS hR v1 N t (C0 := fun z => Q (.inl (some (.int z.1))) (mz_k S R z.2.1 b z.2.2)) (fun _ _ _ h => h) hp hq)
  exact ⟨rfl, rfl, rfl, trivial⟩
/-! 321 KeptHouse.log (II)I -/
theorem ms_321_0 : mz_sf mk_321 0 = mk_321 := mz_sf_zero _
theorem ms_321_23 : mz_sf mk_321 23 = mt_321_23 := mz_sf_add ms_321_0 (t := 23) rfl rfl
set_option maxRecDepth 100000 in
theorem mzq_321 : mz_PG0 321 = some (11, ⟨"KeptHouse", "log", "(II)I"⟩, prog_1_method_47_code, 3, some .int, [], mk_321, []) := rfl
theorem cg_321_0 (hd : 1 ≤ d) (hS : mz_extR S 232) (hR : mz_rok R 232)  (v1 : Int32) (v2 : Int32) (N : mz_N) {C0 : (Nat × Int32) → Prop} (hr : ∀ (w : Int32), C0 (0, w) → Q (.inl (some (.int w))) (mz_k S R N b t)) (ht : ∀ (c : Nat) (w : Int32), ¬ c = 0 → C0 (c, w) → Q (.inr (c - 1)) (mz_k S R N b (t + 1))) (h1000 : t < 1000) (hp : cp_321_0 v1 v2 N) (hC : C0 (cf_321_0 v1 v2 N)) : mz_G (d, mz_X0 L xs, some .int, [], mk_321, 3, Q) 0 mk_321 [(0, .ref 0), (1, .int v1), (2, .int v2)] [] true (mz_k S R N b t) := by
  unfold cf_321_0 at hC
  unfold cp_321_0 at hp
  refine g_aload_n rfl ?_
  obtain ⟨h1, hp⟩ := hp
  refine g_v1nt (Nat.le_of_ble_eq_true rfl) (mz_at hS (Nat.le_of_ble_eq_true rfl) mzcS_0) rfl (fun _ hz0 hz1 => cs_104 (Nat.le_trans (Nat.le_of_ble_eq_true rfl) hd) (hS.le (Nat.le_of_ble_eq_true rfl)) (hR.le (Nat.le_of_ble_eq_true rfl))  N h1 h1000 hz0 hz1) hC (fun h8 hC => ?_) (fun h8 hC => ?_)
  · have hp := hp.1 h8
    refine g_iload_n rfl (g_iconst mzi_0 (g_aload_n rfl (g_getR (mz_at hS (Nat.le_of_ble_eq_true rfl) mzcS_0) mzcf_11_6 (mz_rb hR (Nat.le_of_ble_eq_true rfl) rfl mzcR_0_6) (g_getI (mz_at hS (Nat.le_of_ble_eq_true rfl) mzcS_100) mzcf_0_10 (g_bipush mzb_64 (g_imin (Nat.le_of_ble_eq_true rfl) (g_iconst mzi_1 ?_)))))))
    refine g_isub ?_
    obtain ⟨h2, hp⟩ := hp
    refine g_s3nt (Nat.le_of_ble_eq_true rfl) rfl (fun _ hz0 hz1 => cs_105 (Nat.le_trans (Nat.le_of_ble_eq_true rfl) hd) (hS.le (Nat.le_of_ble_eq_true rfl)) (hR.le (Nat.le_of_ble_eq_true rfl))  v1 0 ((mz_imin (N.1 100 10) 64) - 1) h2 h1000 hz0 hz1) hC (fun h7 hC => ?_) (fun h7 hC => ?_)
    · have hp := hp.1 h7
      refine g_iload_n rfl (g_iconst mzi_0 (g_iconst mzi_3 ?_))
      obtain ⟨h3, hp⟩ := hp
      refine g_s3nt (Nat.le_of_ble_eq_true rfl) rfl (fun _ hz0 hz1 => cs_105 (Nat.le_trans (Nat.le_of_ble_eq_true rfl) hd) (hS.le (Nat.le_of_ble_eq_true rfl)) (hR.le (Nat.le_of_ble_eq_true rfl))  v2 0 3 h3 h1000 hz0 hz1) hC (fun h6 hC => ?_) (fun h6 hC => ?_)
      · have hp := hp.1 h6
        refine g_aload_n rfl (g_getR (mz_at hS (Nat.le_of_ble_eq_true rfl) mzcS_0) mzcf_11_6 (mz_rb hR (Nat.le_of_ble_eq_true rfl) rfl mzcR_0_6) (g_getR (mz_at hS (Nat.le_of_ble_eq_true rfl) mzcS_100) mzcf_0_9 (mz_rb hR (Nat.le_of_ble_eq_true rfl) rfl mzcR_100_9) (g_iload_n rfl ?_)))
        obtain ⟨h4, hp⟩ := hp
        refine g_aald4 (mz_at hS (Nat.le_of_ble_eq_true rfl) mzcS_110) h4 (mz_rb hR (Nat.le_of_ble_eq_true rfl) rfl (mzcR2_110 h4)) (g_aload_n rfl (g_getR (mz_at hS (Nat.le_of_ble_eq_true rfl) mzcS_0) mzcf_11_6 (mz_rb hR (Nat.le_of_ble_eq_true rfl) rfl mzcR_0_6) (g_getI (mz_at hS (Nat.le_of_ble_eq_true rfl) mzcS_100) mzcf_0_10 (g_iconst mzi_1 (g_isub (g_iload_n rfl (g_isub ?_)))))))
        refine g_bipush mzb_64 (g_irem (by decide) ?_)
        have h5 := hp
        refine g_iald hS.1 (mz_at hS (mzcL2_110 h4 (Nat.le_of_ble_eq_true rfl)) (mzcS2_110 h4)) h5 ?_
        exact g_iret rfl (hr _ hC)
      · have hp := hp.2 h6
        exact ht _ _ h6 hC
    · have hp := hp.2 h7
      exact ht _ _ h7 hC
  · have hp := hp.2 h8
    exact ht _ _ h8 hC
theorem cs_321 (hd : 2 ≤ d) (hS : mz_extR S 232) (hR : mz_rok R 232)  (v1 : Int32) (v2 : Int32) (N : mz_N) (hp : cp_321_0 v1 v2 N) (h1000 : t < 1000) (h0 : (cf_321_0 v1 v2 N).1 = 0 → Q (.inl (some (.int ((cf_321_0 v1 v2 N).2)))) (mz_k S R N b t)) (h1 : ¬ (cf_321_0 v1 v2 N).1 = 0 → Q (.inr (((cf_321_0 v1 v2 N).1) - 1)) (mz_k S R N b (t + 1))) : mz_Ed (mz_X0 L xs) d 321 [.ref 0, .int v1, .int v2] (mz_k S R N b t) Q :=
  by
  refine g_in mzq_321 (Nat.le_of_ble_eq_true rfl) (Nat.le_of_ble_eq_true rfl) (Nat.le_trans (Nat.le_of_ble_eq_true rfl) hd) ?_
  refine g_weak ?_ (cg_321_0 (d := d - 1) (by omega) hS hR v1 v2 N (C0 := fun z => (z.1 = 0 → Q (.inl (some (.int z.2))) (mz_k S R N b t)) ∧ (¬ z.1 = 0 → Q (.inr (z.1 - 1)) (mz_k S R N b (t + 1)))) (fun _ h => h.1 rfl) (fun c _ hc h => h.2 hc) h1000 hp ⟨h0, h1⟩)
  exact ⟨rfl, rfl, rfl, trivial⟩
/-! 320 KeptHouseLaw.log (LKeptHouse;II[J)I -/
theorem ms_320_0 : mz_sf mk_320 0 = mk_320 := mz_sf_zero _
theorem ms_320_15 : mz_sf mk_320 15 = mt_320_15 := mz_sf_add ms_320_0 (t := 15) rfl rfl
theorem ms_320_19 : mz_sf mk_320 19 = mt_320_19 := mz_sf_add ms_320_15 (t := 4) rfl rfl
theorem ms_320_21 : mz_sf mk_320 21 = mt_320_21 := mz_sf_add ms_320_19 (t := 2) rfl rfl
set_option maxRecDepth 100000 in
theorem mzq_320 : mz_PG0 320 = some (13, ⟨"KeptHouseLaw", "log", "(LKeptHouse;II[J)I"⟩, method_43_code, 5, some .int, [(0, 10, 13, 13), (0, 10, 17, 15)], mk_320, [(0, 13, 15), (1, 17, 19)]) := rfl
theorem cg_320_0 (hd : 2 ≤ d) (hS : mz_extR S 343) (hR : mz_rok R 343)  (v1 : Int32) (v2 : Int32) (N : mz_N) (t : Nat) {C0 : (Int32 × mz_N × Nat) → Prop} (hr : ∀ (w : Int32) (N2 : mz_N) (t2 : Nat), C0 (w, N2, t2) → Q (.inl (some (.int w))) (mz_k S R N2 b t2)) (hp : cp_320_0 v1 v2 N t) (hC : C0 (cf_320_0 v1 v2 N t)) : mz_G (d, mz_X0 L xs, some .int, [(0, 13, 15), (1, 17, 19)], mk_320, 5, Q) 0 mk_320 [(0, .ref 0), (1, .int v1), (2, .int v2), (3, .ref 342)] [] true (mz_k S R N b t) := by
  unfold cf_320_0 at hC
  unfold cp_320_0 at hp
  refine g_aload_n rfl (g_iconst mzi_0 (g_aload_n rfl (g_iload_n rfl (g_iload_n rfl ?_))))
  obtain ⟨h1, hp⟩ := hp
  obtain ⟨h1000, hp⟩ := hp
  refine g_v3vh (Nat.le_of_ble_eq_true rfl) (mz_at hS (Nat.le_of_ble_eq_true rfl) mzcS_0) (fun _ hz0 hz1 => cs_321 (Nat.le_trans (Nat.le_of_ble_eq_true rfl) hd) (hS.le (Nat.le_of_ble_eq_true rfl)) (hR.le (Nat.le_of_ble_eq_true rfl))  v1 v2 N h1 h1000 hz0 hz1) hC (fun h2 hC => ?_) (fun h2 hC => ?_)
  · have hp := hp.1 h2
    refine g_i2l (g_last (mz_at hS (Nat.le_of_ble_eq_true rfl) mzcS_342) (mz_ibd (by decide)) (g_goto (tg := 21) rfl ms_320_21 (g_iconst mzi_0 ?_)))
    exact g_iret rfl (hr _ _ _ hC)
  · have hp := hp.2 h2
    refine mz_cs hC (fun h6 hC => ?_) (fun h6 hC => ?_)
    · have hp := hp.1 h6
      refine ⟨(0, 13, 15), (by rw [h6]; rfl), ?_⟩
      show mz_G (d, mz_X0 L xs, some .int, [(0, 13, 15), (1, 17, 19)], mk_320, 5, Q) 15 (mz_sf mk_320 15) [] [] false (mz_k S R N b (t + 1))
      rw [ms_320_15]
      refine g_iconst mzi_1 ?_
      exact g_iret rfl (hr _ _ _ hC)
    · have hp := hp.2 h6
      have h4 := hp
      refine ⟨(1, 17, 19), (by rw [h4]; rfl), ?_⟩
      show mz_G (d, mz_X0 L xs, some .int, [(0, 13, 15), (1, 17, 19)], mk_320, 5, Q) 19 (mz_sf mk_320 19) [] [] false (mz_k S R N b (t + 1))
      rw [ms_320_19]
      refine g_iconst mzi_2 ?_
      exact g_iret rfl (hr _ _ _ hC)
theorem cs_320 (hd : 3 ≤ d) (hS : mz_extR S 343) (hR : mz_rok R 343)  (v1 : Int32) (v2 : Int32) (N : mz_N) (t : Nat) (hp : cp_320_0 v1 v2 N t) (hq : Q (.inl (some (.int ((cf_320_0 v1 v2 N t).1)))) (mz_k S R ((cf_320_0 v1 v2 N t).2.1) b ((cf_320_0 v1 v2 N t).2.2))) : mz_Ed (mz_X0 L xs) d 320 [.ref 0, .int v1, .int v2, .ref 342] (mz_k S R N b t) Q :=
  by
  refine g_in mzq_320 (Nat.le_of_ble_eq_true rfl) (Nat.le_of_ble_eq_true rfl) (Nat.le_trans (Nat.le_of_ble_eq_true rfl) hd) ?_
  refine g_weak ?_ (cg_320_0 (d := d - 1) (by omega) hS hR v1 v2 N t (C0 := fun z => Q (.inl (some (.int z.1))) (mz_k S R z.2.1 b z.2.2)) (fun _ _ _ h => h) hp hq)
  exact ⟨rfl, rfl, rfl, rfl, trivial⟩
/-! 324 KeptHouse$Watch.isPoint (II)Z -/
theorem ms_324_0 : mz_sf mk_324 0 = mk_324 := mz_sf_zero _
theorem ms_324_14 : mz_sf mk_324 14 = mt_324_14 := mz_sf_add ms_324_0 (t := 14) rfl rfl
theorem ms_324_16 : mz_sf mk_324 16 = mt_324_16 := mz_sf_add ms_324_14 (t := 2) rfl rfl
theorem ms_324_31 : mz_sf mk_324 31 = mt_324_31 := mz_sf_add ms_324_16 (t := 15) rfl rfl
theorem ms_324_35 : mz_sf mk_324 35 = mt_324_35 := mz_sf_add ms_324_31 (t := 4) rfl rfl
theorem ms_324_50 : mz_sf mk_324 50 = mt_324_50 := mz_sf_add ms_324_35 (t := 15) rfl rfl
theorem ms_324_54 : mz_sf mk_324 54 = mt_324_54 := mz_sf_add ms_324_50 (t := 4) rfl rfl
theorem ms_324_62 : mz_sf mk_324 62 = mt_324_62 := mz_sf_add ms_324_54 (t := 8) rfl rfl
theorem ms_324_63 : mz_sf mk_324 63 = mt_324_63 := mz_sf_add ms_324_62 (t := 1) rfl rfl
set_option maxRecDepth 100000 in
theorem mzq_324 : mz_PG0 324 = some (10, ⟨"KeptHouse$Watch", "isPoint", "(II)Z"⟩, prog_12_method_5_code, 2, some .boolean, [], mk_324, []) := rfl
theorem cg_324_0 (hd : 0 ≤ d) (hS : mz_extR S 232) (hR : mz_rok R 232)  (v0 : Int32) (v1 : Int32) {C0 : (Bool) → Prop} (hr : ∀ (w : Bool), C0 w → Q (.inl (some (.int (mz_b01 w)))) (mz_k S R N b t)) (hp : cp_324_0 v0 v1) (hC : C0 (cf_324_0 v0 v1)) : mz_G (d, mz_X0 L xs, some .boolean, [], mk_324, 2, Q) 0 mk_324 [(0, .int v0), (1, .int v1)] [] true (mz_k S R N b t) := by
  unfold cf_324_0 at hC
  unfold cp_324_0 at hp
  refine g_iload_n rfl ?_
  refine g_iflt (tg := 14) rfl ms_324_14 hC (fun h1 hC => ?_) (fun h1 hC => ?_)
  · refine g_iconst mzi_0 ?_
    exact g_zret (z := false) rfl (hr _ hC)
  · refine g_iload_n rfl (g_bipush mzb_6 ?_)
    refine g_icgt (tg := 14) rfl ms_324_14 hC (fun h2 hC => ?_) (fun h2 hC => ?_)
    · refine g_iconst mzi_0 ?_
      exact g_zret (z := false) rfl (hr _ hC)
    · refine g_iload_n rfl ?_
      refine g_ifge (tg := 16) rfl ms_324_16 hC (fun h3 hC => ?_) (fun h3 hC => ?_)
      · refine g_iconst mzi_0 ?_
        exact g_zret (z := false) rfl (hr _ hC)
      · refine g_iload_n rfl (g_iconst mzi_2 ?_)
        refine g_icge (tg := 35) rfl ms_324_35 hC (fun h4 hC => ?_) (fun h4 hC => ?_)
        · refine g_iload_n rfl (g_bipush mzb_10 ?_)
          refine g_icge (tg := 31) rfl ms_324_31 hC (fun h5 hC => ?_) (fun h5 hC => ?_)
          · refine g_iconst mzi_1 (g_goto (tg := 63) rfl ms_324_63 ?_)
            exact g_zret (z := true) rfl (hr _ hC)
          · refine g_iconst mzi_0 (g_goto (tg := 63) rfl ms_324_63 ?_)
            exact g_zret (z := false) rfl (hr _ hC)
        · refine g_iload_n rfl (g_iconst mzi_2 ?_)
          refine g_icne (tg := 54) rfl ms_324_54 hC (fun h6 hC => ?_) (fun h6 hC => ?_)
          · refine g_iload_n rfl (g_bipush mzb_11 ?_)
            refine g_icge (tg := 50) rfl ms_324_50 hC (fun h7 hC => ?_) (fun h7 hC => ?_)
            · refine g_iconst mzi_1 (g_goto (tg := 63) rfl ms_324_63 ?_)
              exact g_zret (z := true) rfl (hr _ hC)
            · refine g_iconst mzi_0 (g_goto (tg := 63) rfl ms_324_63 ?_)
              exact g_zret (z := false) rfl (hr _ hC)
          · refine g_iload_n rfl ?_
            refine g_ifne (tg := 62) rfl ms_324_62 hC (fun h8 hC => ?_) (fun h8 hC => ?_)
            · refine g_iconst mzi_1 (g_goto (tg := 63) rfl ms_324_63 ?_)
              exact g_zret (z := true) rfl (hr _ hC)
            · refine g_iconst mzi_0 ?_
              exact g_zret (z := false) rfl (hr _ hC)
theorem cs_324 (hd : 1 ≤ d) (hS : mz_extR S 232) (hR : mz_rok R 232)  (v0 : Int32) (v1 : Int32) (hp : cp_324_0 v0 v1) (hq : Q (.inl (some (.int (mz_b01 (cf_324_0 v0 v1))))) (mz_k S R N b t)) : mz_Ed (mz_X0 L xs) d 324 [.int v0, .int v1] (mz_k S R N b t) Q :=
  by
  refine g_in mzq_324 (Nat.le_of_ble_eq_true rfl) (Nat.le_of_ble_eq_true rfl) (Nat.le_trans (Nat.le_of_ble_eq_true rfl) hd) ?_
  refine g_weak ?_ (cg_324_0 (d := d - 1) (by omega) hS hR v0 v1 (C0 := fun z => Q (.inl (some (.int (mz_b01 z)))) (mz_k S R N b t)) (fun _ h => h) hp hq)
  exact ⟨rfl, rfl, trivial⟩
/-! 323 KeptHouse.point (III)I -/
theorem ms_323_0 : mz_sf mk_323 0 = mk_323 := mz_sf_zero _
theorem ms_323_29 : mz_sf mk_323 29 = mt_323_29 := mz_sf_add ms_323_0 (t := 29) rfl rfl
set_option maxRecDepth 100000 in
theorem mzq_323 : mz_PG0 323 = some (11, ⟨"KeptHouse", "point", "(III)I"⟩, prog_1_method_48_code, 4, some .int, [], mk_323, []) := rfl
theorem cg_323_0 (hd : 5 ≤ d) (hS : mz_extR S 232) (hR : mz_rok R 232)  (v1 : Int32) (v2 : Int32) (v3 : Int32) (N : mz_N) (b : Bool) {C0 : (Nat × Int32 × mz_N) → Prop} (hr : ∀ (w : Int32) (N2 : mz_N), C0 (0, w, N2) → Q (.inl (some (.int w))) (mz_k S R N2 b t)) (ht : ∀ (c : Nat) (w : Int32) (N2 : mz_N), ¬ c = 0 → C0 (c, w, N2) → Q (.inr (c - 1)) (mz_k S R N2 b (t + 1))) (h1000 : t < 1000) (hp : cp_323_0 v1 v2 v3 N b) (hC : C0 (cf_323_0 v1 v2 v3 N b)) : mz_G (d, mz_X0 L xs, some .int, [], mk_323, 4, Q) 0 mk_323 [(0, .ref 0), (1, .int v1), (2, .int v2), (3, .int v3)] [] true (mz_k S R N b t) := by
  unfold cf_323_0 at hC
  unfold cp_323_0 at hp
  refine g_aload_n rfl ?_
  obtain ⟨h1, hp⟩ := hp
  refine g_v1nt (Nat.le_of_ble_eq_true rfl) (mz_at hS (Nat.le_of_ble_eq_true rfl) mzcS_0) rfl (fun _ hz0 hz1 => cs_104 (Nat.le_trans (Nat.le_of_ble_eq_true rfl) hd) (hS.le (Nat.le_of_ble_eq_true rfl)) (hR.le (Nat.le_of_ble_eq_true rfl))  N h1 h1000 hz0 hz1) hC (fun h9 hC => ?_) (fun h9 hC => ?_)
  · have hp := hp.1 h9
    refine g_iload_n rfl (g_iconst mzi_0 (g_bipush mzb_7 ?_))
    obtain ⟨h2, hp⟩ := hp
    refine g_s3nt (Nat.le_of_ble_eq_true rfl) rfl (fun _ hz0 hz1 => cs_105 (Nat.le_trans (Nat.le_of_ble_eq_true rfl) hd) (hS.le (Nat.le_of_ble_eq_true rfl)) (hR.le (Nat.le_of_ble_eq_true rfl))  v1 0 7 h2 h1000 hz0 hz1) hC (fun h8 hC => ?_) (fun h8 hC => ?_)
    · have hp := hp.1 h8
      refine g_iload_n rfl (g_iload_n rfl ?_)
      refine g_s2v (Nat.le_of_ble_eq_true rfl) (fun _ hq => cs_324 (Nat.le_trans (Nat.le_of_ble_eq_true rfl) hd) (hS.le (Nat.le_of_ble_eq_true rfl)) (hR.le (Nat.le_of_ble_eq_true rfl))  v2 v3 trivial hq) ?_
      refine g_s1nt (Nat.le_of_ble_eq_true rfl) rfl (fun _ hz0 hz1 => cs_142 (Nat.le_trans (Nat.le_of_ble_eq_true rfl) hd) (hS.le (Nat.le_of_ble_eq_true rfl)) (hR.le (Nat.le_of_ble_eq_true rfl))  (cf_324_0 v2 v3) trivial h1000 hz0 hz1) hC (fun h7 hC => ?_) (fun h7 hC => ?_)
      · have hp := hp.1 h7
        refine g_aload_n rfl (g_getR (mz_at hS (Nat.le_of_ble_eq_true rfl) mzcS_0) mzcf_11_5 (mz_rb hR (Nat.le_of_ble_eq_true rfl) rfl mzcR_0_5) (g_iload_n rfl (g_iload_n rfl (g_iload_n rfl ?_))))
        obtain ⟨h5, hp⟩ := hp
        refine g_v4n (Nat.le_of_ble_eq_true rfl) (mz_at hS (Nat.le_of_ble_eq_true rfl) mzcS_81) (fun _ hq => cs_72 (Nat.le_trans (Nat.le_of_ble_eq_true rfl) hd) (hS.le (Nat.le_of_ble_eq_true rfl)) (hR.le (Nat.le_of_ble_eq_true rfl))  v1 v2 v3 N h5 hq) (g_aload_n rfl (g_bipush mzb_15 (g_iload_n rfl (g_iconst mzi_0 ?_))))
        have h6 := hp
        refine g_v4v (Nat.le_of_ble_eq_true rfl) (mz_at hS (Nat.le_of_ble_eq_true rfl) mzcS_0) (fun _ hq => cs_171 (Nat.le_trans (Nat.le_of_ble_eq_true rfl) hd) (hS.le (Nat.le_of_ble_eq_true rfl)) (hR.le (Nat.le_of_ble_eq_true rfl))  15 v1 0 (cf_72_0 v1 v2 v3 N) b h6 hq) ?_
        exact g_iret rfl (hr _ _ hC)
      · have hp := hp.2 h7
        exact ht _ _ _ h7 hC
    · have hp := hp.2 h8
      exact ht _ _ _ h8 hC
  · have hp := hp.2 h9
    exact ht _ _ _ h9 hC
theorem cs_323 (hd : 6 ≤ d) (hS : mz_extR S 232) (hR : mz_rok R 232)  (v1 : Int32) (v2 : Int32) (v3 : Int32) (N : mz_N) (b : Bool) (hp : cp_323_0 v1 v2 v3 N b) (h1000 : t < 1000) (h0 : (cf_323_0 v1 v2 v3 N b).1 = 0 → Q (.inl (some (.int ((cf_323_0 v1 v2 v3 N b).2.1)))) (mz_k S R ((cf_323_0 v1 v2 v3 N b).2.2) b t)) (h1 : ¬ (cf_323_0 v1 v2 v3 N b).1 = 0 → Q (.inr (((cf_323_0 v1 v2 v3 N b).1) - 1)) (mz_k S R ((cf_323_0 v1 v2 v3 N b).2.2) b (t + 1))) : mz_Ed (mz_X0 L xs) d 323 [.ref 0, .int v1, .int v2, .int v3] (mz_k S R N b t) Q :=
  by
  refine g_in mzq_323 (Nat.le_of_ble_eq_true rfl) (Nat.le_of_ble_eq_true rfl) (Nat.le_trans (Nat.le_of_ble_eq_true rfl) hd) ?_
  refine g_weak ?_ (cg_323_0 (d := d - 1) (by omega) hS hR v1 v2 v3 N b (C0 := fun z => (z.1 = 0 → Q (.inl (some (.int z.2.1))) (mz_k S R z.2.2 b t)) ∧ (¬ z.1 = 0 → Q (.inr (z.1 - 1)) (mz_k S R z.2.2 b (t + 1)))) (fun _ _ h => h.1 rfl) (fun c _ _ hc h => h.2 hc) h1000 hp ⟨h0, h1⟩)
  exact ⟨rfl, rfl, rfl, rfl, trivial⟩
/-! 322 KeptHouseLaw.point (LKeptHouse;III[J)I -/
theorem ms_322_0 : mz_sf mk_322 0 = mk_322 := mz_sf_zero _
theorem ms_322_17 : mz_sf mk_322 17 = mt_322_17 := mz_sf_add ms_322_0 (t := 17) rfl rfl
theorem ms_322_21 : mz_sf mk_322 21 = mt_322_21 := mz_sf_add ms_322_17 (t := 4) rfl rfl
theorem ms_322_23 : mz_sf mk_322 23 = mt_322_23 := mz_sf_add ms_322_21 (t := 2) rfl rfl
set_option maxRecDepth 100000 in
theorem mzq_322 : mz_PG0 322 = some (13, ⟨"KeptHouseLaw", "point", "(LKeptHouse;III[J)I"⟩, method_44_code, 6, some .int, [(0, 12, 15, 13), (0, 12, 19, 15)], mk_322, [(0, 15, 17), (1, 19, 21)]) := rfl
theorem cg_322_23 (hd : 6 ≤ d) (hS : mz_extR S 343) (hR : mz_rok R 343)  (N : mz_N) (b : Bool) (t : Nat) {C0 : (Int32 × mz_N × Nat) → Prop} (hr : ∀ (w : Int32) (N2 : mz_N) (t2 : Nat), C0 (w, N2, t2) → Q (.inl (some (.int w))) (mz_k S R N2 b t2)) (hp : cp_322_23 N b t) (hC : C0 (cf_322_23 N b t)) : mz_G (d, mz_X0 L xs, some .int, [(0, 15, 17), (1, 19, 21)], mk_322, 6, Q) 23 mt_322_23 [] [] false (mz_k S R N b t) := by
  unfold cf_322_23 at hC
  unfold cp_322_23 at hp
  refine g_iconst mzi_0 ?_
  exact g_iret rfl (hr _ _ _ hC)
theorem cg_322_0 (hd : 6 ≤ d) (hS : mz_extR S 343) (hR : mz_rok R 343)  (v1 : Int32) (v2 : Int32) (v3 : Int32) (N : mz_N) (b : Bool) (t : Nat) {C0 : (Int32 × mz_N × Nat) → Prop} (hr : ∀ (w : Int32) (N2 : mz_N) (t2 : Nat), C0 (w, N2, t2) → Q (.inl (some (.int w))) (mz_k S R N2 b t2)) (hp : cp_322_0 v1 v2 v3 N b t) (hC : C0 (cf_322_0 v1 v2 v3 N b t)) : mz_G (d, mz_X0 L xs, some .int, [(0, 15, 17), (1, 19, 21)], mk_322, 6, Q) 0 mk_322 [(0, .ref 0), (1, .int v1), (2, .int v2), (3, .int v3), (4, .ref 342)] [] true (mz_k S R N b t) := by
  unfold cf_322_0 at hC
  unfold cp_322_0 at hp
  refine g_aload rfl (g_iconst mzi_0 (g_aload_n rfl (g_iload_n rfl (g_iload_n rfl (g_iload_n rfl ?_)))))
  obtain ⟨h1, hp⟩ := hp
  obtain ⟨h1000, hp⟩ := hp
  refine g_v4vh (Nat.le_of_ble_eq_true rfl) (mz_at hS (Nat.le_of_ble_eq_true rfl) mzcS_0) (fun _ hz0 hz1 => cs_323 (Nat.le_trans (Nat.le_of_ble_eq_true rfl) hd) (hS.le (Nat.le_of_ble_eq_true rfl)) (hR.le (Nat.le_of_ble_eq_true rfl))  v1 v2 v3 N b h1 h1000 hz0 hz1) hC (fun h2 hC => ?_) (fun h2 hC => ?_)
  · have hp := hp.1 h2
    refine g_i2l (g_last (mz_at hS (Nat.le_of_ble_eq_true rfl) mzcS_342) (mz_ibd (by decide)) (g_goto (tg := 23) rfl ms_322_23 ?_))
    refine g_weak ?_ (g_cl (cg_322_23 hd hS hR (mz_wL ((cf_323_0 v1 v2 v3 N b).2.2) 342 0 (((cf_323_0 v1 v2 v3 N b).2.1).toInt64)) b t hr hp hC))
    exact trivial
  · have hp := hp.2 h2
    refine mz_cs hC (fun h6 hC => ?_) (fun h6 hC => ?_)
    · have hp := hp.1 h6
      refine ⟨(0, 15, 17), (by rw [h6]; rfl), ?_⟩
      show mz_G (d, mz_X0 L xs, some .int, [(0, 15, 17), (1, 19, 21)], mk_322, 6, Q) 17 (mz_sf mk_322 17) [] [] false (mz_k S R ((cf_323_0 v1 v2 v3 N b).2.2) b (t + 1))
      rw [ms_322_17]
      refine g_iconst mzi_1 ?_
      exact g_iret rfl (hr _ _ _ hC)
    · have hp := hp.2 h6
      have h4 := hp
      refine ⟨(1, 19, 21), (by rw [h4]; rfl), ?_⟩
      show mz_G (d, mz_X0 L xs, some .int, [(0, 15, 17), (1, 19, 21)], mk_322, 6, Q) 21 (mz_sf mk_322 21) [] [] false (mz_k S R ((cf_323_0 v1 v2 v3 N b).2.2) b (t + 1))
      rw [ms_322_21]
      refine g_iconst mzi_2 ?_
      exact g_iret rfl (hr _ _ _ hC)
theorem cs_322 (hd : 7 ≤ d) (hS : mz_extR S 343) (hR : mz_rok R 343)  (v1 : Int32) (v2 : Int32) (v3 : Int32) (N : mz_N) (b : Bool) (t : Nat) (hp : cp_322_0 v1 v2 v3 N b t) (hq : Q (.inl (some (.int ((cf_322_0 v1 v2 v3 N b t).1)))) (mz_k S R ((cf_322_0 v1 v2 v3 N b t).2.1) b ((cf_322_0 v1 v2 v3 N b t).2.2))) : mz_Ed (mz_X0 L xs) d 322 [.ref 0, .int v1, .int v2, .int v3, .ref 342] (mz_k S R N b t) Q :=
  by
  refine g_in mzq_322 (Nat.le_of_ble_eq_true rfl) (Nat.le_of_ble_eq_true rfl) (Nat.le_trans (Nat.le_of_ble_eq_true rfl) hd) ?_
  refine g_weak ?_ (cg_322_0 (d := d - 1) (by omega) hS hR v1 v2 v3 N b t (C0 := fun z => Q (.inl (some (.int z.1))) (mz_k S R z.2.1 b z.2.2)) (fun _ _ _ h => h) hp hq)
  exact ⟨rfl, rfl, rfl, rfl, rfl, trivial⟩
end Fn15
