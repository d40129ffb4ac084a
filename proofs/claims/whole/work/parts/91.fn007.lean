/-! THE FUNCTIONS: written by program: each method comes to its function. -/
section Fn7
variable {L : Nat} {xs : Nat → Int32} {d : Nat} {S : mz_S} {R : Nat → Nat → Option Nat} {Q : mz_Q} {N : mz_N} {b : Bool} {t : Nat}
/-! 150 KeptHouse.draft (III)I -/
theorem ms_150_0 : mz_sf mk_150 0 = mk_150 := mz_sf_zero _
theorem ms_150_23 : mz_sf mk_150 23 = mt_150_23 := mz_sf_add ms_150_0 (t := 23) rfl rfl
set_option maxRecDepth 100000 in
theorem mzq_150 : mz_PG0 150 = some (11, ⟨"KeptHouse", "draft", "(III)I"⟩, prog_1_method_13_code, 4, some .int, [], mk_150, []) := rfl
theorem cg_150_0 (hd : 1 ≤ d) (hS : mz_extR S 232) (hR : mz_rok R 232)  (v1 : Int32) (v2 : Int32) (v3 : Int32) (N : mz_N) {C0 : (Nat × Int32) → Prop} (hr : ∀ (w : Int32), C0 (0, w) → Q (.inl (some (.int w))) (mz_k S R N b t)) (ht : ∀ (c : Nat) (w : Int32), ¬ c = 0 → C0 (c, w) → Q (.inr (c - 1)) (mz_k S R N b (t + 1))) (h1000 : t < 1000) (hp : cp_150_0 v1 v2 v3 N) (hC : C0 (cf_150_0 v1 v2 v3 N)) : mz_G (d, mz_X0 L xs, some .int, [], mk_150, 4, Q) 0 mk_150 [(0, .ref 0), (1, .int v1), (2, .int v2), (3, .int v3)] [] true (mz_k S R N b t) := by
  unfold cf_150_0 at hC
  unfold cp_150_0 at hp
  refine g_aload_n rfl ?_
  obtain ⟨h1, hp⟩ := hp
  refine g_v1nt (Nat.le_of_ble_eq_true rfl) (mz_at hS (Nat.le_of_ble_eq_true rfl) mzcS_0) rfl (fun _ hz0 hz1 => cs_104 (Nat.le_trans (Nat.le_of_ble_eq_true rfl) hd) (hS.le (Nat.le_of_ble_eq_true rfl)) (hR.le (Nat.le_of_ble_eq_true rfl))  N h1 h1000 hz0 hz1) hC (fun h10 hC => ?_) (fun h10 hC => ?_)
  · have hp := hp.1 h10
    refine g_iload_n rfl (g_iconst mzi_0 (g_iconst mzi_2 ?_))
    obtain ⟨h2, hp⟩ := hp
    refine g_s3nt (Nat.le_of_ble_eq_true rfl) rfl (fun _ hz0 hz1 => cs_105 (Nat.le_trans (Nat.le_of_ble_eq_true rfl) hd) (hS.le (Nat.le_of_ble_eq_true rfl)) (hR.le (Nat.le_of_ble_eq_true rfl))  v1 0 2 h2 h1000 hz0 hz1) hC (fun h9 hC => ?_) (fun h9 hC => ?_)
    · have hp := hp.1 h9
      refine g_iload_n rfl (g_iconst mzi_0 (g_iconst mzi_4 ?_))
      obtain ⟨h3, hp⟩ := hp
      refine g_s3nt (Nat.le_of_ble_eq_true rfl) rfl (fun _ hz0 hz1 => cs_105 (Nat.le_trans (Nat.le_of_ble_eq_true rfl) hd) (hS.le (Nat.le_of_ble_eq_true rfl)) (hR.le (Nat.le_of_ble_eq_true rfl))  v2 0 4 h3 h1000 hz0 hz1) hC (fun h8 hC => ?_) (fun h8 hC => ?_)
      · have hp := hp.1 h8
        refine g_iload_n rfl (g_iconst mzi_0 (g_bipush mzb_109 ?_))
        obtain ⟨h4, hp⟩ := hp
        refine g_s3nt (Nat.le_of_ble_eq_true rfl) rfl (fun _ hz0 hz1 => cs_105 (Nat.le_trans (Nat.le_of_ble_eq_true rfl) hd) (hS.le (Nat.le_of_ble_eq_true rfl)) (hR.le (Nat.le_of_ble_eq_true rfl))  v3 0 109 h4 h1000 hz0 hz1) hC (fun h7 hC => ?_) (fun h7 hC => ?_)
        · have hp := hp.1 h7
          refine g_aload_n rfl (g_getR (mz_at hS (Nat.le_of_ble_eq_true rfl) mzcS_0) mzcf_11_1 (mz_rb hR (Nat.le_of_ble_eq_true rfl) rfl mzcR_0_1) (g_getR (mz_at hS (Nat.le_of_ble_eq_true rfl) mzcS_2) mzcf_5_1 (mz_rb hR (Nat.le_of_ble_eq_true rfl) rfl mzcR_2_1) (g_iload_n rfl ?_)))
          obtain ⟨h5, hp⟩ := hp
          refine g_aald4 (mz_at hS (Nat.le_of_ble_eq_true rfl) mzcS_4) h5 (mz_rb hR (Nat.le_of_ble_eq_true rfl) rfl (mzcR2_4 h5)) (g_iload_n rfl (g_bipush mzb_110 (g_imul (g_iload_n rfl (g_iadd ?_)))))
          have h6 := hp
          refine g_iald hS.1 (mz_at hS (mzcL2_4 h5 (Nat.le_of_ble_eq_true rfl)) (mzcS2_4 h5)) h6 ?_
          exact g_iret rfl (hr _ hC)
        · have hp := hp.2 h7
          exact ht _ _ h7 hC
      · have hp := hp.2 h8
        exact ht _ _ h8 hC
    · have hp := hp.2 h9
      exact ht _ _ h9 hC
  · have hp := hp.2 h10
    exact ht _ _ h10 hC
theorem cs_150 (hd : 2 ≤ d) (hS : mz_extR S 232) (hR : mz_rok R 232)  (v1 : Int32) (v2 : Int32) (v3 : Int32) (N : mz_N) (hp : cp_150_0 v1 v2 v3 N) (h1000 : t < 1000) (h0 : (cf_150_0 v1 v2 v3 N).1 = 0 → Q (.inl (some (.int ((cf_150_0 v1 v2 v3 N).2)))) (mz_k S R N b t)) (h1 : ¬ (cf_150_0 v1 v2 v3 N).1 = 0 → Q (.inr (((cf_150_0 v1 v2 v3 N).1) - 1)) (mz_k S R N b (t + 1))) : mz_Ed (mz_X0 L xs) d 150 [.ref 0, .int v1, .int v2, .int v3] (mz_k S R N b t) Q :=
  by
  refine g_in mzq_150 (Nat.le_of_ble_eq_true rfl) (Nat.le_of_ble_eq_true rfl) (Nat.le_trans (Nat.le_of_ble_eq_true rfl) hd) ?_
  refine g_weak ?_ (cg_150_0 (d := d - 1) (by omega) hS hR v1 v2 v3 N (C0 := fun z => (z.1 = 0 → Q (.inl (some (.int z.2))) (mz_k S R N b t)) ∧ (¬ z.1 = 0 → Q (.inr (z.1 - 1)) (mz_k S R N b (t + 1)))) (fun _ h => h.1 rfl) (fun c _ hc h => h.2 hc) h1000 hp ⟨h0, h1⟩)
  exact ⟨rfl, rfl, rfl, rfl, trivial⟩
/-! 149 KeptHouseLaw.draft (LKeptHouse;III[J)I -/
theorem ms_149_0 : mz_sf mk_149 0 = mk_149 := mz_sf_zero _
theorem ms_149_17 : mz_sf mk_149 17 = mt_149_17 := mz_sf_add ms_149_0 (t := 17) rfl rfl
theorem ms_149_21 : mz_sf mk_149 21 = mt_149_21 := mz_sf_add ms_149_17 (t := 4) rfl rfl
theorem ms_149_23 : mz_sf mk_149 23 = mt_149_23 := mz_sf_add ms_149_21 (t := 2) rfl rfl
set_option maxRecDepth 100000 in
theorem mzq_149 : mz_PG0 149 = some (13, ⟨"KeptHouseLaw", "draft", "(LKeptHouse;III[J)I"⟩, method_9_code, 6, some .int, [(0, 12, 15, 13), (0, 12, 19, 15)], mk_149, [(0, 15, 17), (1, 19, 21)]) := rfl
theorem cg_149_0 (hd : 2 ≤ d) (hS : mz_extR S 343) (hR : mz_rok R 343)  (v1 : Int32) (v2 : Int32) (v3 : Int32) (N : mz_N) (t : Nat) {C0 : (Int32 × mz_N × Nat) → Prop} (hr : ∀ (w : Int32) (N2 : mz_N) (t2 : Nat), C0 (w, N2, t2) → Q (.inl (some (.int w))) (mz_k S R N2 b t2)) (hp : cp_149_0 v1 v2 v3 N t) (hC : C0 (cf_149_0 v1 v2 v3 N t)) : mz_G (d, mz_X0 L xs, some .int, [(0, 15, 17), (1, 19, 21)], mk_149, 6, Q) 0 mk_149 [(0, .ref 0), (1, .int v1), (2, .int v2), (3, .int v3), (4, .ref 342)] [] true (mz_k S R N b t) := by
  unfold cf_149_0 at hC
  unfold cp_149_0 at hp
  refine g_aload rfl (g_iconst mzi_0 (g_aload_n rfl (g_iload_n rfl (g_iload_n rfl (g_iload_n rfl ?_)))))
  obtain ⟨h1, hp⟩ := hp
  obtain ⟨h1000, hp⟩ := hp
  refine g_v4vh (Nat.le_of_ble_eq_true rfl) (mz_at hS (Nat.le_of_ble_eq_true rfl) mzcS_0) (fun _ hz0 hz1 => cs_150 (Nat.le_trans (Nat.le_of_ble_eq_true rfl) hd) (hS.le (Nat.le_of_ble_eq_true rfl)) (hR.le (Nat.le_of_ble_eq_true rfl))  v1 v2 v3 N h1 h1000 hz0 hz1) hC (fun h2 hC => ?_) (fun h2 hC => ?_)
  · have hp := hp.1 h2
    refine g_i2l (g_last (mz_at hS (Nat.le_of_ble_eq_true rfl) mzcS_342) (mz_ibd (by decide)) (g_goto (tg := 23) rfl ms_149_23 (g_iconst mzi_0 ?_)))
    exact g_iret rfl (hr _ _ _ hC)
  · have hp := hp.2 h2
    refine mz_cs hC (fun h6 hC => ?_) (fun h6 hC => ?_)
    · have hp := hp.1 h6
      refine ⟨(0, 15, 17), (by rw [h6]; rfl), ?_⟩
      show mz_G (d, mz_X0 L xs, some .int, [(0, 15, 17), (1, 19, 21)], mk_149, 6, Q) 17 (mz_sf mk_149 17) [] [] false (mz_k S R N b (t + 1))
      rw [ms_149_17]
      refine g_iconst mzi_1 ?_
      exact g_iret rfl (hr _ _ _ hC)
    · have hp := hp.2 h6
      have h4 := hp
      refine ⟨(1, 19, 21), (by rw [h4]; rfl), ?_⟩
      show mz_G (d, mz_X0 L xs, some .int, [(0, 15, 17), (1, 19, 21)], mk_149, 6, Q) 21 (mz_sf mk_149 21) [] [] false (mz_k S R N b (t + 1))
      rw [ms_149_21]
      refine g_iconst mzi_2 ?_
      exact g_iret rfl (hr _ _ _ hC)
theorem cs_149 (hd : 3 ≤ d) (hS : mz_extR S 343) (hR : mz_rok R 343)  (v1 : Int32) (v2 : Int32) (v3 : Int32) (N : mz_N) (t : Nat) (hp : cp_149_0 v1 v2 v3 N t) (hq : Q (.inl (some (.int ((cf_149_0 v1 v2 v3 N t).1)))) (mz_k S R ((cf_149_0 v1 v2 v3 N t).2.1) b ((cf_149_0 v1 v2 v3 N t).2.2))) : mz_Ed (mz_X0 L xs) d 149 [.ref 0, .int v1, .int v2, .int v3, .ref 342] (mz_k S R N b t) Q :=
  by
  refine g_in mzq_149 (Nat.le_of_ble_eq_true rfl) (Nat.le_of_ble_eq_true rfl) (Nat.le_trans (Nat.le_of_ble_eq_true rfl) hd) ?_
  refine g_weak ?_ (cg_149_0 (d := d - 1) (by omega) hS hR v1 v2 v3 N t (C0 := fun z => Q (.inl (some (.int z.1))) (mz_k S R z.2.1 b z.2.2)) (fun _ _ _ h => h) hp hq)
  exact ⟨rfl, rfl, rfl, rfl, rfl, trivial⟩
/-! 152 KeptHouse.version ()I -/
theorem ms_152_0 : mz_sf mk_152 0 = mk_152 := mz_sf_zero _
set_option maxRecDepth 100000 in
theorem mzq_152 : mz_PG0 152 = some (11, ⟨"KeptHouse", "version", "()I"⟩, prog_1_method_14_code, 1, some .int, [], mk_152, []) := rfl
theorem cg_152_0 (hd : 1 ≤ d) (hS : mz_extR S 232) (hR : mz_rok R 232)  (N : mz_N) {C0 : (Nat × Int32) → Prop} (hr : ∀ (w : Int32), C0 (0, w) → Q (.inl (some (.int w))) (mz_k S R N b t)) (ht : ∀ (c : Nat) (w : Int32), ¬ c = 0 → C0 (c, w) → Q (.inr (c - 1)) (mz_k S R N b (t + 1))) (h1000 : t < 1000) (hp : cp_152_0 N) (hC : C0 (cf_152_0 N)) : mz_G (d, mz_X0 L xs, some .int, [], mk_152, 1, Q) 0 mk_152 [(0, .ref 0)] [] true (mz_k S R N b t) := by
  unfold cf_152_0 at hC
  unfold cp_152_0 at hp
  refine g_aload_n rfl ?_
  have h1 := hp
  refine g_v1nt (Nat.le_of_ble_eq_true rfl) (mz_at hS (Nat.le_of_ble_eq_true rfl) mzcS_0) rfl (fun _ hz0 hz1 => cs_104 (Nat.le_trans (Nat.le_of_ble_eq_true rfl) hd) (hS.le (Nat.le_of_ble_eq_true rfl)) (hR.le (Nat.le_of_ble_eq_true rfl))  N h1 h1000 hz0 hz1) hC (fun h2 hC => ?_) (fun h2 hC => ?_)
  · refine g_aload_n rfl (g_getR (mz_at hS (Nat.le_of_ble_eq_true rfl) mzcS_0) mzcf_11_1 (mz_rb hR (Nat.le_of_ble_eq_true rfl) rfl mzcR_0_1) (g_getI (mz_at hS (Nat.le_of_ble_eq_true rfl) mzcS_2) mzcf_5_3 ?_))
    exact g_iret rfl (hr _ hC)
  · exact ht _ _ h2 hC
theorem cs_152 (hd : 2 ≤ d) (hS : mz_extR S 232) (hR : mz_rok R 232)  (N : mz_N) (hp : cp_152_0 N) (h1000 : t < 1000) (h0 : (cf_152_0 N).1 = 0 → Q (.inl (some (.int ((cf_152_0 N).2)))) (mz_k S R N b t)) (h1 : ¬ (cf_152_0 N).1 = 0 → Q (.inr (((cf_152_0 N).1) - 1)) (mz_k S R N b (t + 1))) : mz_Ed (mz_X0 L xs) d 152 [.ref 0] (mz_k S R N b t) Q :=
  by
  refine g_in mzq_152 (Nat.le_of_ble_eq_true rfl) (Nat.le_of_ble_eq_true rfl) (Nat.le_trans (Nat.le_of_ble_eq_true rfl) hd) ?_
  refine g_weak ?_ (cg_152_0 (d := d - 1) (by omega) hS hR N (C0 := fun z => (z.1 = 0 → Q (.inl (some (.int z.2))) (mz_k S R N b t)) ∧ (¬ z.1 = 0 → Q (.inr (z.1 - 1)) (mz_k S R N b (t + 1)))) (fun _ h => h.1 rfl) (fun c _ hc h => h.2 hc) h1000 hp ⟨h0, h1⟩)
  exact ⟨rfl, trivial⟩
/-! 151 KeptHouseLaw.version (LKeptHouse;[J)I -/
theorem ms_151_0 : mz_sf mk_151 0 = mk_151 := mz_sf_zero _
theorem ms_151_12 : mz_sf mk_151 12 = mt_151_12 := mz_sf_add ms_151_0 (t := 12) rfl rfl
theorem ms_151_14 : mz_sf mk_151 14 = mt_151_14 := mz_sf_add ms_151_12 (t := 2) rfl rfl
set_option maxRecDepth 100000 in
theorem mzq_151 : mz_PG0 151 = some (13, ⟨"KeptHouseLaw", "version", "(LKeptHouse;[J)I"⟩, method_10_code, 3, some .int, [(0, 8, 11, 15)], mk_151, [(1, 11, 12)]) := rfl
theorem cg_151_0 (hd : 2 ≤ d) (hS : mz_extR S 343) (hR : mz_rok R 343)  (N : mz_N) (t : Nat) {C0 : (Int32 × mz_N × Nat) → Prop} (hr : ∀ (w : Int32) (N2 : mz_N) (t2 : Nat), C0 (w, N2, t2) → Q (.inl (some (.int w))) (mz_k S R N2 b t2)) (hp : cp_151_0 N t) (hC : C0 (cf_151_0 N t)) : mz_G (d, mz_X0 L xs, some .int, [(1, 11, 12)], mk_151, 3, Q) 0 mk_151 [(0, .ref 0), (1, .ref 342)] [] true (mz_k S R N b t) := by
  unfold cf_151_0 at hC
  unfold cp_151_0 at hp
  refine g_aload_n rfl (g_iconst mzi_0 (g_aload_n rfl ?_))
  obtain ⟨h1, hp⟩ := hp
  obtain ⟨h1000, hp⟩ := hp
  refine g_v1vh (Nat.le_of_ble_eq_true rfl) (mz_at hS (Nat.le_of_ble_eq_true rfl) mzcS_0) (fun _ hz0 hz1 => cs_152 (Nat.le_trans (Nat.le_of_ble_eq_true rfl) hd) (hS.le (Nat.le_of_ble_eq_true rfl)) (hR.le (Nat.le_of_ble_eq_true rfl))  N h1 h1000 hz0 hz1) hC (fun h2 hC => ?_) (fun h2 hC => ?_)
  · have hp := hp.1 h2
    refine g_i2l (g_last (mz_at hS (Nat.le_of_ble_eq_true rfl) mzcS_342) (mz_ibd (by decide)) (g_goto (tg := 14) rfl ms_151_14 (g_iconst mzi_0 ?_)))
    exact g_iret rfl (hr _ _ _ hC)
  · have hp := hp.2 h2
    have h4 := hp
    refine ⟨(1, 11, 12), (by rw [h4]; rfl), ?_⟩
    show mz_G (d, mz_X0 L xs, some .int, [(1, 11, 12)], mk_151, 3, Q) 12 (mz_sf mk_151 12) [] [] false (mz_k S R N b (t + 1))
    rw [ms_151_12]
    refine g_iconst mzi_1 ?_
    exact g_iret rfl (hr _ _ _ hC)
theorem cs_151 (hd : 3 ≤ d) (hS : mz_extR S 343) (hR : mz_rok R 343)  (N : mz_N) (t : Nat) (hp : cp_151_0 N t) (hq : Q (.inl (some (.int ((cf_151_0 N t).1)))) (mz_k S R ((cf_151_0 N t).2.1) b ((cf_151_0 N t).2.2))) : mz_Ed (mz_X0 L xs) d 151 [.ref 0, .ref 342] (mz_k S R N b t) Q :=
  by
  refine g_in mzq_151 (Nat.le_of_ble_eq_true rfl) (Nat.le_of_ble_eq_true rfl) (Nat.le_trans (Nat.le_of_ble_eq_true rfl) hd) ?_
  refine g_weak ?_ (cg_151_0 (d := d - 1) (by omega) hS hR N t (C0 := fun z => Q (.inl (some (.int z.1))) (mz_k S R z.2.1 b z.2.2)) (fun _ _ _ h => h) hp hq)
  exact ⟨rfl, rfl, trivial⟩
/-! 154 KeptHouse.spaces ()I -/
theorem ms_154_0 : mz_sf mk_154 0 = mk_154 := mz_sf_zero _
set_option maxRecDepth 100000 in
theorem mzq_154 : mz_PG0 154 = some (11, ⟨"KeptHouse", "spaces", "()I"⟩, prog_1_method_15_code, 1, some .int, [], mk_154, []) := rfl
theorem cg_154_0 (hd : 1 ≤ d) (hS : mz_extR S 232) (hR : mz_rok R 232)  (N : mz_N) {C0 : (Nat × Int32) → Prop} (hr : ∀ (w : Int32), C0 (0, w) → Q (.inl (some (.int w))) (mz_k S R N b t)) (ht : ∀ (c : Nat) (w : Int32), ¬ c = 0 → C0 (c, w) → Q (.inr (c - 1)) (mz_k S R N b (t + 1))) (h1000 : t < 1000) (hp : cp_154_0 N) (hC : C0 (cf_154_0 N)) : mz_G (d, mz_X0 L xs, some .int, [], mk_154, 1, Q) 0 mk_154 [(0, .ref 0)] [] true (mz_k S R N b t) := by
  unfold cf_154_0 at hC
  unfold cp_154_0 at hp
  refine g_aload_n rfl ?_
  have h1 := hp
  refine g_v1nt (Nat.le_of_ble_eq_true rfl) (mz_at hS (Nat.le_of_ble_eq_true rfl) mzcS_0) rfl (fun _ hz0 hz1 => cs_104 (Nat.le_trans (Nat.le_of_ble_eq_true rfl) hd) (hS.le (Nat.le_of_ble_eq_true rfl)) (hR.le (Nat.le_of_ble_eq_true rfl))  N h1 h1000 hz0 hz1) hC (fun h2 hC => ?_) (fun h2 hC => ?_)
  · refine g_aload_n rfl (g_getR (mz_at hS (Nat.le_of_ble_eq_true rfl) mzcS_0) mzcf_11_1 (mz_rb hR (Nat.le_of_ble_eq_true rfl) rfl mzcR_0_1) (g_getI (mz_at hS (Nat.le_of_ble_eq_true rfl) mzcS_2) mzcf_5_7 ?_))
    exact g_iret rfl (hr _ hC)
  · exact ht _ _ h2 hC
theorem cs_154 (hd : 2 ≤ d) (hS : mz_extR S 232) (hR : mz_rok R 232)  (N : mz_N) (hp : cp_154_0 N) (h1000 : t < 1000) (h0 : (cf_154_0 N).1 = 0 → Q (.inl (some (.int ((cf_154_0 N).2)))) (mz_k S R N b t)) (h1 : ¬ (cf_154_0 N).1 = 0 → Q (.inr (((cf_154_0 N).1) - 1)) (mz_k S R N b (t + 1))) : mz_Ed (mz_X0 L xs) d 154 [.ref 0] (mz_k S R N b t) Q :=
  by
  refine g_in mzq_154 (Nat.le_of_ble_eq_true rfl) (Nat.le_of_ble_eq_true rfl) (Nat.le_trans (Nat.le_of_ble_eq_true rfl) hd) ?_
  refine g_weak ?_ (cg_154_0 (d := d - 1) (by omega) hS hR N (C0 := fun z => (z.1 = 0 → Q (.inl (some (.int z.2))) (mz_k S R N b t)) ∧ (¬ z.1 = 0 → Q (.inr (z.1 - 1)) (mz_k S R N b (t + 1)))) (fun _ h => h.1 rfl) (fun c _ hc h => h.2 hc) h1000 hp ⟨h0, h1⟩)
  exact ⟨rfl, trivial⟩
/-! 153 KeptHouseLaw.spaces (LKeptHouse;[J)I -/
theorem ms_153_0 : mz_sf mk_153 0 = mk_153 := mz_sf_zero _
theorem ms_153_12 : mz_sf mk_153 12 = mt_153_12 := mz_sf_add ms_153_0 (t := 12) rfl rfl
theorem ms_153_14 : mz_sf mk_153 14 = mt_153_14 := mz_sf_add ms_153_12 (t := 2) rfl rfl
set_option maxRecDepth 100000 in
theorem mzq_153 : mz_PG0 153 = some (13, ⟨"KeptHouseLaw", "spaces", "(LKeptHouse;[J)I"⟩, method_11_code, 3, some .int, [(0, 8, 11, 15)], mk_153, [(1, 11, 12)]) := rfl
theorem cg_153_0 (hd : 2 ≤ d) (hS : mz_extR S 343) (hR : mz_rok R 343)  (N : mz_N) (t : Nat) {C0 : (Int32 × mz_N × Nat) → Prop} (hr : ∀ (w : Int32) (N2 : mz_N) (t2 : Nat), C0 (w, N2, t2) → Q (.inl (some (.int w))) (mz_k S R N2 b t2)) (hp : cp_153_0 N t) (hC : C0 (cf_153_0 N t)) : mz_G (d, mz_X0 L xs, some .int, [(1, 11, 12)], mk_153, 3, Q) 0 mk_153 [(0, .ref 0), (1, .ref 342)] [] true (mz_k S R N b t) := by
  unfold cf_153_0 at hC
  unfold cp_153_0 at hp
  refine g_aload_n rfl (g_iconst mzi_0 (g_aload_n rfl ?_))
  obtain ⟨h1, hp⟩ := hp
  obtain ⟨h1000, hp⟩ := hp
  refine g_v1vh (Nat.le_of_ble_eq_true rfl) (mz_at hS (Nat.le_of_ble_eq_true rfl) mzcS_0) (fun _ hz0 hz1 => cs_154 (Nat.le_trans (Nat.le_of_ble_eq_true rfl) hd) (hS.le (Nat.le_of_ble_eq_true rfl)) (hR.le (Nat.le_of_ble_eq_true rfl))  N h1 h1000 hz0 hz1) hC (fun h2 hC => ?_) (fun h2 hC => ?_)
  · have hp := hp.1 h2
    refine g_i2l (g_last (mz_at hS (Nat.le_of_ble_eq_true rfl) mzcS_342) (mz_ibd (by decide)) (g_goto (tg := 14) rfl ms_153_14 (g_iconst mzi_0 ?_)))
    exact g_iret rfl (hr _ _ _ hC)
  · have hp := hp.2 h2
    have h4 := hp
    refine ⟨(1, 11, 12), (by rw [h4]; rfl), ?_⟩
    show mz_G (d, mz_X0 L xs, some .int, [(1, 11, 12)], mk_153, 3, Q) 12 (mz_sf mk_153 12) [] [] false (mz_k S R N b (t + 1))
    rw [ms_153_12]
    refine g_iconst mzi_1 ?_
    exact g_iret rfl (hr _ _ _ hC)
theorem cs_153 (hd : 3 ≤ d) (hS : mz_extR S 343) (hR : mz_rok R 343)  (N : mz_N) (t : Nat) (hp : cp_153_0 N t) (hq : Q (.inl (some (.int ((cf_153_0 N t).1)))) (mz_k S R ((cf_153_0 N t).2.1) b ((cf_153_0 N t).2.2))) : mz_Ed (mz_X0 L xs) d 153 [.ref 0, .ref 342] (mz_k S R N b t) Q :=
  by
  refine g_in mzq_153 (Nat.le_of_ble_eq_true rfl) (Nat.le_of_ble_eq_true rfl) (Nat.le_trans (Nat.le_of_ble_eq_true rfl) hd) ?_
  refine g_weak ?_ (cg_153_0 (d := d - 1) (by omega) hS hR N t (C0 := fun z => Q (.inl (some (.int z.1))) (mz_k S R z.2.1 b z.2.2)) (fun _ _ _ h => h) hp hq)
  exact ⟨rfl, rfl, trivial⟩
/-! 158 KeptHouse$Climate.sumOf (LKeptHouse$Plan;[JI)J -/
theorem ms_158_0 : mz_sf mk_158 0 = mk_158 := mz_sf_zero _
theorem ms_158_17 : mz_sf mk_158 17 = mt_158_17 := mz_sf_add ms_158_0 (t := 17) rfl rfl
theorem ms_158_47 : mz_sf mk_158 47 = mt_158_47 := mz_sf_add ms_158_17 (t := 30) rfl rfl
theorem ms_158_53 : mz_sf mk_158 53 = mt_158_53 := mz_sf_add ms_158_47 (t := 6) rfl rfl
set_option maxRecDepth 100000 in
theorem mzq_158 : mz_PG0 158 = some (3, ⟨"KeptHouse$Climate", "sumOf", "(LKeptHouse$Plan;[JI)J"⟩, prog_5_method_3_code, 8, some .long, [], mk_158, []) := rfl
theorem cb_158_17 (hd : 0 ≤ d) (hS : mz_extR S 232) (hR : mz_rok R 232) (a2 : Nat) (hs2 : S[a2]? = some (1, 240, [])) (v3 : Int32) (v6 : Int32) (N : mz_N) (s : Int64 × Int32) {C0 : (Int64) → Prop} (hr : ∀ (w : Int64), C0 w → Q (.inl (some (.long w))) (mz_k S R N b t)) {C1 : ((Int64 × Int32) ⊕ (Int64)) → Prop} (hc1 : ∀ s2, C1 (.inl s2) → mz_G (d, mz_X0 L xs, some .long, [], mk_158, 8, Q) 17 mt_158_17 [(1, .ref 2), (2, .ref a2), (3, .int v3), (4, .long s2.1), (6, .int v6), (7, .int s2.2)] [] false (mz_k S R N b t)) (hx1 : ∀ z, C1 (.inr z) → C0 z) (hp : cd_158_17 a2 v3 v6 N s) (hC : C1 (cq_158_17 a2 v3 v6 N s)) : mz_G (d, mz_X0 L xs, some .long, [], mk_158, 8, Q) 17 mt_158_17 [(1, .ref 2), (2, .ref a2), (3, .int v3), (4, .long s.1), (6, .int v6), (7, .int s.2)] [] false (mz_k S R N b t) := by
  unfold cq_158_17 at hC
  unfold cd_158_17 at hp
  refine g_iload rfl (g_aload_n rfl (g_getR (mz_at hS (Nat.le_of_ble_eq_true rfl) mzcS_2) mzcf_5_9 (mz_rb hR (Nat.le_of_ble_eq_true rfl) rfl mzcR_2_9) (g_iconst mzi_2 (g_aald4 (m := 19) (mz_at hS (Nat.le_of_ble_eq_true rfl) mzcS_16) (mz_ibd (by decide)) (mz_rb hR (Nat.le_of_ble_eq_true rfl) rfl mzcRr_16_2) (g_iload_n rfl ?_)))))
  obtain ⟨h1, hp⟩ := hp
  refine g_iald hS.1 (mz_at hS (Nat.le_of_ble_eq_true rfl) mzcS_19) h1 ?_
  refine g_icge (tg := 53) rfl ms_158_53 hC (fun h2 hC => ?_) (fun h2 hC => ?_)
  · have hp := hp.1 h2
    refine g_lload rfl (g_aload_n rfl (g_aload_n rfl (g_getR (mz_at hS (Nat.le_of_ble_eq_true rfl) mzcS_2) mzcf_5_10 (mz_rb hR (Nat.le_of_ble_eq_true rfl) rfl mzcR_2_10) (g_iload rfl (g_iload rfl (g_iadd ?_))))))
    obtain ⟨h3, hp⟩ := hp
    refine g_iald hS.1 (mz_at hS (Nat.le_of_ble_eq_true rfl) mzcS_30) h3 ?_
    have h4 := hp
    refine g_lald hs2 h4 (g_ladd (g_lstore (Nat.le_of_ble_eq_true rfl) rfl rfl (g_iinc rfl mzi_1 (Nat.le_of_ble_eq_true rfl) rfl (g_goto (tg := 17) rfl ms_158_17 ?_))))
    refine g_weak ?_ (g_cl (hc1 ((s.1 + (mz_gL N a2 (mz_gI N 30 (v6 + s.2)))), (s.2 + 1)) hC))
    exact ⟨rfl, rfl, rfl, rfl, rfl, rfl, trivial⟩
  · have hp := hp.2 h2
    refine g_lload rfl ?_
    exact g_lret rfl (hr _ (hx1 _ hC))
theorem cg_158_17 (hd : 0 ≤ d) (hS : mz_extR S 232) (hR : mz_rok R 232) (a2 : Nat) (hs2 : S[a2]? = some (1, 240, [])) (v3 : Int32) (v4 : Int64) (v6 : Int32) (v7 : Int32) (N : mz_N) {C0 : (Int64) → Prop} (hr : ∀ (w : Int64), C0 w → Q (.inl (some (.long w))) (mz_k S R N b t)) (hp : cp_158_17 a2 v3 v4 v6 v7 N) (hC : C0 (cf_158_17 a2 v3 v4 v6 v7 N)) : mz_G (d, mz_X0 L xs, some .long, [], mk_158, 8, Q) 17 mt_158_17 [(1, .ref 2), (2, .ref a2), (3, .int v3), (4, .long v4), (6, .int v6), (7, .int v7)] [] false (mz_k S R N b t) := by
  obtain ⟨n, hn⟩ := hp
  exact g_loop (G := fun s => mz_G (d, mz_X0 L xs, some .long, [], mk_158, 8, Q) 17 mt_158_17 [(1, .ref 2), (2, .ref a2), (3, .int v3), (4, .long s.1), (6, .int v6), (7, .int s.2)] [] false (mz_k S R N b t)) (C := C0) (fun C2 hc hx s hP hC => cb_158_17 hd hS hR a2 hs2 v3 v6 N s hr hc hx hP hC) n (v4, v7) hn hC
theorem cg_158_0 (hd : 0 ≤ d) (hS : mz_extR S 232) (hR : mz_rok R 232) (a2 : Nat) (hs2 : S[a2]? = some (1, 240, [])) (v3 : Int32) (N : mz_N) {C0 : (Int64) → Prop} (hr : ∀ (w : Int64), C0 w → Q (.inl (some (.long w))) (mz_k S R N b t)) (hp : cp_158_0 a2 v3 N) (hC : C0 (cf_158_0 a2 v3 N)) : mz_G (d, mz_X0 L xs, some .long, [], mk_158, 8, Q) 0 mk_158 [(0, .ref 65), (1, .ref 2), (2, .ref a2), (3, .int v3)] [] true (mz_k S R N b t) := by
  unfold cf_158_0 at hC
  unfold cp_158_0 at hp
  refine g_lconst mzl_0 (g_lstore (Nat.le_of_ble_eq_true rfl) rfl rfl (g_aload_n rfl (g_getR (mz_at hS (Nat.le_of_ble_eq_true rfl) mzcS_2) mzcf_5_9 (mz_rb hR (Nat.le_of_ble_eq_true rfl) rfl mzcR_2_9) (g_bipush mzb_11 (g_aald4 (m := 28) (mz_at hS (Nat.le_of_ble_eq_true rfl) mzcS_16) (mz_ibd (by decide)) (mz_rb hR (Nat.le_of_ble_eq_true rfl) rfl mzcRr_16_11) (g_iload_n rfl ?_))))))
  obtain ⟨h1, hp⟩ := hp
  refine g_iald hS.1 (mz_at hS (Nat.le_of_ble_eq_true rfl) mzcS_28) h1 (g_istore (Nat.le_of_ble_eq_true rfl) rfl (g_iconst mzi_0 (g_istore (Nat.le_of_ble_eq_true rfl) rfl ?_)))
  refine g_weak ?_ (g_cl (cg_158_17 hd hS hR a2 hs2 v3 0 (mz_gI N 28 v3) 0 N hr hp hC))
  exact ⟨rfl, rfl, rfl, rfl, rfl, rfl, trivial⟩
theorem cs_158 (hd : 1 ≤ d) (hS : mz_extR S 232) (hR : mz_rok R 232) (a2 : Nat) (hs2 : S[a2]? = some (1, 240, [])) (v3 : Int32) (N : mz_N) (hp : cp_158_0 a2 v3 N) (hq : Q (.inl (some (.long (cf_158_0 a2 v3 N)))) (mz_k S R N b t)) : mz_Ed (mz_X0 L xs) d 158 [.ref 65, .ref 2, .ref a2, .int v3] (mz_k S R N b t) Q :=
  by
  refine g_in mzq_158 (Nat.le_of_ble_eq_true rfl) (Nat.le_of_ble_eq_true rfl) (Nat.le_trans (Nat.le_of_ble_eq_true rfl) hd) ?_
  refine g_weak ?_ (cg_158_0 (d := d - 1) (by omega) hS hR a2 hs2 v3 N (C0 := fun z => Q (.inl (some (.long z))) (mz_k S R N b t)) (fun _ h => h) hp hq)
  exact ⟨rfl, rfl, rfl, rfl, trivial⟩
/-! 160 java/lang/Math.floorDiv (JJ)J -/
theorem ms_160_0 : mz_sf mk_160 0 = mk_160 := mz_sf_zero _
theorem ms_160_22 : mz_sf mk_160 22 = mt_160_22 := mz_sf_add ms_160_0 (t := 22) rfl rfl
theorem ms_160_27 : mz_sf mk_160 27 = mt_160_27 := mz_sf_add ms_160_22 (t := 5) rfl rfl
set_option maxRecDepth 100000 in
theorem mzq_160 : mz_PG0 160 = some (15, ⟨"java/lang/Math", "floorDiv", "(JJ)J"⟩, prog_22_method_49_code, 6, some .long, [], mk_160, []) := rfl
theorem cg_160_0 (hd : 0 ≤ d) (hS : mz_extR S 0) (hR : mz_rok R 0)  (v0 : Int64) (v2 : Int64) {C0 : (Int64) → Prop} (hr : ∀ (w : Int64), C0 w → Q (.inl (some (.long w))) (mz_k S R N b t)) (hp : cp_160_0 v0 v2) (hC : C0 (cf_160_0 v0 v2)) : mz_G (d, mz_X0 L xs, some .long, [], mk_160, 6, Q) 0 mk_160 [(0, .long v0), (2, .long v2)] [] true (mz_k S R N b t) := by
  unfold cf_160_0 at hC
  unfold cp_160_0 at hp
  refine g_lload_n rfl (g_lload_n rfl ?_)
  have h1 := hp
  refine g_ldiv h1 (g_lstore (Nat.le_of_ble_eq_true rfl) rfl rfl (g_lload_n rfl (g_lload_n rfl (g_lxor (g_lconst mzl_0 (g_lcmp ?_))))))
  refine g_lge (tg := 27) rfl ms_160_27 hC (fun h2 hC => ?_) (fun h2 hC => ?_)
  · refine g_lload rfl (g_lload_n rfl (g_lmul (g_lload_n rfl (g_lcmp ?_))))
    refine g_leq (tg := 27) rfl ms_160_27 hC (fun h3 hC => ?_) (fun h3 hC => ?_)
    · refine g_lload rfl ?_
      exact g_lret rfl (hr _ hC)
    · refine g_lload rfl (g_lconst mzl_1 (g_lsub ?_))
      exact g_lret rfl (hr _ hC)
  · refine g_lload rfl ?_
    exact g_lret rfl (hr _ hC)
theorem cs_160 (hd : 1 ≤ d) (hS : mz_extR S 0) (hR : mz_rok R 0)  (v0 : Int64) (v2 : Int64) (hp : cp_160_0 v0 v2) (hq : Q (.inl (some (.long (cf_160_0 v0 v2)))) (mz_k S R N b t)) : mz_Ed (mz_X0 L xs) d 160 [.long v0, .long v2] (mz_k S R N b t) Q :=
  by
  refine g_in mzq_160 (Nat.le_of_ble_eq_true rfl) (Nat.le_of_ble_eq_true rfl) (Nat.le_trans (Nat.le_of_ble_eq_true rfl) hd) ?_
  refine g_weak ?_ (cg_160_0 (d := d - 1) (by omega) hS hR v0 v2 (C0 := fun z => Q (.inl (some (.long z))) (mz_k S R N b t)) (fun _ h => h) hp hq)
  exact ⟨rfl, rfl, trivial⟩
/-! 159 KeptHouse$Climate.perCells (JII)J -/
theorem ms_159_0 : mz_sf mk_159 0 = mk_159 := mz_sf_zero _
theorem ms_159_18 : mz_sf mk_159 18 = mt_159_18 := mz_sf_add ms_159_0 (t := 18) rfl rfl
theorem ms_159_19 : mz_sf mk_159 19 = mt_159_19 := mz_sf_add ms_159_18 (t := 1) rfl rfl
set_option maxRecDepth 100000 in
theorem mzq_159 : mz_PG0 159 = some (3, ⟨"KeptHouse$Climate", "perCells", "(JII)J"⟩, prog_5_method_4_code, 4, some .long, [], mk_159, []) := rfl
theorem cg_159_0 (hd : 1 ≤ d) (hS : mz_extR S 232) (hR : mz_rok R 232)  (v0 : Int64) (v2 : Int32) (v3 : Int32) {C0 : (Int64) → Prop} (hr : ∀ (w : Int64), C0 w → Q (.inl (some (.long w))) (mz_k S R N b t)) (hp : cp_159_0 v0 v2 v3) (hC : C0 (cf_159_0 v0 v2 v3)) : mz_G (d, mz_X0 L xs, some .long, [], mk_159, 4, Q) 0 mk_159 [(0, .long v0), (2, .int v2), (3, .int v3)] [] true (mz_k S R N b t) := by
  unfold cf_159_0 at hC
  unfold cp_159_0 at hp
  refine g_iload_n rfl (g_iload_n rfl (g_imul ?_))
  refine g_ifle (tg := 18) rfl ms_159_18 hC (fun h1 hC => ?_) (fun h1 hC => ?_)
  · have hp := hp.1 h1
    refine g_lload_n rfl (g_iload_n rfl (g_i2l (g_iload_n rfl (g_i2l (g_lmul ?_)))))
    have h2 := hp
    refine g_s2v (Nat.le_of_ble_eq_true rfl) (fun _ hq => cs_160 (Nat.le_trans (Nat.le_of_ble_eq_true rfl) hd) (hS.le (Nat.le_of_ble_eq_true rfl)) (hR.le (Nat.le_of_ble_eq_true rfl))  v0 (v2.toInt64 * v3.toInt64) h2 hq) (g_goto (tg := 19) rfl ms_159_19 ?_)
    exact g_lret rfl (hr _ hC)
  · have hp := hp.2 h1
    refine g_lconst mzl_0 ?_
    exact g_lret rfl (hr _ hC)
theorem cs_159 (hd : 2 ≤ d) (hS : mz_extR S 232) (hR : mz_rok R 232)  (v0 : Int64) (v2 : Int32) (v3 : Int32) (hp : cp_159_0 v0 v2 v3) (hq : Q (.inl (some (.long (cf_159_0 v0 v2 v3)))) (mz_k S R N b t)) : mz_Ed (mz_X0 L xs) d 159 [.long v0, .int v2, .int v3] (mz_k S R N b t) Q :=
  by
  refine g_in mzq_159 (Nat.le_of_ble_eq_true rfl) (Nat.le_of_ble_eq_true rfl) (Nat.le_trans (Nat.le_of_ble_eq_true rfl) hd) ?_
  refine g_weak ?_ (cg_159_0 (d := d - 1) (by omega) hS hR v0 v2 v3 (C0 := fun z => Q (.inl (some (.long z))) (mz_k S R N b t)) (fun _ h => h) hp hq)
  exact ⟨rfl, rfl, rfl, trivial⟩
/-! 157 KeptHouse$Climate.warmthOf (LKeptHouse$Plan;I)J -/
theorem ms_157_0 : mz_sf mk_157 0 = mk_157 := mz_sf_zero _
set_option maxRecDepth 100000 in
theorem mzq_157 : mz_PG0 157 = some (3, ⟨"KeptHouse$Climate", "warmthOf", "(LKeptHouse$Plan;I)J"⟩, prog_5_method_5_code, 3, some .long, [], mk_157, []) := rfl
theorem cg_157_0 (hd : 2 ≤ d) (hS : mz_extR S 232) (hR : mz_rok R 232)  (v2 : Int32) (N : mz_N) {C0 : (Int64) → Prop} (hr : ∀ (w : Int64), C0 w → Q (.inl (some (.long w))) (mz_k S R N b t)) (hp : cp_157_0 v2 N) (hC : C0 (cf_157_0 v2 N)) : mz_G (d, mz_X0 L xs, some .long, [], mk_157, 3, Q) 0 mk_157 [(0, .ref 65), (1, .ref 2), (2, .int v2)] [] true (mz_k S R N b t) := by
  unfold cf_157_0 at hC
  unfold cp_157_0 at hp
  refine g_aload_n rfl (g_aload_n rfl (g_aload_n rfl (g_getR (mz_at hS (Nat.le_of_ble_eq_true rfl) mzcS_65) mzcf_3_2 (mz_rb hR (Nat.le_of_ble_eq_true rfl) rfl mzcR_65_2) (g_iload_n rfl ?_))))
  obtain ⟨h1, hp⟩ := hp
  refine g_v4v (Nat.le_of_ble_eq_true rfl) (mz_at hS (Nat.le_of_ble_eq_true rfl) mzcS_65) (fun _ hq => cs_158 (Nat.le_trans (Nat.le_of_ble_eq_true rfl) hd) (hS.le (Nat.le_of_ble_eq_true rfl)) (hR.le (Nat.le_of_ble_eq_true rfl)) 68 (mz_at hS (Nat.le_of_ble_eq_true rfl) mzcS_68) v2 N h1 hq) (g_bipush mzb_100 (g_aload_n rfl (g_getR (mz_at hS (Nat.le_of_ble_eq_true rfl) mzcS_2) mzcf_5_9 (mz_rb hR (Nat.le_of_ble_eq_true rfl) rfl mzcR_2_9) (g_iconst mzi_2 (g_aald4 (m := 19) (mz_at hS (Nat.le_of_ble_eq_true rfl) mzcS_16) (mz_ibd (by decide)) (mz_rb hR (Nat.le_of_ble_eq_true rfl) rfl mzcRr_16_2) (g_iload_n rfl ?_))))))
  obtain ⟨h2, hp⟩ := hp
  refine g_iald hS.1 (mz_at hS (Nat.le_of_ble_eq_true rfl) mzcS_19) h2 ?_
  have h3 := hp
  refine g_s3v (Nat.le_of_ble_eq_true rfl) (fun _ hq => cs_159 (Nat.le_trans (Nat.le_of_ble_eq_true rfl) hd) (hS.le (Nat.le_of_ble_eq_true rfl)) (hR.le (Nat.le_of_ble_eq_true rfl))  (cf_158_0 68 v2 N) 100 (mz_gI N 19 v2) h3 hq) ?_
  exact g_lret rfl (hr _ hC)
theorem cs_157 (hd : 3 ≤ d) (hS : mz_extR S 232) (hR : mz_rok R 232)  (v2 : Int32) (N : mz_N) (hp : cp_157_0 v2 N) (hq : Q (.inl (some (.long (cf_157_0 v2 N)))) (mz_k S R N b t)) : mz_Ed (mz_X0 L xs) d 157 [.ref 65, .ref 2, .int v2] (mz_k S R N b t) Q :=
  by
  refine g_in mzq_157 (Nat.le_of_ble_eq_true rfl) (Nat.le_of_ble_eq_true rfl) (Nat.le_trans (Nat.le_of_ble_eq_true rfl) hd) ?_
  refine g_weak ?_ (cg_157_0 (d := d - 1) (by omega) hS hR v2 N (C0 := fun z => Q (.inl (some (.long z))) (mz_k S R N b t)) (fun _ h => h) hp hq)
  exact ⟨rfl, rfl, rfl, trivial⟩
/-! 156 KeptHouse.space (II)I -/
theorem ms_156_0 : mz_sf mk_156 0 = mk_156 := mz_sf_zero _
theorem ms_156_25 : mz_sf mk_156 25 = mt_156_25 := mz_sf_add ms_156_0 (t := 25) rfl rfl
theorem ms_156_47 : mz_sf mk_156 47 = mt_156_47 := mz_sf_add ms_156_25 (t := 22) rfl rfl
theorem ms_156_58 : mz_sf mk_156 58 = mt_156_58 := mz_sf_add ms_156_47 (t := 11) rfl rfl
set_option maxRecDepth 100000 in
theorem mzq_156 : mz_PG0 156 = some (11, ⟨"KeptHouse", "space", "(II)I"⟩, prog_1_method_16_code, 3, some .int, [], mk_156, []) := rfl
theorem cg_156_0 (hd : 3 ≤ d) (hS : mz_extR S 232) (hR : mz_rok R 232)  (v1 : Int32) (v2 : Int32) (N : mz_N) {C0 : (Nat × Int32) → Prop} (hr : ∀ (w : Int32), C0 (0, w) → Q (.inl (some (.int w))) (mz_k S R N b t)) (ht : ∀ (c : Nat) (w : Int32), ¬ c = 0 → C0 (c, w) → Q (.inr (c - 1)) (mz_k S R N b (t + 1))) (h1000 : t < 1000) (hp : cp_156_0 v1 v2 N) (hC : C0 (cf_156_0 v1 v2 N)) : mz_G (d, mz_X0 L xs, some .int, [], mk_156, 3, Q) 0 mk_156 [(0, .ref 0), (1, .int v1), (2, .int v2)] [] true (mz_k S R N b t) := by
  unfold cf_156_0 at hC
  unfold cp_156_0 at hp
  refine g_aload_n rfl ?_
  obtain ⟨h1, hp⟩ := hp
  refine g_v1nt (Nat.le_of_ble_eq_true rfl) (mz_at hS (Nat.le_of_ble_eq_true rfl) mzcS_0) rfl (fun _ hz0 hz1 => cs_104 (Nat.le_trans (Nat.le_of_ble_eq_true rfl) hd) (hS.le (Nat.le_of_ble_eq_true rfl)) (hR.le (Nat.le_of_ble_eq_true rfl))  N h1 h1000 hz0 hz1) hC (fun h10 hC => ?_) (fun h10 hC => ?_)
  · have hp := hp.1 h10
    refine g_iload_n rfl (g_iconst mzi_0 (g_aload_n rfl (g_getR (mz_at hS (Nat.le_of_ble_eq_true rfl) mzcS_0) mzcf_11_1 (mz_rb hR (Nat.le_of_ble_eq_true rfl) rfl mzcR_0_1) (g_getI (mz_at hS (Nat.le_of_ble_eq_true rfl) mzcS_2) mzcf_5_7 (g_iconst mzi_1 (g_isub ?_))))))
    obtain ⟨h2, hp⟩ := hp
    refine g_s3nt (Nat.le_of_ble_eq_true rfl) rfl (fun _ hz0 hz1 => cs_105 (Nat.le_trans (Nat.le_of_ble_eq_true rfl) hd) (hS.le (Nat.le_of_ble_eq_true rfl)) (hR.le (Nat.le_of_ble_eq_true rfl))  v1 0 ((N.1 2 7) - 1) h2 h1000 hz0 hz1) hC (fun h9 hC => ?_) (fun h9 hC => ?_)
    · have hp := hp.1 h9
      refine g_iload_n rfl (g_iconst mzi_0 (g_bipush mzb_6 ?_))
      obtain ⟨h3, hp⟩ := hp
      refine g_s3nt (Nat.le_of_ble_eq_true rfl) rfl (fun _ hz0 hz1 => cs_105 (Nat.le_trans (Nat.le_of_ble_eq_true rfl) hd) (hS.le (Nat.le_of_ble_eq_true rfl)) (hR.le (Nat.le_of_ble_eq_true rfl))  v2 0 6 h3 h1000 hz0 hz1) hC (fun h8 hC => ?_) (fun h8 hC => ?_)
      · have hp := hp.1 h8
        refine g_iload_n rfl (g_bipush mzb_6 ?_)
        refine g_icne (tg := 47) rfl ms_156_47 hC (fun h4 hC => ?_) (fun h4 hC => ?_)
        · have hp := hp.1 h4
          refine g_aload_n rfl (g_getR (mz_at hS (Nat.le_of_ble_eq_true rfl) mzcS_0) mzcf_11_4 (mz_rb hR (Nat.le_of_ble_eq_true rfl) rfl mzcR_0_4) (g_aload_n rfl (g_getR (mz_at hS (Nat.le_of_ble_eq_true rfl) mzcS_0) mzcf_11_1 (mz_rb hR (Nat.le_of_ble_eq_true rfl) rfl mzcR_0_1) (g_iload_n rfl ?_))))
          have h5 := hp
          refine g_v3v (Nat.le_of_ble_eq_true rfl) (mz_at hS (Nat.le_of_ble_eq_true rfl) mzcS_65) (fun _ hq => cs_157 (Nat.le_trans (Nat.le_of_ble_eq_true rfl) hd) (hS.le (Nat.le_of_ble_eq_true rfl)) (hR.le (Nat.le_of_ble_eq_true rfl))  v1 N h5 hq) (g_l2i (g_goto (tg := 58) rfl ms_156_58 ?_))
          exact g_iret rfl (hr _ hC)
        · have hp := hp.2 h4
          refine g_aload_n rfl (g_getR (mz_at hS (Nat.le_of_ble_eq_true rfl) mzcS_0) mzcf_11_1 (mz_rb hR (Nat.le_of_ble_eq_true rfl) rfl mzcR_0_1) (g_getR (mz_at hS (Nat.le_of_ble_eq_true rfl) mzcS_2) mzcf_5_9 (mz_rb hR (Nat.le_of_ble_eq_true rfl) rfl mzcR_2_9) (g_iload_n rfl ?_)))
          obtain ⟨h6, hp⟩ := hp
          refine g_aald4 (mz_at hS (Nat.le_of_ble_eq_true rfl) mzcS_16) h6 (mz_rb hR (Nat.le_of_ble_eq_true rfl) rfl (mzcR2_16 h6)) (g_iload_n rfl ?_)
          have h7 := hp
          refine g_iald hS.1 (mz_at hS (mzcL2_16 h6 (Nat.le_of_ble_eq_true rfl)) (mzcS2_16 h6)) h7 ?_
          exact g_iret rfl (hr _ hC)
      · have hp := hp.2 h8
        exact ht _ _ h8 hC
    · have hp := hp.2 h9
      exact ht _ _ h9 hC
  · have hp := hp.2 h10
    exact ht _ _ h10 hC
theorem cs_156 (hd : 4 ≤ d) (hS : mz_extR S 232) (hR : mz_rok R 232)  (v1 : Int32) (v2 : Int32) (N : mz_N) (hp : cp_156_0 v1 v2 N) (h1000 : t < 1000) (h0 : (cf_156_0 v1 v2 N).1 = 0 → Q (.inl (some (.int ((cf_156_0 v1 v2 N).2)))) (mz_k S R N b t)) (h1 : ¬ (cf_156_0 v1 v2 N).1 = 0 → Q (.inr (((cf_156_0 v1 v2 N).1) - 1)) (mz_k S R N b (t + 1))) : mz_Ed (mz_X0 L xs) d 156 [.ref 0, .int v1, .int v2] (mz_k S R N b t) Q :=
  by
  refine g_in mzq_156 (Nat.le_of_ble_eq_true rfl) (Nat.le_of_ble_eq_true rfl) (Nat.le_trans (Nat.le_of_ble_eq_true rfl) hd) ?_
  refine g_weak ?_ (cg_156_0 (d := d - 1) (by omega) hS hR v1 v2 N (C0 := fun z => (z.1 = 0 → Q (.inl (some (.int z.2))) (mz_k S R N b t)) ∧ (¬ z.1 = 0 → Q (.inr (z.1 - 1)) (mz_k S R N b (t + 1)))) (fun _ h => h.1 rfl) (fun c _ hc h => h.2 hc) h1000 hp ⟨h0, h1⟩)
  exact ⟨rfl, rfl, rfl, trivial⟩
/-! 155 KeptHouseLaw.space (LKeptHouse;II[J)I -/
theorem ms_155_0 : mz_sf mk_155 0 = mk_155 := mz_sf_zero _
theorem ms_155_15 : mz_sf mk_155 15 = mt_155_15 := mz_sf_add ms_155_0 (t := 15) rfl rfl
theorem ms_155_19 : mz_sf mk_155 19 = mt_155_19 := mz_sf_add ms_155_15 (t := 4) rfl rfl
theorem ms_155_21 : mz_sf mk_155 21 = mt_155_21 := mz_sf_add ms_155_19 (t := 2) rfl rfl
set_option maxRecDepth 100000 in
theorem mzq_155 : mz_PG0 155 = some (13, ⟨"KeptHouseLaw", "space", "(LKeptHouse;II[J)I"⟩, method_12_code, 5, some .int, [(0, 10, 13, 13), (0, 10, 17, 15)], mk_155, [(0, 13, 15), (1, 17, 19)]) := rfl
theorem cg_155_0 (hd : 4 ≤ d) (hS : mz_extR S 343) (hR : mz_rok R 343)  (v1 : Int32) (v2 : Int32) (N : mz_N) (t : Nat) {C0 : (Int32 × mz_N × Nat) → Prop} (hr : ∀ (w : Int32) (N2 : mz_N) (t2 : Nat), C0 (w, N2, t2) → Q (.inl (some (.int w))) (mz_k S R N2 b t2)) (hp : cp_155_0 v1 v2 N t) (hC : C0 (cf_155_0 v1 v2 N t)) : mz_G (d, mz_X0 L xs, some .int, [(0, 13, 15), (1, 17, 19)], mk_155, 5, Q) 0 mk_155 [(0, .ref 0), (1, .int v1), (2, .int v2), (3, .ref 342)] [] true (mz_k S R N b t) := by
  unfold cf_155_0 at hC
  unfold cp_155_0 at hp
  refine g_aload_n rfl (g_iconst mzi_0 (g_aload_n rfl (g_iload_n rfl (g_iload_n rfl ?_))))
  obtain ⟨h1, hp⟩ := hp
  obtain ⟨h1000, hp⟩ := hp
  refine g_v3vh (Nat.le_of_ble_eq_true rfl) (mz_at hS (Nat.le_of_ble_eq_true rfl) mzcS_0) (fun _ hz0 hz1 => cs_156 (Nat.le_trans (Nat.le_of_ble_eq_true rfl) hd) (hS.le (Nat.le_of_ble_eq_true rfl)) (hR.le (Nat.le_of_ble_eq_true rfl))  v1 v2 N h1 h1000 hz0 hz1) hC (fun h2 hC => ?_) (fun h2 hC => ?_)
  · have hp := hp.1 h2
    refine g_i2l (g_last (mz_at hS (Nat.le_of_ble_eq_true rfl) mzcS_342) (mz_ibd (by decide)) (g_goto (tg := 21) rfl ms_155_21 (g_iconst mzi_0 ?_)))
    exact g_iret rfl (hr _ _ _ hC)
  · have hp := hp.2 h2
    refine mz_cs hC (fun h6 hC => ?_) (fun h6 hC => ?_)
    · have hp := hp.1 h6
      refine ⟨(0, 13, 15), (by rw [h6]; rfl), ?_⟩
      show mz_G (d, mz_X0 L xs, some .int, [(0, 13, 15), (1, 17, 19)], mk_155, 5, Q) 15 (mz_sf mk_155 15) [] [] false (mz_k S R N b (t + 1))
      rw [ms_155_15]
      refine g_iconst mzi_1 ?_
      exact g_iret rfl (hr _ _ _ hC)
    · have hp := hp.2 h6
      have h4 := hp
      refine ⟨(1, 17, 19), (by rw [h4]; rfl), ?_⟩
      show mz_G (d, mz_X0 L xs, some .int, [(0, 13, 15), (1, 17, 19)], mk_155, 5, Q) 19 (mz_sf mk_155 19) [] [] false (mz_k S R N b (t + 1))
      rw [ms_155_19]
      refine g_iconst mzi_2 ?_
      exact g_iret rfl (hr _ _ _ hC)
theorem cs_155 (hd : 5 ≤ d) (hS : mz_extR S 343) (hR : mz_rok R 343)  (v1 : Int32) (v2 : Int32) (N : mz_N) (t : Nat) (hp : cp_155_0 v1 v2 N t) (hq : Q (.inl (some (.int ((cf_155_0 v1 v2 N t).1)))) (mz_k S R ((cf_155_0 v1 v2 N t).2.1) b ((cf_155_0 v1 v2 N t).2.2))) : mz_Ed (mz_X0 L xs) d 155 [.ref 0, .int v1, .int v2, .ref 342] (mz_k S R N b t) Q :=
  by
  refine g_in mzq_155 (Nat.le_of_ble_eq_true rfl) (Nat.le_of_ble_eq_true rfl) (Nat.le_trans (Nat.le_of_ble_eq_true rfl) hd) ?_
  refine g_weak ?_ (cg_155_0 (d := d - 1) (by omega) hS hR v1 v2 N t (C0 := fun z => Q (.inl (some (.int z.1))) (mz_k S R z.2.1 b z.2.2)) (fun _ _ _ h => h) hp hq)
  exact ⟨rfl, rfl, rfl, rfl, trivial⟩
/-! 162 KeptHouse.spaceAt (II)I -/
theorem ms_162_0 : mz_sf mk_162 0 = mk_162 := mz_sf_zero _
set_option maxRecDepth 100000 in
theorem mzq_162 : mz_PG0 162 = some (11, ⟨"KeptHouse", "spaceAt", "(II)I"⟩, prog_1_method_17_code, 3, some .int, [], mk_162, []) := rfl
theorem cg_162_0 (hd : 1 ≤ d) (hS : mz_extR S 232) (hR : mz_rok R 232)  (v1 : Int32) (v2 : Int32) (N : mz_N) {C0 : (Nat × Int32) → Prop} (hr : ∀ (w : Int32), C0 (0, w) → Q (.inl (some (.int w))) (mz_k S R N b t)) (ht : ∀ (c : Nat) (w : Int32), ¬ c = 0 → C0 (c, w) → Q (.inr (c - 1)) (mz_k S R N b (t + 1))) (h1000 : t < 1000) (hp : cp_162_0 v1 v2 N) (hC : C0 (cf_162_0 v1 v2 N)) : mz_G (d, mz_X0 L xs, some .int, [], mk_162, 3, Q) 0 mk_162 [(0, .ref 0), (1, .int v1), (2, .int v2)] [] true (mz_k S R N b t) := by
  unfold cf_162_0 at hC
  unfold cp_162_0 at hp
  refine g_aload_n rfl ?_
  obtain ⟨h1, hp⟩ := hp
  refine g_v1nt (Nat.le_of_ble_eq_true rfl) (mz_at hS (Nat.le_of_ble_eq_true rfl) mzcS_0) rfl (fun _ hz0 hz1 => cs_104 (Nat.le_trans (Nat.le_of_ble_eq_true rfl) hd) (hS.le (Nat.le_of_ble_eq_true rfl)) (hR.le (Nat.le_of_ble_eq_true rfl))  N h1 h1000 hz0 hz1) hC (fun h7 hC => ?_) (fun h7 hC => ?_)
  · have hp := hp.1 h7
    refine g_iload_n rfl (g_iconst mzi_0 (g_iconst mzi_4 ?_))
    obtain ⟨h2, hp⟩ := hp
    refine g_s3nt (Nat.le_of_ble_eq_true rfl) rfl (fun _ hz0 hz1 => cs_105 (Nat.le_trans (Nat.le_of_ble_eq_true rfl) hd) (hS.le (Nat.le_of_ble_eq_true rfl)) (hR.le (Nat.le_of_ble_eq_true rfl))  v1 0 4 h2 h1000 hz0 hz1) hC (fun h6 hC => ?_) (fun h6 hC => ?_)
    · have hp := hp.1 h6
      refine g_iload_n rfl (g_iconst mzi_0 (g_bipush mzb_47 ?_))
      obtain ⟨h3, hp⟩ := hp
      refine g_s3nt (Nat.le_of_ble_eq_true rfl) rfl (fun _ hz0 hz1 => cs_105 (Nat.le_trans (Nat.le_of_ble_eq_true rfl) hd) (hS.le (Nat.le_of_ble_eq_true rfl)) (hR.le (Nat.le_of_ble_eq_true rfl))  v2 0 47 h3 h1000 hz0 hz1) hC (fun h5 hC => ?_) (fun h5 hC => ?_)
      · have hp := hp.1 h5
        refine g_aload_n rfl (g_getR (mz_at hS (Nat.le_of_ble_eq_true rfl) mzcS_0) mzcf_11_1 (mz_rb hR (Nat.le_of_ble_eq_true rfl) rfl mzcR_0_1) (g_getR (mz_at hS (Nat.le_of_ble_eq_true rfl) mzcS_2) mzcf_5_8 (mz_rb hR (Nat.le_of_ble_eq_true rfl) rfl mzcR_2_8) (g_iload_n rfl (g_bipush mzb_48 (g_imul (g_iload_n rfl (g_iadd ?_)))))))
        have h4 := hp
        refine g_iald hS.1 (mz_at hS (Nat.le_of_ble_eq_true rfl) mzcS_15) h4 ?_
        exact g_iret rfl (hr _ hC)
      · have hp := hp.2 h5
        exact ht _ _ h5 hC
    · have hp := hp.2 h6
      exact ht _ _ h6 hC
  · have hp := hp.2 h7
    exact ht _ _ h7 hC
theorem cs_162 (hd : 2 ≤ d) (hS : mz_extR S 232) (hR : mz_rok R 232)  (v1 : Int32) (v2 : Int32) (N : mz_N) (hp : cp_162_0 v1 v2 N) (h1000 : t < 1000) (h0 : (cf_162_0 v1 v2 N).1 = 0 → Q (.inl (some (.int ((cf_162_0 v1 v2 N).2)))) (mz_k S R N b t)) (h1 : ¬ (cf_162_0 v1 v2 N).1 = 0 → Q (.inr (((cf_162_0 v1 v2 N).1) - 1)) (mz_k S R N b (t + 1))) : mz_Ed (mz_X0 L xs) d 162 [.ref 0, .int v1, .int v2] (mz_k S R N b t) Q :=
  by
  refine g_in mzq_162 (Nat.le_of_ble_eq_true rfl) (Nat.le_of_ble_eq_true rfl) (Nat.le_trans (Nat.le_of_ble_eq_true rfl) hd) ?_
  refine g_weak ?_ (cg_162_0 (d := d - 1) (by omega) hS hR v1 v2 N (C0 := fun z => (z.1 = 0 → Q (.inl (some (.int z.2))) (mz_k S R N b t)) ∧ (¬ z.1 = 0 → Q (.inr (z.1 - 1)) (mz_k S R N b (t + 1)))) (fun _ h => h.1 rfl) (fun c _ hc h => h.2 hc) h1000 hp ⟨h0, h1⟩)
  exact ⟨rfl, rfl, rfl, trivial⟩
/-! 161 KeptHouseLaw.spaceAt (LKeptHouse;II[J)I -/
theorem ms_161_0 : mz_sf mk_161 0 = mk_161 := mz_sf_zero _
theorem ms_161_15 : mz_sf mk_161 15 = mt_161_15 := mz_sf_add ms_161_0 (t := 15) rfl rfl
theorem ms_161_19 : mz_sf mk_161 19 = mt_161_19 := mz_sf_add ms_161_15 (t := 4) rfl rfl
theorem ms_161_21 : mz_sf mk_161 21 = mt_161_21 := mz_sf_add ms_161_19 (t := 2) rfl rfl
set_option maxRecDepth 100000 in
theorem mzq_161 : mz_PG0 161 = some (13, ⟨"KeptHouseLaw", "spaceAt", "(LKeptHouse;II[J)I"⟩, method_13_code, 5, some .int, [(0, 10, 13, 13), (0, 10, 17, 15)], mk_161, [(0, 13, 15), (1, 17, 19)]) := rfl
theorem cg_161_0 (hd : 2 ≤ d) (hS : mz_extR S 343) (hR : mz_rok R 343)  (v1 : Int32) (v2 : Int32) (N : mz_N) (t : Nat) {C0 : (Int32 × mz_N × Nat) → Prop} (hr : ∀ (w : Int32) (N2 : mz_N) (t2 : Nat), C0 (w, N2, t2) → Q (.inl (some (.int w))) (mz_k S R N2 b t2)) (hp : cp_161_0 v1 v2 N t) (hC : C0 (cf_161_0 v1 v2 N t)) : mz_G (d, mz_X0 L xs, some .int, [(0, 13, 15), (1, 17, 19)], mk_161, 5, Q) 0 mk_161 [(0, .ref 0), (1, .int v1), (2, .int v2), (3, .ref 342)] [] true (mz_k S R N b t) := by
  unfold cf_161_0 at hC
  unfold cp_161_0 at hp
  refine g_aload_n rfl (g_iconst mzi_0 (g_aload_n rfl (g_iload_n rfl (g_iload_n rfl ?_))))
  obtain ⟨h1, hp⟩ := hp
  obtain ⟨h1000, hp⟩ := hp
  refine g_v3vh (Nat.le_of_ble_eq_true rfl) (mz_at hS (Nat.le_of_ble_eq_true rfl) mzcS_0) (fun _ hz0 hz1 => cs_162 (Nat.le_trans (Nat.le_of_ble_eq_true rfl) hd) (hS.le (Nat.le_of_ble_eq_true rfl)) (hR.le (Nat.le_of_ble_eq_true rfl))  v1 v2 N h1 h1000 hz0 hz1) hC (fun h2 hC => ?_) (fun h2 hC => ?_)
  · have hp := hp.1 h2
    refine g_i2l (g_last (mz_at hS (Nat.le_of_ble_eq_true rfl) mzcS_342) (mz_ibd (by decide)) (g_goto (tg := 21) rfl ms_161_21 (g_iconst mzi_0 ?_)))
    exact g_iret rfl (hr _ _ _ hC)
  · have hp := hp.2 h2
    refine mz_cs hC (fun h6 hC => ?_) (fun h6 hC => ?_)
    · have hp := hp.1 h6
      refine ⟨(0, 13, 15), (by rw [h6]; rfl), ?_⟩
      show mz_G (d, mz_X0 L xs, some .int, [(0, 13, 15), (1, 17, 19)], mk_161, 5, Q) 15 (mz_sf mk_161 15) [] [] false (mz_k S R N b (t + 1))
      rw [ms_161_15]
      refine g_iconst mzi_1 ?_
      exact g_iret rfl (hr _ _ _ hC)
    · have hp := hp.2 h6
      have h4 := hp
      refine ⟨(1, 17, 19), (by rw [h4]; rfl), ?_⟩
      show mz_G (d, mz_X0 L xs, some .int, [(0, 13, 15), (1, 17, 19)], mk_161, 5, Q) 19 (mz_sf mk_161 19) [] [] false (mz_k S R N b (t + 1))
      rw [ms_161_19]
      refine g_iconst mzi_2 ?_
      exact g_iret rfl (hr _ _ _ hC)
theorem cs_161 (hd : 3 ≤ d) (hS : mz_extR S 343) (hR : mz_rok R 343)  (v1 : Int32) (v2 : Int32) (N : mz_N) (t : Nat) (hp : cp_161_0 v1 v2 N t) (hq : Q (.inl (some (.int ((cf_161_0 v1 v2 N t).1)))) (mz_k S R ((cf_161_0 v1 v2 N t).2.1) b ((cf_161_0 v1 v2 N t).2.2))) : mz_Ed (mz_X0 L xs) d 161 [.ref 0, .int v1, .int v2, .ref 342] (mz_k S R N b t) Q :=
  by
  refine g_in mzq_161 (Nat.le_of_ble_eq_true rfl) (Nat.le_of_ble_eq_true rfl) (Nat.le_trans (Nat.le_of_ble_eq_true rfl) hd) ?_
  refine g_weak ?_ (cg_161_0 (d := d - 1) (by omega) hS hR v1 v2 N t (C0 := fun z => Q (.inl (some (.int z.1))) (mz_k S R z.2.1 b z.2.2)) (fun _ _ _ h => h) hp hq)
  exact ⟨rfl, rfl, rfl, rfl, trivial⟩
/-! 166 KeptHouse$Plan.areBoth (IIII)Z -/
theorem ms_166_0 : mz_sf mk_166 0 = mk_166 := mz_sf_zero _
theorem ms_166_10 : mz_sf mk_166 10 = mt_166_10 := mz_sf_add ms_166_0 (t := 10) rfl rfl
theorem ms_166_20 : mz_sf mk_166 20 = mt_166_20 := mz_sf_add ms_166_10 (t := 10) rfl rfl
theorem ms_166_24 : mz_sf mk_166 24 = mt_166_24 := mz_sf_add ms_166_20 (t := 4) rfl rfl
theorem ms_166_25 : mz_sf mk_166 25 = mt_166_25 := mz_sf_add ms_166_24 (t := 1) rfl rfl
set_option maxRecDepth 100000 in
theorem mzq_166 : mz_PG0 166 = some (5, ⟨"KeptHouse$Plan", "areBoth", "(IIII)Z"⟩, prog_7_method_34_code, 4, some .boolean, [], mk_166, []) := rfl
theorem cg_166_10 (hd : 0 ≤ d) (hS : mz_extR S 232) (hR : mz_rok R 232)  (v0 : Int32) (v1 : Int32) (v2 : Int32) (v3 : Int32) {C0 : (Bool) → Prop} (hr : ∀ (w : Bool), C0 w → Q (.inl (some (.int (mz_b01 w)))) (mz_k S R N b t)) (hp : cp_166_10 v0 v1 v2 v3) (hC : C0 (cf_166_10 v0 v1 v2 v3)) : mz_G (d, mz_X0 L xs, some .boolean, [], mk_166, 4, Q) 10 mt_166_10 [(0, .int v0), (1, .int v1), (2, .int v2), (3, .int v3)] [] true (mz_k S R N b t) := by
  unfold cf_166_10 at hC
  unfold cp_166_10 at hp
  refine g_iload_n rfl (g_iload_n rfl ?_)
  refine g_icne (tg := 24) rfl ms_166_24 hC (fun h1 hC => ?_) (fun h1 hC => ?_)
  · refine g_iload_n rfl (g_iload_n rfl ?_)
    refine g_icne (tg := 24) rfl ms_166_24 hC (fun h2 hC => ?_) (fun h2 hC => ?_)
    · refine g_iconst mzi_1 (g_goto (tg := 25) rfl ms_166_25 ?_)
      exact g_zret (z := true) rfl (hr _ hC)
    · refine g_iconst mzi_0 ?_
      exact g_zret (z := false) rfl (hr _ hC)
  · refine g_iconst mzi_0 ?_
    exact g_zret (z := false) rfl (hr _ hC)
theorem cg_166_0 (hd : 0 ≤ d) (hS : mz_extR S 232) (hR : mz_rok R 232)  (v0 : Int32) (v1 : Int32) (v2 : Int32) (v3 : Int32) {C0 : (Bool) → Prop} (hr : ∀ (w : Bool), C0 w → Q (.inl (some (.int (mz_b01 w)))) (mz_k S R N b t)) (hp : cp_166_0 v0 v1 v2 v3) (hC : C0 (cf_166_0 v0 v1 v2 v3)) : mz_G (d, mz_X0 L xs, some .boolean, [], mk_166, 4, Q) 0 mk_166 [(0, .int v0), (1, .int v1), (2, .int v2), (3, .int v3)] [] true (mz_k S R N b t) := by
  unfold cf_166_0 at hC
  unfold cp_166_0 at hp
  refine g_iload_n rfl (g_iload_n rfl ?_)
  refine g_icne (tg := 10) rfl ms_166_10 hC (fun h1 hC => ?_) (fun h1 hC => ?_)
  · have hp := hp.1 h1
    refine g_iload_n rfl (g_iload_n rfl ?_)
    refine g_iceq (tg := 20) rfl ms_166_20 hC (fun h2 hC => ?_) (fun h2 hC => ?_)
    · have hp := hp.1 h2
      refine g_iconst mzi_1 (g_goto (tg := 25) rfl ms_166_25 ?_)
      exact g_zret (z := true) rfl (hr _ hC)
    · have hp := hp.2 h2
      refine g_weak ?_ (cg_166_10 hd hS hR v0 v1 v2 v3 hr hp hC)
      exact ⟨rfl, rfl, rfl, rfl, trivial⟩
  · have hp := hp.2 h1
    refine g_weak ?_ (cg_166_10 hd hS hR v0 v1 v2 v3 hr hp hC)
    exact ⟨rfl, rfl, rfl, rfl, trivial⟩
theorem cs_166 (hd : 1 ≤ d) (hS : mz_extR S 232) (hR : mz_rok R 232)  (v0 : Int32) (v1 : Int32) (v2 : Int32) (v3 : Int32) (hp : cp_166_0 v0 v1 v2 v3) (hq : Q (.inl (some (.int (mz_b01 (cf_166_0 v0 v1 v2 v3))))) (mz_k S R N b t)) : mz_Ed (mz_X0 L xs) d 166 [.int v0, .int v1, .int v2, .int v3] (mz_k S R N b t) Q :=
  by
  refine g_in mzq_166 (Nat.le_of_ble_eq_true rfl) (Nat.le_of_ble_eq_true rfl) (Nat.le_trans (Nat.le_of_ble_eq_true rfl) hd) ?_
  refine g_weak ?_ (cg_166_0 (d := d - 1) (by omega) hS hR v0 v1 v2 v3 (C0 := fun z => Q (.inl (some (.int (mz_b01 z)))) (mz_k S R N b t)) (fun _ h => h) hp hq)
  exact ⟨rfl, rfl, rfl, rfl, trivial⟩
/-! 165 KeptHouse$Plan.countStacked (II)I -/
theorem ms_165_0 : mz_sf mk_165 0 = mk_165 := mz_sf_zero _
theorem ms_165_5 : mz_sf mk_165 5 = mt_165_5 := mz_sf_add ms_165_0 (t := 5) rfl rfl
theorem ms_165_41 : mz_sf mk_165 41 = mt_165_41 := mz_sf_add ms_165_5 (t := 36) rfl rfl
theorem ms_165_44 : mz_sf mk_165 44 = mt_165_44 := mz_sf_add ms_165_41 (t := 3) rfl rfl
theorem ms_165_50 : mz_sf mk_165 50 = mt_165_50 := mz_sf_add ms_165_44 (t := 6) rfl rfl
set_option maxRecDepth 100000 in
theorem mzq_165 : mz_PG0 165 = some (5, ⟨"KeptHouse$Plan", "countStacked", "(II)I"⟩, prog_7_method_32_code, 5, some .int, [], mk_165, []) := rfl
theorem cg_165_44 (hd : 1 ≤ d) (hS : mz_extR S 232) (hR : mz_rok R 232)  (v1 : Int32) (v2 : Int32) (v3 : Int32) (v4 : Int32) (N : mz_N) {C0 : (Int32) → Prop} (hr : ∀ (w : Int32), C0 w → Q (.inl (some (.int w))) (mz_k S R N b t)) {C1 : ((Int32 × Int32) ⊕ (Int32)) → Prop} (hc1 : ∀ s2, C1 (.inl s2) → mz_G (d, mz_X0 L xs, some .int, [], mk_165, 5, Q) 5 mt_165_5 [(0, .ref 2), (1, .int v1), (2, .int v2), (3, .int s2.1), (4, .int s2.2)] [] false (mz_k S R N b t)) (hx1 : ∀ z, C1 (.inr z) → C0 z) (hp : cp_165_44 v1 v2 v3 v4 N) (hC : C1 (cf_165_44 v1 v2 v3 v4 N)) : mz_G (d, mz_X0 L xs, some .int, [], mk_165, 5, Q) 44 mt_165_44 [(0, .ref 2), (1, .int v1), (2, .int v2), (3, .int v3), (4, .int v4)] [] false (mz_k S R N b t) := by
  unfold cf_165_44 at hC
  unfold cp_165_44 at hp
  refine g_iinc rfl mzi_1 (Nat.le_of_ble_eq_true rfl) rfl (g_goto (tg := 5) rfl ms_165_5 ?_)
  refine g_weak ?_ (g_cl (hc1 (v3, (v4 + 1)) hC))
  exact ⟨rfl, rfl, rfl, rfl, rfl, trivial⟩
theorem cb_165_5 (hd : 1 ≤ d) (hS : mz_extR S 232) (hR : mz_rok R 232)  (v1 : Int32) (v2 : Int32) (N : mz_N) (s : Int32 × Int32) {C0 : (Int32) → Prop} (hr : ∀ (w : Int32), C0 w → Q (.inl (some (.int w))) (mz_k S R N b t)) {C1 : ((Int32 × Int32) ⊕ (Int32)) → Prop} (hc1 : ∀ s2, C1 (.inl s2) → mz_G (d, mz_X0 L xs, some .int, [], mk_165, 5, Q) 5 mt_165_5 [(0, .ref 2), (1, .int v1), (2, .int v2), (3, .int s2.1), (4, .int s2.2)] [] false (mz_k S R N b t)) (hx1 : ∀ z, C1 (.inr z) → C0 z) (hp : cd_165_5 v1 v2 N s) (hC : C1 (cq_165_5 v1 v2 N s)) : mz_G (d, mz_X0 L xs, some .int, [], mk_165, 5, Q) 5 mt_165_5 [(0, .ref 2), (1, .int v1), (2, .int v2), (3, .int s.1), (4, .int s.2)] [] false (mz_k S R N b t) := by
  unfold cq_165_5 at hC
  unfold cd_165_5 at hp
  refine g_iload rfl (g_bipush mzb_48 (g_iadd (g_sipush mzs_240 ?_)))
  refine g_icge (tg := 50) rfl ms_165_50 hC (fun h1 hC => ?_) (fun h1 hC => ?_)
  · have hp := hp.1 h1
    refine g_aload_n rfl (g_getR (mz_at hS (Nat.le_of_ble_eq_true rfl) mzcS_2) mzcf_5_8 (mz_rb hR (Nat.le_of_ble_eq_true rfl) rfl mzcR_2_8) (g_iload rfl ?_))
    obtain ⟨h2, hp⟩ := hp
    refine g_iald hS.1 (mz_at hS (Nat.le_of_ble_eq_true rfl) mzcS_15) h2 (g_aload_n rfl (g_getR (mz_at hS (Nat.le_of_ble_eq_true rfl) mzcS_2) mzcf_5_8 (mz_rb hR (Nat.le_of_ble_eq_true rfl) rfl mzcR_2_8) (g_iload rfl (g_bipush mzb_48 (g_iadd ?_)))))
    obtain ⟨h3, hp⟩ := hp
    refine g_iald hS.1 (mz_at hS (Nat.le_of_ble_eq_true rfl) mzcS_15) h3 (g_iload_n rfl (g_iload_n rfl ?_))
    obtain ⟨h4, hp⟩ := hp
    refine g_s4v (Nat.le_of_ble_eq_true rfl) (fun _ hq => cs_166 (Nat.le_trans (Nat.le_of_ble_eq_true rfl) hd) (hS.le (Nat.le_of_ble_eq_true rfl)) (hR.le (Nat.le_of_ble_eq_true rfl))  (mz_gI N 15 s.2) (mz_gI N 15 (s.2 + 48)) v1 v2 h4 hq) ?_
    refine g_zeq (tg := 44) rfl ms_165_44 hC (fun h5 hC => ?_) (fun h5 hC => ?_)
    · have hp := hp.1 h5
      refine g_iinc rfl mzi_1 (Nat.le_of_ble_eq_true rfl) rfl ?_
      refine g_weak ?_ (g_cl (cg_165_44 hd hS hR v1 v2 (s.1 + 1) s.2 N hr hc1 hx1 hp hC))
      exact ⟨rfl, rfl, rfl, rfl, rfl, trivial⟩
    · have hp := hp.2 h5
      refine g_weak ?_ (g_cl (cg_165_44 hd hS hR v1 v2 s.1 s.2 N hr hc1 hx1 hp hC))
      exact ⟨rfl, rfl, rfl, rfl, rfl, trivial⟩
  · have hp := hp.2 h1
    refine g_iload_n rfl ?_
    exact g_iret rfl (hr _ (hx1 _ hC))
theorem cg_165_5 (hd : 1 ≤ d) (hS : mz_extR S 232) (hR : mz_rok R 232)  (v1 : Int32) (v2 : Int32) (v3 : Int32) (v4 : Int32) (N : mz_N) {C0 : (Int32) → Prop} (hr : ∀ (w : Int32), C0 w → Q (.inl (some (.int w))) (mz_k S R N b t)) (hp : cp_165_5 v1 v2 v3 v4 N) (hC : C0 (cf_165_5 v1 v2 v3 v4 N)) : mz_G (d, mz_X0 L xs, some .int, [], mk_165, 5, Q) 5 mt_165_5 [(0, .ref 2), (1, .int v1), (2, .int v2), (3, .int v3), (4, .int v4)] [] false (mz_k S R N b t) := by
  obtain ⟨n, hn⟩ := hp
  exact g_loop (G := fun s => mz_G (d, mz_X0 L xs, some .int, [], mk_165, 5, Q) 5 mt_165_5 [(0, .ref 2), (1, .int v1), (2, .int v2), (3, .int s.1), (4, .int s.2)] [] false (mz_k S R N b t)) (C := C0) (fun C2 hc hx s hP hC => cb_165_5 hd hS hR v1 v2 N s hr hc hx hP hC) n (v3, v4) hn hC
theorem cg_165_0 (hd : 1 ≤ d) (hS : mz_extR S 232) (hR : mz_rok R 232)  (v1 : Int32) (v2 : Int32) (N : mz_N) {C0 : (Int32) → Prop} (hr : ∀ (w : Int32), C0 w → Q (.inl (some (.int w))) (mz_k S R N b t)) (hp : cp_165_0 v1 v2 N) (hC : C0 (cf_165_0 v1 v2 N)) : mz_G (d, mz_X0 L xs, some .int, [], mk_165, 5, Q) 0 mk_165 [(0, .ref 2), (1, .int v1), (2, .int v2)] [] true (mz_k S R N b t) := by
  unfold cf_165_0 at hC
  unfold cp_165_0 at hp
  refine g_iconst mzi_0 (g_istore_n (Nat.le_of_ble_eq_true rfl) rfl (g_iconst mzi_0 (g_istore (Nat.le_of_ble_eq_true rfl) rfl ?_)))
  refine g_weak ?_ (g_cl (cg_165_5 hd hS hR v1 v2 0 0 N hr hp hC))
  exact ⟨rfl, rfl, rfl, rfl, rfl, trivial⟩
theorem cs_165 (hd : 2 ≤ d) (hS : mz_extR S 232) (hR : mz_rok R 232)  (v1 : Int32) (v2 : Int32) (N : mz_N) (hp : cp_165_0 v1 v2 N) (hq : Q (.inl (some (.int (cf_165_0 v1 v2 N)))) (mz_k S R N b t)) : mz_Ed (mz_X0 L xs) d 165 [.ref 2, .int v1, .int v2] (mz_k S R N b t) Q :=
  by
  refine g_in mzq_165 (Nat.le_of_ble_eq_true rfl) (Nat.le_of_ble_eq_true rfl) (Nat.le_trans (Nat.le_of_ble_eq_true rfl) hd) ?_
  refine g_weak ?_ (cg_165_0 (d := d - 1) (by omega) hS hR v1 v2 N (C0 := fun z => Q (.inl (some (.int z))) (mz_k S R N b t)) (fun _ h => h) hp hq)
  exact ⟨rfl, rfl, rfl, trivial⟩
/-! 167 KeptHouse$Plan.countWalls (III)I -/
theorem ms_167_0 : mz_sf mk_167 0 = mk_167 := mz_sf_zero _
theorem ms_167_6 : mz_sf mk_167 6 = mt_167_6 := mz_sf_add ms_167_0 (t := 6) rfl rfl
theorem ms_167_31 : mz_sf mk_167 31 = mt_167_31 := mz_sf_add ms_167_6 (t := 25) rfl rfl
theorem ms_167_85 : mz_sf mk_167 85 = mt_167_85 := mz_sf_add ms_167_31 (t := 54) rfl rfl
theorem ms_167_88 : mz_sf mk_167 88 = mt_167_88 := mz_sf_add ms_167_85 (t := 3) rfl rfl
theorem ms_167_94 : mz_sf mk_167 94 = mt_167_94 := mz_sf_add ms_167_88 (t := 6) rfl rfl
set_option maxRecDepth 100000 in
theorem mzq_167 : mz_PG0 167 = some (5, ⟨"KeptHouse$Plan", "countWalls", "(III)I"⟩, prog_7_method_33_code, 8, some .int, [], mk_167, []) := rfl
theorem cg_167_88 (hd : 1 ≤ d) (hS : mz_extR S 232) (hR : mz_rok R 232)  (v1 : Int32) (v2 : Int32) (v3 : Int32) (v4 : Int32) (v5 : Int32) (N : mz_N) {C0 : (Int32) → Prop} (hr : ∀ (w : Int32), C0 w → Q (.inl (some (.int w))) (mz_k S R N b t)) {C1 : ((Int32 × Int32) ⊕ (Int32)) → Prop} (hc1 : ∀ s2, C1 (.inl s2) → mz_G (d, mz_X0 L xs, some .int, [], mk_167, 8, Q) 6 mt_167_6 [(0, .ref 2), (1, .int v1), (2, .int v2), (3, .int v3), (4, .int s2.1), (5, .int s2.2)] [] false (mz_k S R N b t)) (hx1 : ∀ z, C1 (.inr z) → C0 z) (hp : cp_167_88 v1 v2 v3 v4 v5 N) (hC : C1 (cf_167_88 v1 v2 v3 v4 v5 N)) : mz_G (d, mz_X0 L xs, some .int, [], mk_167, 8, Q) 88 mt_167_88 [(0, .ref 2), (1, .int v1), (2, .int v2), (3, .int v3), (4, .int v4), (5, .int v5)] [] false (mz_k S R N b t) := by
  unfold cf_167_88 at hC
  unfold cp_167_88 at hp
  refine g_iinc rfl mzi_1 (Nat.le_of_ble_eq_true rfl) rfl (g_goto (tg := 6) rfl ms_167_6 ?_)
  refine g_weak ?_ (g_cl (hc1 (v4, (v5 + 1)) hC))
  exact ⟨rfl, rfl, rfl, rfl, rfl, rfl, trivial⟩
theorem cb_167_6 (hd : 1 ≤ d) (hS : mz_extR S 232) (hR : mz_rok R 232)  (v1 : Int32) (v2 : Int32) (v3 : Int32) (N : mz_N) (s : Int32 × Int32) {C0 : (Int32) → Prop} (hr : ∀ (w : Int32), C0 w → Q (.inl (some (.int w))) (mz_k S R N b t)) {C1 : ((Int32 × Int32) ⊕ (Int32)) → Prop} (hc1 : ∀ s2, C1 (.inl s2) → mz_G (d, mz_X0 L xs, some .int, [], mk_167, 8, Q) 6 mt_167_6 [(0, .ref 2), (1, .int v1), (2, .int v2), (3, .int v3), (4, .int s2.1), (5, .int s2.2)] [] false (mz_k S R N b t)) (hx1 : ∀ z, C1 (.inr z) → C0 z) (hp : cd_167_6 v1 v2 v3 N s) (hC : C1 (cq_167_6 v1 v2 v3 N s)) : mz_G (d, mz_X0 L xs, some .int, [], mk_167, 8, Q) 6 mt_167_6 [(0, .ref 2), (1, .int v1), (2, .int v2), (3, .int v3), (4, .int s.1), (5, .int s.2)] [] false (mz_k S R N b t) := by
  unfold cq_167_6 at hC
  unfold cd_167_6 at hp
  refine g_iload rfl (g_sipush mzs_550 ?_)
  refine g_icge (tg := 94) rfl ms_167_94 hC (fun h1 hC => ?_) (fun h1 hC => ?_)
  · have hp := hp.1 h1
    refine g_iload rfl (g_bipush mzb_110 (g_irem (by decide) (g_istore (Nat.le_of_ble_eq_true rfl) rfl (g_iload rfl (g_bipush mzb_110 (g_idiv (by decide) (g_bipush mzb_48 ?_)))))))
    refine g_imul (g_istore (Nat.le_of_ble_eq_true rfl) rfl (g_aload_n rfl (g_getR (mz_at hS (Nat.le_of_ble_eq_true rfl) mzcS_2) mzcf_5_0 (mz_rb hR (Nat.le_of_ble_eq_true rfl) rfl mzcR_2_0) (g_iload rfl ?_))))
    obtain ⟨h2, hp⟩ := hp
    refine g_iald hS.1 (mz_at hS (Nat.le_of_ble_eq_true rfl) mzcS_3) h2 (g_iload_n rfl ?_)
    refine g_icne (tg := 88) rfl ms_167_88 hC (fun h3 hC => ?_) (fun h3 hC => ?_)
    · have hp := hp.1 h3
      refine g_iload rfl ?_
      refine g_s1v (Nat.le_of_ble_eq_true rfl) (fun _ hq => cs_21 (Nat.le_trans (Nat.le_of_ble_eq_true rfl) hd) (hS.le (Nat.le_of_ble_eq_true rfl)) (hR.le (Nat.le_of_ble_eq_true rfl))  (mz_irem s.2 110) trivial hq) (g_iconst mzi_m1 ?_)
      refine g_icne (tg := 88) rfl ms_167_88 hC (fun h5 hC => ?_) (fun h5 hC => ?_)
      · have hp := hp.1 h5
        refine g_aload_n rfl (g_getR (mz_at hS (Nat.le_of_ble_eq_true rfl) mzcS_2) mzcf_5_8 (mz_rb hR (Nat.le_of_ble_eq_true rfl) rfl mzcR_2_8) (g_iload rfl (g_iload rfl ?_)))
        refine g_s1v (Nat.le_of_ble_eq_true rfl) (fun _ hq => cs_84 (Nat.le_trans (Nat.le_of_ble_eq_true rfl) hd) (hS.le (Nat.le_of_ble_eq_true rfl)) (hR.le (Nat.le_of_ble_eq_true rfl))  (mz_irem s.2 110) trivial hq) (g_iadd ?_)
        obtain ⟨h7, hp⟩ := hp
        refine g_iald hS.1 (mz_at hS (Nat.le_of_ble_eq_true rfl) mzcS_15) h7 (g_aload_n rfl (g_getR (mz_at hS (Nat.le_of_ble_eq_true rfl) mzcS_2) mzcf_5_8 (mz_rb hR (Nat.le_of_ble_eq_true rfl) rfl mzcR_2_8) (g_iload rfl (g_iload rfl ?_))))
        refine g_s1v (Nat.le_of_ble_eq_true rfl) (fun _ hq => cs_85 (Nat.le_trans (Nat.le_of_ble_eq_true rfl) hd) (hS.le (Nat.le_of_ble_eq_true rfl)) (hR.le (Nat.le_of_ble_eq_true rfl))  (mz_irem s.2 110) trivial hq) (g_iadd ?_)
        obtain ⟨h9, hp⟩ := hp
        refine g_iald hS.1 (mz_at hS (Nat.le_of_ble_eq_true rfl) mzcS_15) h9 (g_iload_n rfl (g_iload_n rfl ?_))
        obtain ⟨h10, hp⟩ := hp
        refine g_s4v (Nat.le_of_ble_eq_true rfl) (fun _ hq => cs_166 (Nat.le_trans (Nat.le_of_ble_eq_true rfl) hd) (hS.le (Nat.le_of_ble_eq_true rfl)) (hR.le (Nat.le_of_ble_eq_true rfl))  (mz_gI N 15 (((s.2 / 110) * 48) + (cf_84_0 (mz_irem s.2 110)))) (mz_gI N 15 (((s.2 / 110) * 48) + (cf_85_0 (mz_irem s.2 110)))) v1 v2 h10 hq) ?_
        refine g_zeq (tg := 88) rfl ms_167_88 hC (fun h11 hC => ?_) (fun h11 hC => ?_)
        · have hp := hp.1 h11
          refine g_iinc rfl mzi_1 (Nat.le_of_ble_eq_true rfl) rfl ?_
          refine g_weak ?_ (g_cl (cg_167_88 hd hS hR v1 v2 v3 (s.1 + 1) s.2 N hr hc1 hx1 hp hC))
          exact ⟨rfl, rfl, rfl, rfl, rfl, rfl, trivial⟩
        · have hp := hp.2 h11
          refine g_weak ?_ (g_cl (cg_167_88 hd hS hR v1 v2 v3 s.1 s.2 N hr hc1 hx1 hp hC))
          exact ⟨rfl, rfl, rfl, rfl, rfl, rfl, trivial⟩
      · have hp := hp.2 h5
        refine g_weak ?_ (g_cl (cg_167_88 hd hS hR v1 v2 v3 s.1 s.2 N hr hc1 hx1 hp hC))
        exact ⟨rfl, rfl, rfl, rfl, rfl, rfl, trivial⟩
    · have hp := hp.2 h3
      refine g_weak ?_ (g_cl (cg_167_88 hd hS hR v1 v2 v3 s.1 s.2 N hr hc1 hx1 hp hC))
      exact ⟨rfl, rfl, rfl, rfl, rfl, rfl, trivial⟩
  · have hp := hp.2 h1
    refine g_iload rfl ?_
    exact g_iret rfl (hr _ (hx1 _ hC))
theorem cg_167_6 (hd : 1 ≤ d) (hS : mz_extR S 232) (hR : mz_rok R 232)  (v1 : Int32) (v2 : Int32) (v3 : Int32) (v4 : Int32) (v5 : Int32) (N : mz_N) {C0 : (Int32) → Prop} (hr : ∀ (w : Int32), C0 w → Q (.inl (some (.int w))) (mz_k S R N b t)) (hp : cp_167_6 v1 v2 v3 v4 v5 N) (hC : C0 (cf_167_6 v1 v2 v3 v4 v5 N)) : mz_G (d, mz_X0 L xs, some .int, [], mk_167, 8, Q) 6 mt_167_6 [(0, .ref 2), (1, .int v1), (2, .int v2), (3, .int v3), (4, .int v4), (5, .int v5)] [] false (mz_k S R N b t) := by
  obtain ⟨n, hn⟩ := hp
  exact g_loop (G := fun s => mz_G (d, mz_X0 L xs, some .int, [], mk_167, 8, Q) 6 mt_167_6 [(0, .ref 2), (1, .int v1), (2, .int v2), (3, .int v3), (4, .int s.1), (5, .int s.2)] [] false (mz_k S R N b t)) (C := C0) (fun C2 hc hx s hP hC => cb_167_6 hd hS hR v1 v2 v3 N s hr hc hx hP hC) n (v4, v5) hn hC
theorem cg_167_0 (hd : 1 ≤ d) (hS : mz_extR S 232) (hR : mz_rok R 232)  (v1 : Int32) (v2 : Int32) (v3 : Int32) (N : mz_N) {C0 : (Int32) → Prop} (hr : ∀ (w : Int32), C0 w → Q (.inl (some (.int w))) (mz_k S R N b t)) (hp : cp_167_0 v1 v2 v3 N) (hC : C0 (cf_167_0 v1 v2 v3 N)) : mz_G (d, mz_X0 L xs, some .int, [], mk_167, 8, Q) 0 mk_167 [(0, .ref 2), (1, .int v1), (2, .int v2), (3, .int v3)] [] true (mz_k S R N b t) := by
  unfold cf_167_0 at hC
  unfold cp_167_0 at hp
  refine g_iconst mzi_0 (g_istore (Nat.le_of_ble_eq_true rfl) rfl (g_iconst mzi_0 (g_istore (Nat.le_of_ble_eq_true rfl) rfl ?_)))
  refine g_weak ?_ (g_cl (cg_167_6 hd hS hR v1 v2 v3 0 0 N hr hp hC))
  exact ⟨rfl, rfl, rfl, rfl, rfl, rfl, trivial⟩
theorem cs_167 (hd : 2 ≤ d) (hS : mz_extR S 232) (hR : mz_rok R 232)  (v1 : Int32) (v2 : Int32) (v3 : Int32) (N : mz_N) (hp : cp_167_0 v1 v2 v3 N) (hq : Q (.inl (some (.int (cf_167_0 v1 v2 v3 N)))) (mz_k S R N b t)) : mz_Ed (mz_X0 L xs) d 167 [.ref 2, .int v1, .int v2, .int v3] (mz_k S R N b t) Q :=
  by
  refine g_in mzq_167 (Nat.le_of_ble_eq_true rfl) (Nat.le_of_ble_eq_true rfl) (Nat.le_trans (Nat.le_of_ble_eq_true rfl) hd) ?_
  refine g_weak ?_ (cg_167_0 (d := d - 1) (by omega) hS hR v1 v2 v3 N (C0 := fun z => Q (.inl (some (.int z))) (mz_k S R N b t)) (fun _ h => h) hp hq)
  exact ⟨rfl, rfl, rfl, rfl, trivial⟩
/-! 164 KeptHouse.between (III)I -/
theorem ms_164_0 : mz_sf mk_164 0 = mk_164 := mz_sf_zero _
theorem ms_164_32 : mz_sf mk_164 32 = mt_164_32 := mz_sf_add ms_164_0 (t := 32) rfl rfl
theorem ms_164_45 : mz_sf mk_164 45 = mt_164_45 := mz_sf_add ms_164_32 (t := 13) rfl rfl
theorem ms_164_61 : mz_sf mk_164 61 = mt_164_61 := mz_sf_add ms_164_45 (t := 16) rfl rfl
theorem ms_164_71 : mz_sf mk_164 71 = mt_164_71 := mz_sf_add ms_164_61 (t := 10) rfl rfl
set_option maxRecDepth 100000 in
theorem mzq_164 : mz_PG0 164 = some (11, ⟨"KeptHouse", "between", "(III)I"⟩, prog_1_method_18_code, 4, some .int, [], mk_164, []) := rfl
theorem cg_164_0 (hd : 2 ≤ d) (hS : mz_extR S 232) (hR : mz_rok R 232)  (v1 : Int32) (v2 : Int32) (v3 : Int32) (N : mz_N) {C0 : (Nat × Int32) → Prop} (hr : ∀ (w : Int32), C0 (0, w) → Q (.inl (some (.int w))) (mz_k S R N b t)) (ht : ∀ (c : Nat) (w : Int32), ¬ c = 0 → C0 (c, w) → Q (.inr (c - 1)) (mz_k S R N b (t + 1))) (h1000 : t < 1000) (hp : cp_164_0 v1 v2 v3 N) (hC : C0 (cf_164_0 v1 v2 v3 N)) : mz_G (d, mz_X0 L xs, some .int, [], mk_164, 4, Q) 0 mk_164 [(0, .ref 0), (1, .int v1), (2, .int v2), (3, .int v3)] [] true (mz_k S R N b t) := by
  unfold cf_164_0 at hC
  unfold cp_164_0 at hp
  refine g_aload_n rfl ?_
  obtain ⟨h1, hp⟩ := hp
  refine g_v1nt (Nat.le_of_ble_eq_true rfl) (mz_at hS (Nat.le_of_ble_eq_true rfl) mzcS_0) rfl (fun _ hz0 hz1 => cs_104 (Nat.le_trans (Nat.le_of_ble_eq_true rfl) hd) (hS.le (Nat.le_of_ble_eq_true rfl)) (hR.le (Nat.le_of_ble_eq_true rfl))  N h1 h1000 hz0 hz1) hC (fun h12 hC => ?_) (fun h12 hC => ?_)
  · have hp := hp.1 h12
    refine g_iload_n rfl (g_iconst mzi_0 (g_aload_n rfl (g_getR (mz_at hS (Nat.le_of_ble_eq_true rfl) mzcS_0) mzcf_11_1 (mz_rb hR (Nat.le_of_ble_eq_true rfl) rfl mzcR_0_1) (g_getI (mz_at hS (Nat.le_of_ble_eq_true rfl) mzcS_2) mzcf_5_7 (g_iconst mzi_1 (g_isub ?_))))))
    obtain ⟨h2, hp⟩ := hp
    refine g_s3nt (Nat.le_of_ble_eq_true rfl) rfl (fun _ hz0 hz1 => cs_105 (Nat.le_trans (Nat.le_of_ble_eq_true rfl) hd) (hS.le (Nat.le_of_ble_eq_true rfl)) (hR.le (Nat.le_of_ble_eq_true rfl))  v1 0 ((N.1 2 7) - 1) h2 h1000 hz0 hz1) hC (fun h11 hC => ?_) (fun h11 hC => ?_)
    · have hp := hp.1 h11
      refine g_iload_n rfl (g_iconst mzi_0 (g_aload_n rfl (g_getR (mz_at hS (Nat.le_of_ble_eq_true rfl) mzcS_0) mzcf_11_1 (mz_rb hR (Nat.le_of_ble_eq_true rfl) rfl mzcR_0_1) (g_getI (mz_at hS (Nat.le_of_ble_eq_true rfl) mzcS_2) mzcf_5_7 (g_iconst mzi_1 (g_isub ?_))))))
      obtain ⟨h3, hp⟩ := hp
      refine g_s3nt (Nat.le_of_ble_eq_true rfl) rfl (fun _ hz0 hz1 => cs_105 (Nat.le_trans (Nat.le_of_ble_eq_true rfl) hd) (hS.le (Nat.le_of_ble_eq_true rfl)) (hR.le (Nat.le_of_ble_eq_true rfl))  v2 0 ((N.1 2 7) - 1) h3 h1000 hz0 hz1) hC (fun h10 hC => ?_) (fun h10 hC => ?_)
      · have hp := hp.1 h10
        refine g_iload_n rfl (g_iconst mzi_0 (g_iconst mzi_3 ?_))
        obtain ⟨h4, hp⟩ := hp
        refine g_s3nt (Nat.le_of_ble_eq_true rfl) rfl (fun _ hz0 hz1 => cs_105 (Nat.le_trans (Nat.le_of_ble_eq_true rfl) hd) (hS.le (Nat.le_of_ble_eq_true rfl)) (hR.le (Nat.le_of_ble_eq_true rfl))  v3 0 3 h4 h1000 hz0 hz1) hC (fun h9 hC => ?_) (fun h9 hC => ?_)
        · have hp := hp.1 h9
          refine g_iload_n rfl (g_iload_n rfl ?_)
          refine g_icne (tg := 45) rfl ms_164_45 hC (fun h5 hC => ?_) (fun h5 hC => ?_)
          · have hp := hp.1 h5
            refine g_iconst mzi_0 ?_
            exact g_iret rfl (hr _ hC)
          · have hp := hp.2 h5
            refine g_iload_n rfl ?_
            refine g_ifne (tg := 61) rfl ms_164_61 hC (fun h6 hC => ?_) (fun h6 hC => ?_)
            · have hp := hp.1 h6
              refine g_aload_n rfl (g_getR (mz_at hS (Nat.le_of_ble_eq_true rfl) mzcS_0) mzcf_11_1 (mz_rb hR (Nat.le_of_ble_eq_true rfl) rfl mzcR_0_1) (g_iload_n rfl (g_iload_n rfl ?_)))
              have h7 := hp
              refine g_v3v (Nat.le_of_ble_eq_true rfl) (mz_at hS (Nat.le_of_ble_eq_true rfl) mzcS_2) (fun _ hq => cs_165 (Nat.le_trans (Nat.le_of_ble_eq_true rfl) hd) (hS.le (Nat.le_of_ble_eq_true rfl)) (hR.le (Nat.le_of_ble_eq_true rfl))  v1 v2 N h7 hq) (g_goto (tg := 71) rfl ms_164_71 ?_)
              exact g_iret rfl (hr _ hC)
            · have hp := hp.2 h6
              refine g_aload_n rfl (g_getR (mz_at hS (Nat.le_of_ble_eq_true rfl) mzcS_0) mzcf_11_1 (mz_rb hR (Nat.le_of_ble_eq_true rfl) rfl mzcR_0_1) (g_iload_n rfl (g_iload_n rfl (g_iload_n rfl ?_))))
              have h8 := hp
              refine g_v4v (Nat.le_of_ble_eq_true rfl) (mz_at hS (Nat.le_of_ble_eq_true rfl) mzcS_2) (fun _ hq => cs_167 (Nat.le_trans (Nat.le_of_ble_eq_true rfl) hd) (hS.le (Nat.le_of_ble_eq_true rfl)) (hR.le (Nat.le_of_ble_eq_true rfl))  v1 v2 v3 N h8 hq) ?_
              exact g_iret rfl (hr _ hC)
        · have hp := hp.2 h9
          exact ht _ _ h9 hC
      · have hp := hp.2 h10
        exact ht _ _ h10 hC
    · have hp := hp.2 h11
      exact ht _ _ h11 hC
  · have hp := hp.2 h12
    exact ht _ _ h12 hC
theorem cs_164 (hd : 3 ≤ d) (hS : mz_extR S 232) (hR : mz_rok R 232)  (v1 : Int32) (v2 : Int32) (v3 : Int32) (N : mz_N) (hp : cp_164_0 v1 v2 v3 N) (h1000 : t < 1000) (h0 : (cf_164_0 v1 v2 v3 N).1 = 0 → Q (.inl (some (.int ((cf_164_0 v1 v2 v3 N).2)))) (mz_k S R N b t)) (h1 : ¬ (cf_164_0 v1 v2 v3 N).1 = 0 → Q (.inr (((cf_164_0 v1 v2 v3 N).1) - 1)) (mz_k S R N b (t + 1))) : mz_Ed (mz_X0 L xs) d 164 [.ref 0, .int v1, .int v2, .int v3] (mz_k S R N b t) Q :=
  by
  refine g_in mzq_164 (Nat.le_of_ble_eq_true rfl) (Nat.le_of_ble_eq_true rfl) (Nat.le_trans (Nat.le_of_ble_eq_true rfl) hd) ?_
  refine g_weak ?_ (cg_164_0 (d := d - 1) (by omega) hS hR v1 v2 v3 N (C0 := fun z => (z.1 = 0 → Q (.inl (some (.int z.2))) (mz_k S R N b t)) ∧ (¬ z.1 = 0 → Q (.inr (z.1 - 1)) (mz_k S R N b (t + 1)))) (fun _ h => h.1 rfl) (fun c _ hc h => h.2 hc) h1000 hp ⟨h0, h1⟩)
  exact ⟨rfl, rfl, rfl, rfl, trivial⟩
/-! 163 KeptHouseLaw.between (LKeptHouse;III[J)I -/
theorem ms_163_0 : mz_sf mk_163 0 = mk_163 := mz_sf_zero _
theorem ms_163_17 : mz_sf mk_163 17 = mt_163_17 := mz_sf_add ms_163_0 (t := 17) rfl rfl
theorem ms_163_21 : mz_sf mk_163 21 = mt_163_21 := mz_sf_add ms_163_17 (t := 4) rfl rfl
theorem ms_163_23 : mz_sf mk_163 23 = mt_163_23 := mz_sf_add ms_163_21 (t := 2) rfl rfl
set_option maxRecDepth 100000 in
theorem mzq_163 : mz_PG0 163 = some (13, ⟨"KeptHouseLaw", "between", "(LKeptHouse;III[J)I"⟩, method_14_code, 6, some .int, [(0, 12, 15, 13), (0, 12, 19, 15)], mk_163, [(0, 15, 17), (1, 19, 21)]) := rfl
theorem cg_163_0 (hd : 3 ≤ d) (hS : mz_extR S 343) (hR : mz_rok R 343)  (v1 : Int32) (v2 : Int32) (v3 : Int32) (N : mz_N) (t : Nat) {C0 : (Int32 × mz_N × Nat) → Prop} (hr : ∀ (w : Int32) (N2 : mz_N) (t2 : Nat), C0 (w, N2, t2) → Q (.inl (some (.int w))) (mz_k S R N2 b t2)) (hp : cp_163_0 v1 v2 v3 N t) (hC : C0 (cf_163_0 v1 v2 v3 N t)) : mz_G (d, mz_X0 L xs, some .int, [(0, 15, 17), (1, 19, 21)], mk_163, 6, Q) 0 mk_163 [(0, .ref 0), (1, .int v1), (2, .int v2), (3, .int v3), (4, .ref 342)] [] true (mz_k S R N b t) := by
  unfold cf_163_0 at hC
  unfold cp_163_0 at hp
  refine g_aload rfl (g_iconst mzi_0 (g_aload_n rfl (g_iload_n rfl (g_iload_n rfl (g_iload_n rfl ?_)))))
  obtain ⟨h1, hp⟩ := hp
  obtain ⟨h1000, hp⟩ := hp
  refine g_v4vh (Nat.le_of_ble_eq_true rfl) (mz_at hS (Nat.le_of_ble_eq_true rfl) mzcS_0) (fun _ hz0 hz1 => cs_164 (Nat.le_trans (Nat.le_of_ble_eq_true rfl) hd) (hS.le (Nat.le_of_ble_eq_true rfl)) (hR.le (Nat.le_of_ble_eq_true rfl))  v1 v2 v3 N h1 h1000 hz0 hz1) hC (fun h2 hC => ?_) (fun h2 hC => ?_)
  · have hp := hp.1 h2
    refine g_i2l (g_last (mz_at hS (Nat.le_of_ble_eq_true rfl) mzcS_342) (mz_ibd (by decide)) (g_goto (tg := 23) rfl ms_163_23 (g_iconst mzi_0 ?_)))
    exact g_iret rfl (hr _ _ _ hC)
  · have hp := hp.2 h2
    refine mz_cs hC (fun h6 hC => ?_) (fun h6 hC => ?_)
    · have hp := hp.1 h6
      refine ⟨(0, 15, 17), (by rw [h6]; rfl), ?_⟩
      show mz_G (d, mz_X0 L xs, some .int, [(0, 15, 17), (1, 19, 21)], mk_163, 6, Q) 17 (mz_sf mk_163 17) [] [] false (mz_k S R N b (t + 1))
      rw [ms_163_17]
      refine g_iconst mzi_1 ?_
      exact g_iret rfl (hr _ _ _ hC)
    · have hp := hp.2 h6
      have h4 := hp
      refine ⟨(1, 19, 21), (by rw [h4]; rfl), ?_⟩
      show mz_G (d, mz_X0 L xs, some .int, [(0, 15, 17), (1, 19, 21)], mk_163, 6, Q) 21 (mz_sf mk_163 21) [] [] false (mz_k S R N b (t + 1))
      rw [ms_163_21]
      refine g_iconst mzi_2 ?_
      exact g_iret rfl (hr _ _ _ hC)
theorem cs_163 (hd : 4 ≤ d) (hS : mz_extR S 343) (hR : mz_rok R 343)  (v1 : Int32) (v2 : Int32) (v3 : Int32) (N : mz_N) (t : Nat) (hp : cp_163_0 v1 v2 v3 N t) (hq : Q (.inl (some (.int ((cf_163_0 v1 v2 v3 N t).1)))) (mz_k S R ((cf_163_0 v1 v2 v3 N t).2.1) b ((cf_163_0 v1 v2 v3 N t).2.2))) : mz_Ed (mz_X0 L xs) d 163 [.ref 0, .int v1, .int v2, .int v3, .ref 342] (mz_k S R N b t) Q :=
  by
  refine g_in mzq_163 (Nat.le_of_ble_eq_true rfl) (Nat.le_of_ble_eq_true rfl) (Nat.le_trans (Nat.le_of_ble_eq_true rfl) hd) ?_
  refine g_weak ?_ (cg_163_0 (d := d - 1) (by omega) hS hR v1 v2 v3 N t (C0 := fun z => Q (.inl (some (.int z.1))) (mz_k S R z.2.1 b z.2.2)) (fun _ _ _ h => h) hp hq)
  exact ⟨rfl, rfl, rfl, rfl, rfl, trivial⟩
/-! 170 KeptHouse$Plan.isFlat (I)Z -/
theorem ms_170_0 : mz_sf mk_170 0 = mk_170 := mz_sf_zero _
theorem ms_170_10 : mz_sf mk_170 10 = mt_170_10 := mz_sf_add ms_170_0 (t := 10) rfl rfl
theorem ms_170_16 : mz_sf mk_170 16 = mt_170_16 := mz_sf_add ms_170_10 (t := 6) rfl rfl
theorem ms_170_20 : mz_sf mk_170 20 = mt_170_20 := mz_sf_add ms_170_16 (t := 4) rfl rfl
theorem ms_170_21 : mz_sf mk_170 21 = mt_170_21 := mz_sf_add ms_170_20 (t := 1) rfl rfl
set_option maxRecDepth 100000 in
theorem mzq_170 : mz_PG0 170 = some (5, ⟨"KeptHouse$Plan", "isFlat", "(I)Z"⟩, prog_7_method_2_code, 1, some .boolean, [], mk_170, []) := rfl
theorem cg_170_10 (hd : 0 ≤ d) (hS : mz_extR S 232) (hR : mz_rok R 232)  (v0 : Int32) {C0 : (Bool) → Prop} (hr : ∀ (w : Bool), C0 w → Q (.inl (some (.int (mz_b01 w)))) (mz_k S R N b t)) (hp : cp_170_10 v0) (hC : C0 (cf_170_10 v0)) : mz_G (d, mz_X0 L xs, some .boolean, [], mk_170, 1, Q) 10 mt_170_10 [(0, .int v0)] [] true (mz_k S R N b t) := by
  unfold cf_170_10 at hC
  unfold cp_170_10 at hp
  refine g_iload_n rfl (g_bipush mzb_15 ?_)
  refine g_icne (tg := 20) rfl ms_170_20 hC (fun h1 hC => ?_) (fun h1 hC => ?_)
  · refine g_iconst mzi_1 (g_goto (tg := 21) rfl ms_170_21 ?_)
    exact g_zret (z := true) rfl (hr _ hC)
  · refine g_iconst mzi_0 ?_
    exact g_zret (z := false) rfl (hr _ hC)
theorem cg_170_0 (hd : 0 ≤ d) (hS : mz_extR S 232) (hR : mz_rok R 232)  (v0 : Int32) {C0 : (Bool) → Prop} (hr : ∀ (w : Bool), C0 w → Q (.inl (some (.int (mz_b01 w)))) (mz_k S R N b t)) (hp : cp_170_0 v0) (hC : C0 (cf_170_0 v0)) : mz_G (d, mz_X0 L xs, some .boolean, [], mk_170, 1, Q) 0 mk_170 [(0, .int v0)] [] true (mz_k S R N b t) := by
  unfold cf_170_0 at hC
  unfold cp_170_0 at hp
  refine g_iload_n rfl ?_
  refine g_iflt (tg := 10) rfl ms_170_10 hC (fun h1 hC => ?_) (fun h1 hC => ?_)
  · have hp := hp.1 h1
    refine g_weak ?_ (cg_170_10 hd hS hR v0 hr hp hC)
    exact ⟨rfl, trivial⟩
  · have hp := hp.2 h1
    refine g_iload_n rfl (g_bipush mzb_10 ?_)
    refine g_iclt (tg := 16) rfl ms_170_16 hC (fun h2 hC => ?_) (fun h2 hC => ?_)
    · have hp := hp.1 h2
      refine g_iconst mzi_1 (g_goto (tg := 21) rfl ms_170_21 ?_)
      exact g_zret (z := true) rfl (hr _ hC)
    · have hp := hp.2 h2
      refine g_weak ?_ (cg_170_10 hd hS hR v0 hr hp hC)
      exact ⟨rfl, trivial⟩
theorem cs_170 (hd : 1 ≤ d) (hS : mz_extR S 232) (hR : mz_rok R 232)  (v0 : Int32) (hp : cp_170_0 v0) (hq : Q (.inl (some (.int (mz_b01 (cf_170_0 v0))))) (mz_k S R N b t)) : mz_Ed (mz_X0 L xs) d 170 [.int v0] (mz_k S R N b t) Q :=
  by
  refine g_in mzq_170 (Nat.le_of_ble_eq_true rfl) (Nat.le_of_ble_eq_true rfl) (Nat.le_trans (Nat.le_of_ble_eq_true rfl) hd) ?_
  refine g_weak ?_ (cg_170_0 (d := d - 1) (by omega) hS hR v0 (C0 := fun z => Q (.inl (some (.int (mz_b01 z)))) (mz_k S R N b t)) (fun _ h => h) hp hq)
  exact ⟨rfl, trivial⟩
/-! 171 KeptHouse.keep (III)I -/
theorem ms_171_0 : mz_sf mk_171 0 = mk_171 := mz_sf_zero _
theorem ms_171_26 : mz_sf mk_171 26 = mt_171_26 := mz_sf_add ms_171_0 (t := 26) rfl rfl
theorem ms_171_30 : mz_sf mk_171 30 = mt_171_30 := mz_sf_add ms_171_26 (t := 4) rfl rfl
theorem ms_171_33 : mz_sf mk_171 33 = mt_171_33 := mz_sf_add ms_171_30 (t := 3) rfl rfl
set_option maxRecDepth 100000 in
theorem mzq_171 : mz_PG0 171 = some (11, ⟨"KeptHouse", "keep", "(III)I"⟩, prog_1_method_6_code, 4, some .int, [], mk_171, []) := rfl
theorem cg_171_0 (hd : 4 ≤ d) (hS : mz_extR S 232) (hR : mz_rok R 232)  (v1 : Int32) (v2 : Int32) (v3 : Int32) (N : mz_N) (b : Bool) {C0 : (Int32 × mz_N) → Prop} (hr : ∀ (w : Int32) (N2 : mz_N), C0 (w, N2) → Q (.inl (some (.int w))) (mz_k S R N2 b t)) (hp : cp_171_0 v1 v2 v3 N b) (hC : C0 (cf_171_0 v1 v2 v3 N b)) : mz_G (d, mz_X0 L xs, some .int, [], mk_171, 4, Q) 0 mk_171 [(0, .ref 0), (1, .int v1), (2, .int v2), (3, .int v3)] [] true (mz_k S R N b t) := by
  unfold cf_171_0 at hC
  unfold cp_171_0 at hp
  refine g_aload_n rfl (g_getR (mz_at hS (Nat.le_of_ble_eq_true rfl) mzcS_0) mzcf_11_0 (mz_rb hR (Nat.le_of_ble_eq_true rfl) rfl mzcR_0_0) ?_)
  refine g_v1n (Nat.le_of_ble_eq_true rfl) (mz_at hS (Nat.le_of_ble_eq_true rfl) mzcS_1) (fun _ hq => cs_117 (Nat.le_trans (Nat.le_of_ble_eq_true rfl) hd) (hS.le (Nat.le_of_ble_eq_true rfl)) (hR.le (Nat.le_of_ble_eq_true rfl))  N trivial hq) (g_aload_n rfl (g_getR (mz_at hS (Nat.le_of_ble_eq_true rfl) mzcS_0) mzcf_11_0 (mz_rb hR (Nat.le_of_ble_eq_true rfl) rfl mzcR_0_0) (g_iload_n rfl (g_iload_n rfl ?_))))
  obtain ⟨h2, hp⟩ := hp
  refine g_v3n (Nat.le_of_ble_eq_true rfl) (mz_at hS (Nat.le_of_ble_eq_true rfl) mzcS_1) (fun _ hq => cs_119 (Nat.le_trans (Nat.le_of_ble_eq_true rfl) hd) (hS.le (Nat.le_of_ble_eq_true rfl)) (hR.le (Nat.le_of_ble_eq_true rfl))  v1 v2 (cf_117_0 N) h2 hq) (g_aload_n rfl (g_getR (mz_at hS (Nat.le_of_ble_eq_true rfl) mzcS_0) mzcf_11_0 (mz_rb hR (Nat.le_of_ble_eq_true rfl) rfl mzcR_0_0) ?_))
  have h3 := hp
  refine g_v1v (Nat.le_of_ble_eq_true rfl) (mz_at hS (Nat.le_of_ble_eq_true rfl) mzcS_1) (fun _ hq => cs_121 (Nat.le_trans (Nat.le_of_ble_eq_true rfl) hd) (hS.le (Nat.le_of_ble_eq_true rfl)) (hR.le (Nat.le_of_ble_eq_true rfl))  (cf_119_0 v1 v2 (cf_117_0 N)) b h3 hq) ?_
  refine g_zeq (tg := 30) rfl ms_171_30 hC (fun h4 hC => ?_) (fun h4 hC => ?_)
  · refine g_iload_n rfl (g_goto (tg := 33) rfl ms_171_33 ?_)
    exact g_iret rfl (hr _ _ hC)
  · refine g_sipush mzs_m1001 ?_
    exact g_iret rfl (hr _ _ hC)
theorem cs_171 (hd : 5 ≤ d) (hS : mz_extR S 232) (hR : mz_rok R 232)  (v1 : Int32) (v2 : Int32) (v3 : Int32) (N : mz_N) (b : Bool) (hp : cp_171_0 v1 v2 v3 N b) (hq : Q (.inl (some (.int ((cf_171_0 v1 v2 v3 N b).1)))) (mz_k S R ((cf_171_0 v1 v2 v3 N b).2) b t)) : mz_Ed (mz_X0 L xs) d 171 [.ref 0, .int v1, .int v2, .int v3] (mz_k S R N b t) Q :=
  by
  refine g_in mzq_171 (Nat.le_of_ble_eq_true rfl) (Nat.le_of_ble_eq_true rfl) (Nat.le_trans (Nat.le_of_ble_eq_true rfl) hd) ?_
  refine g_weak ?_ (cg_171_0 (d := d - 1) (by omega) hS hR v1 v2 v3 N b (C0 := fun z => Q (.inl (some (.int z.1))) (mz_k S R z.2 b t)) (fun _ _ h => h) hp hq)
  exact ⟨rfl, rfl, rfl, rfl, trivial⟩
/-! 169 KeptHouse.flat (III)I -/
theorem ms_169_0 : mz_sf mk_169 0 = mk_169 := mz_sf_zero _
theorem ms_169_24 : mz_sf mk_169 24 = mt_169_24 := mz_sf_add ms_169_0 (t := 24) rfl rfl
theorem ms_169_44 : mz_sf mk_169 44 = mt_169_44 := mz_sf_add ms_169_24 (t := 20) rfl rfl
set_option maxRecDepth 100000 in
theorem mzq_169 : mz_PG0 169 = some (11, ⟨"KeptHouse", "flat", "(III)I"⟩, prog_1_method_19_code, 6, some .int, [], mk_169, []) := rfl
theorem cg_169_0 (hd : 5 ≤ d) (hS : mz_extR S 232) (hR : mz_rok R 232)  (v1 : Int32) (v2 : Int32) (v3 : Int32) (N : mz_N) (b : Bool) {C0 : (Nat × Int32 × mz_N) → Prop} (hr : ∀ (w : Int32) (N2 : mz_N), C0 (0, w, N2) → Q (.inl (some (.int w))) (mz_k S R N2 b t)) (ht : ∀ (c : Nat) (w : Int32) (N2 : mz_N), ¬ c = 0 → C0 (c, w, N2) → Q (.inr (c - 1)) (mz_k S R N2 b (t + 1))) (h1000 : t < 1000) (hp : cp_169_0 v1 v2 v3 N b) (hC : C0 (cf_169_0 v1 v2 v3 N b)) : mz_G (d, mz_X0 L xs, some .int, [], mk_169, 6, Q) 0 mk_169 [(0, .ref 0), (1, .int v1), (2, .int v2), (3, .int v3)] [] true (mz_k S R N b t) := by
  unfold cf_169_0 at hC
  unfold cp_169_0 at hp
  refine g_aload_n rfl ?_
  obtain ⟨h1, hp⟩ := hp
  refine g_v1nt (Nat.le_of_ble_eq_true rfl) (mz_at hS (Nat.le_of_ble_eq_true rfl) mzcS_0) rfl (fun _ hz0 hz1 => cs_104 (Nat.le_trans (Nat.le_of_ble_eq_true rfl) hd) (hS.le (Nat.le_of_ble_eq_true rfl)) (hR.le (Nat.le_of_ble_eq_true rfl))  N h1 h1000 hz0 hz1) hC (fun h13 hC => ?_) (fun h13 hC => ?_)
  · have hp := hp.1 h13
    refine g_iload_n rfl (g_iconst mzi_0 (g_iconst mzi_4 ?_))
    obtain ⟨h2, hp⟩ := hp
    refine g_s3nt (Nat.le_of_ble_eq_true rfl) rfl (fun _ hz0 hz1 => cs_105 (Nat.le_trans (Nat.le_of_ble_eq_true rfl) hd) (hS.le (Nat.le_of_ble_eq_true rfl)) (hR.le (Nat.le_of_ble_eq_true rfl))  v1 0 4 h2 h1000 hz0 hz1) hC (fun h12 hC => ?_) (fun h12 hC => ?_)
    · have hp := hp.1 h12
      refine g_iload_n rfl (g_iconst mzi_0 (g_bipush mzb_47 ?_))
      obtain ⟨h3, hp⟩ := hp
      refine g_s3nt (Nat.le_of_ble_eq_true rfl) rfl (fun _ hz0 hz1 => cs_105 (Nat.le_trans (Nat.le_of_ble_eq_true rfl) hd) (hS.le (Nat.le_of_ble_eq_true rfl)) (hR.le (Nat.le_of_ble_eq_true rfl))  v2 0 47 h3 h1000 hz0 hz1) hC (fun h11 hC => ?_) (fun h11 hC => ?_)
      · have hp := hp.1 h11
        refine g_iload_n rfl ?_
        obtain ⟨h4, hp⟩ := hp
        refine g_s1v (Nat.le_of_ble_eq_true rfl) (fun _ hq => cs_170 (Nat.le_trans (Nat.le_of_ble_eq_true rfl) hd) (hS.le (Nat.le_of_ble_eq_true rfl)) (hR.le (Nat.le_of_ble_eq_true rfl))  v3 h4 hq) ?_
        refine g_s1nt (Nat.le_of_ble_eq_true rfl) rfl (fun _ hz0 hz1 => cs_142 (Nat.le_trans (Nat.le_of_ble_eq_true rfl) hd) (hS.le (Nat.le_of_ble_eq_true rfl)) (hR.le (Nat.le_of_ble_eq_true rfl))  (cf_170_0 v3) trivial h1000 hz0 hz1) hC (fun h10 hC => ?_) (fun h10 hC => ?_)
        · have hp := hp.1 h10
          refine g_iload_n rfl (g_bipush mzb_48 (g_imul (g_iload_n rfl (g_iadd (g_istore (Nat.le_of_ble_eq_true rfl) rfl (g_aload_n rfl (g_getR (mz_at hS (Nat.le_of_ble_eq_true rfl) mzcS_0) mzcf_11_1 (mz_rb hR (Nat.le_of_ble_eq_true rfl) rfl mzcR_0_1) ?_)))))))
          refine g_getR (mz_at hS (Nat.le_of_ble_eq_true rfl) mzcS_2) mzcf_5_15 (mz_rb hR (Nat.le_of_ble_eq_true rfl) rfl mzcR_2_15) (g_iload rfl ?_)
          obtain ⟨h6, hp⟩ := hp
          refine g_iald hS.1 (mz_at hS (Nat.le_of_ble_eq_true rfl) mzcS_37) h6 (g_istore (Nat.le_of_ble_eq_true rfl) rfl (g_aload_n rfl (g_getR (mz_at hS (Nat.le_of_ble_eq_true rfl) mzcS_0) mzcf_11_1 (mz_rb hR (Nat.le_of_ble_eq_true rfl) rfl mzcR_0_1) (g_getR (mz_at hS (Nat.le_of_ble_eq_true rfl) mzcS_2) mzcf_5_15 (mz_rb hR (Nat.le_of_ble_eq_true rfl) rfl mzcR_2_15) (g_iload rfl (g_iload_n rfl ?_))))))
          obtain ⟨h7, hp⟩ := hp
          refine g_iast (mz_at hS (Nat.le_of_ble_eq_true rfl) mzcS_37) h7 (g_aload_n rfl (g_getR (mz_at hS (Nat.le_of_ble_eq_true rfl) mzcS_0) mzcf_11_1 (mz_rb hR (Nat.le_of_ble_eq_true rfl) rfl mzcR_0_1) ?_))
          obtain ⟨h8, hp⟩ := hp
          refine g_v1n (Nat.le_of_ble_eq_true rfl) (mz_at hS (Nat.le_of_ble_eq_true rfl) mzcS_2) (fun _ hq => cs_77 (Nat.le_trans (Nat.le_of_ble_eq_true rfl) hd) (hS.le (Nat.le_of_ble_eq_true rfl)) (hR.le (Nat.le_of_ble_eq_true rfl))  (mz_wI N 37 ((v1 * 48) + v2) v3) h8 hq) (g_aload_n rfl (g_iconst mzi_2 (g_iload_n rfl (g_iload rfl ?_))))
          have h9 := hp
          refine g_v4v (Nat.le_of_ble_eq_true rfl) (mz_at hS (Nat.le_of_ble_eq_true rfl) mzcS_0) (fun _ hq => cs_171 (Nat.le_trans (Nat.le_of_ble_eq_true rfl) hd) (hS.le (Nat.le_of_ble_eq_true rfl)) (hR.le (Nat.le_of_ble_eq_true rfl))  2 v1 (mz_gI N 37 ((v1 * 48) + v2)) (cf_77_0 (mz_wI N 37 ((v1 * 48) + v2) v3)) b h9 hq) ?_
          exact g_iret rfl (hr _ _ hC)
        · have hp := hp.2 h10
          exact ht _ _ _ h10 hC
      · have hp := hp.2 h11
        exact ht _ _ _ h11 hC
    · have hp := hp.2 h12
      exact ht _ _ _ h12 hC
  · have hp := hp.2 h13
    exact ht _ _ _ h13 hC
theorem cs_169 (hd : 6 ≤ d) (hS : mz_extR S 232) (hR : mz_rok R 232)  (v1 : Int32) (v2 : Int32) (v3 : Int32) (N : mz_N) (b : Bool) (hp : cp_169_0 v1 v2 v3 N b) (h1000 : t < 1000) (h0 : (cf_169_0 v1 v2 v3 N b).1 = 0 → Q (.inl (some (.int ((cf_169_0 v1 v2 v3 N b).2.1)))) (mz_k S R ((cf_169_0 v1 v2 v3 N b).2.2) b t)) (h1 : ¬ (cf_169_0 v1 v2 v3 N b).1 = 0 → Q (.inr (((cf_169_0 v1 v2 v3 N b).1) - 1)) (mz_k S R ((cf_169_0 v1 v2 v3 N b).2.2) b (t + 1))) : mz_Ed (mz_X0 L xs) d 169 [.ref 0, .int v1, .int v2, .int v3] (mz_k S R N b t) Q :=
  by
  refine g_in mzq_169 (Nat.le_of_ble_eq_true rfl) (Nat.le_of_ble_eq_true rfl) (Nat.le_trans (Nat.le_of_ble_eq_true rfl) hd) ?_
  refine g_weak ?_ (cg_169_0 (d := d - 1) (by omega) hS hR v1 v2 v3 N b (C0 := fun z => (z.1 = 0 → Q (.inl (some (.int z.2.1))) (mz_k S R z.2.2 b t)) ∧ (¬ z.1 = 0 → Q (.inr (z.1 - 1)) (mz_k S R z.2.2 b (t + 1)))) (fun _ _ h => h.1 rfl) (fun c _ _ hc h => h.2 hc) h1000 hp ⟨h0, h1⟩)
  exact ⟨rfl, rfl, rfl, rfl, trivial⟩
/-! 168 KeptHouseLaw.flat (LKeptHouse;III[J)I -/
theorem ms_168_0 : mz_sf mk_168 0 = mk_168 := mz_sf_zero _
theorem ms_168_17 : mz_sf mk_168 17 = mt_168_17 := mz_sf_add ms_168_0 (t := 17) rfl rfl
theorem ms_168_21 : mz_sf mk_168 21 = mt_168_21 := mz_sf_add ms_168_17 (t := 4) rfl rfl
theorem ms_168_23 : mz_sf mk_168 23 = mt_168_23 := mz_sf_add ms_168_21 (t := 2) rfl rfl
set_option maxRecDepth 100000 in
theorem mzq_168 : mz_PG0 168 = some (13, ⟨"KeptHouseLaw", "flat", "(LKeptHouse;III[J)I"⟩, method_15_code, 6, some .int, [(0, 12, 15, 13), (0, 12, 19, 15)], mk_168, [(0, 15, 17), (1, 19, 21)]) := rfl
theorem cg_168_23 (hd : 6 ≤ d) (hS : mz_extR S 343) (hR : mz_rok R 343)  (N : mz_N) (b : Bool) (t : Nat) {C0 : (Int32 × mz_N × Nat) → Prop} (hr : ∀ (w : Int32) (N2 : mz_N) (t2 : Nat), C0 (w, N2, t2) → Q (.inl (some (.int w))) (mz_k S R N2 b t2)) (hp : cp_168_23 N b t) (hC : C0 (cf_168_23 N b t)) : mz_G (d, mz_X0 L xs, some .int, [(0, 15, 17), (1, 19, 21)], mk_168, 6, Q) 23 mt_168_23 [] [] false (mz_k S R N b t) := by
  unfold cf_168_23 at hC
  unfold cp_168_23 at hp
  refine g_iconst mzi_0 ?_
  exact g_iret rfl (hr _ _ _ hC)
theorem cg_168_0 (hd : 6 ≤ d) (hS : mz_extR S 343) (hR : mz_rok R 343)  (v1 : Int32) (v2 : Int32) (v3 : Int32) (N : mz_N) (b : Bool) (t : Nat) {C0 : (Int32 × mz_N × Nat) → Prop} (hr : ∀ (w : Int32) (N2 : mz_N) (t2 : Nat), C0 (w, N2, t2) → Q (.inl (some (.int w))) (mz_k S R N2 b t2)) (hp : cp_168_0 v1 v2 v3 N b t) (hC : C0 (cf_168_0 v1 v2 v3 N b t)) : mz_G (d, mz_X0 L xs, some .int, [(0, 15, 17), (1, 19, 21)], mk_168, 6, Q) 0 mk_168 [(0, .ref 0), (1, .int v1), (2, .int v2), (3, .int v3), (4, .ref 342)] [] true (mz_k S R N b t) := by
  unfold cf_168_0 at hC
  unfold cp_168_0 at hp
  refine g_aload rfl (g_iconst mzi_0 (g_aload_n rfl (g_iload_n rfl (g_iload_n rfl (g_iload_n rfl ?_)))))
  obtain ⟨h1, hp⟩ := hp
  obtain ⟨h1000, hp⟩ := hp
  refine g_v4vh (Nat.le_of_ble_eq_true rfl) (mz_at hS (Nat.le_of_ble_eq_true rfl) mzcS_0) (fun _ hz0 hz1 => cs_169 (Nat.le_trans (Nat.le_of_ble_eq_true rfl) hd) (hS.le (Nat.le_of_ble_eq_true rfl)) (hR.le (Nat.le_of_ble_eq_true rfl))  v1 v2 v3 N b h1 h1000 hz0 hz1) hC (fun h2 hC => ?_) (fun h2 hC => ?_)
  · have hp := hp.1 h2
    refine g_i2l (g_last (mz_at hS (Nat.le_of_ble_eq_true rfl) mzcS_342) (mz_ibd (by decide)) (g_goto (tg := 23) rfl ms_168_23 ?_))
    refine g_weak ?_ (g_cl (cg_168_23 hd hS hR (mz_wL ((cf_169_0 v1 v2 v3 N b).2.2) 342 0 (((cf_169_0 v1 v2 v3 N b).2.1).toInt64)) b t hr hp hC))
    exact trivial
  · have hp := hp.2 h2
    refine mz_cs hC (fun h6 hC => ?_) (fun h6 hC => ?_)
    · have hp := hp.1 h6
      refine ⟨(0, 15, 17), (by rw [h6]; rfl), ?_⟩
      show mz_G (d, mz_X0 L xs, some .int, [(0, 15, 17), (1, 19, 21)], mk_168, 6, Q) 17 (mz_sf mk_168 17) [] [] false (mz_k S R ((cf_169_0 v1 v2 v3 N b).2.2) b (t + 1))
      rw [ms_168_17]
      refine g_iconst mzi_1 ?_
      exact g_iret rfl (hr _ _ _ hC)
    · have hp := hp.2 h6
      have h4 := hp
      refine ⟨(1, 19, 21), (by rw [h4]; rfl), ?_⟩
      show mz_G (d, mz_X0 L xs, some .int, [(0, 15, 17), (1, 19, 21)], mk_168, 6, Q) 21 (mz_sf mk_168 21) [] [] false (mz_k S R ((cf_169_0 v1 v2 v3 N b).2.2) b (t + 1))
      rw [ms_168_21]
      refine g_iconst mzi_2 ?_
      exact g_iret rfl (hr _ _ _ hC)
theorem cs_168 (hd : 7 ≤ d) (hS : mz_extR S 343) (hR : mz_rok R 343)  (v1 : Int32) (v2 : Int32) (v3 : Int32) (N : mz_N) (b : Bool) (t : Nat) (hp : cp_168_0 v1 v2 v3 N b t) (hq : Q (.inl (some (.int ((cf_168_0 v1 v2 v3 N b t).1)))) (mz_k S R ((cf_168_0 v1 v2 v3 N b t).2.1) b ((cf_168_0 v1 v2 v3 N b t).2.2))) : mz_Ed (mz_X0 L xs) d 168 [.ref 0, .int v1, .int v2, .int v3, .ref 342] (mz_k S R N b t) Q :=
  by
  refine g_in mzq_168 (Nat.le_of_ble_eq_true rfl) (Nat.le_of_ble_eq_true rfl) (Nat.le_trans (Nat.le_of_ble_eq_true rfl) hd) ?_
  refine g_weak ?_ (cg_168_0 (d := d - 1) (by omega) hS hR v1 v2 v3 N b t (C0 := fun z => Q (.inl (some (.int z.1))) (mz_k S R z.2.1 b z.2.2)) (fun _ _ _ h => h) hp hq)
  exact ⟨rfl, rfl, rfl, rfl, rfl, trivial⟩
/-! 173 KeptHouse.people (III)I -/
theorem ms_173_0 : mz_sf mk_173 0 = mk_173 := mz_sf_zero _
theorem ms_173_25 : mz_sf mk_173 25 = mt_173_25 := mz_sf_add ms_173_0 (t := 25) rfl rfl
theorem ms_173_45 : mz_sf mk_173 45 = mt_173_45 := mz_sf_add ms_173_25 (t := 20) rfl rfl
set_option maxRecDepth 100000 in
theorem mzq_173 : mz_PG0 173 = some (11, ⟨"KeptHouse", "people", "(III)I"⟩, prog_1_method_20_code, 6, some .int, [], mk_173, []) := rfl
theorem cg_173_0 (hd : 5 ≤ d) (hS : mz_extR S 232) (hR : mz_rok R 232)  (v1 : Int32) (v2 : Int32) (v3 : Int32) (N : mz_N) (b : Bool) {C0 : (Nat × Int32 × mz_N) → Prop} (hr : ∀ (w : Int32) (N2 : mz_N), C0 (0, w, N2) → Q (.inl (some (.int w))) (mz_k S R N2 b t)) (ht : ∀ (c : Nat) (w : Int32) (N2 : mz_N), ¬ c = 0 → C0 (c, w, N2) → Q (.inr (c - 1)) (mz_k S R N2 b (t + 1))) (h1000 : t < 1000) (hp : cp_173_0 v1 v2 v3 N b) (hC : C0 (cf_173_0 v1 v2 v3 N b)) : mz_G (d, mz_X0 L xs, some .int, [], mk_173, 6, Q) 0 mk_173 [(0, .ref 0), (1, .int v1), (2, .int v2), (3, .int v3)] [] true (mz_k S R N b t) := by
  unfold cf_173_0 at hC
  unfold cp_173_0 at hp
  refine g_aload_n rfl ?_
  obtain ⟨h1, hp⟩ := hp
  refine g_v1nt (Nat.le_of_ble_eq_true rfl) (mz_at hS (Nat.le_of_ble_eq_true rfl) mzcS_0) rfl (fun _ hz0 hz1 => cs_104 (Nat.le_trans (Nat.le_of_ble_eq_true rfl) hd) (hS.le (Nat.le_of_ble_eq_true rfl)) (hR.le (Nat.le_of_ble_eq_true rfl))  N h1 h1000 hz0 hz1) hC (fun h11 hC => ?_) (fun h11 hC => ?_)
  · have hp := hp.1 h11
    refine g_iload_n rfl (g_iconst mzi_0 (g_bipush mzb_9 ?_))
    obtain ⟨h2, hp⟩ := hp
    refine g_s3nt (Nat.le_of_ble_eq_true rfl) rfl (fun _ hz0 hz1 => cs_105 (Nat.le_trans (Nat.le_of_ble_eq_true rfl) hd) (hS.le (Nat.le_of_ble_eq_true rfl)) (hR.le (Nat.le_of_ble_eq_true rfl))  v1 0 9 h2 h1000 hz0 hz1) hC (fun h10 hC => ?_) (fun h10 hC => ?_)
    · have hp := hp.1 h10
      refine g_iload_n rfl (g_iconst mzi_0 (g_bipush mzb_23 ?_))
      obtain ⟨h3, hp⟩ := hp
      refine g_s3nt (Nat.le_of_ble_eq_true rfl) rfl (fun _ hz0 hz1 => cs_105 (Nat.le_trans (Nat.le_of_ble_eq_true rfl) hd) (hS.le (Nat.le_of_ble_eq_true rfl)) (hR.le (Nat.le_of_ble_eq_true rfl))  v2 0 23 h3 h1000 hz0 hz1) hC (fun h9 hC => ?_) (fun h9 hC => ?_)
      · have hp := hp.1 h9
        refine g_iload_n rfl (g_iconst mzi_0 (g_bipush mzb_20 ?_))
        obtain ⟨h4, hp⟩ := hp
        refine g_s3nt (Nat.le_of_ble_eq_true rfl) rfl (fun _ hz0 hz1 => cs_105 (Nat.le_trans (Nat.le_of_ble_eq_true rfl) hd) (hS.le (Nat.le_of_ble_eq_true rfl)) (hR.le (Nat.le_of_ble_eq_true rfl))  v3 0 20 h4 h1000 hz0 hz1) hC (fun h8 hC => ?_) (fun h8 hC => ?_)
        · have hp := hp.1 h8
          refine g_iload_n rfl (g_bipush mzb_24 (g_imul (g_iload_n rfl (g_iadd (g_istore (Nat.le_of_ble_eq_true rfl) rfl (g_aload_n rfl (g_getR (mz_at hS (Nat.le_of_ble_eq_true rfl) mzcS_0) mzcf_11_1 (mz_rb hR (Nat.le_of_ble_eq_true rfl) rfl mzcR_0_1) ?_)))))))
          refine g_getR (mz_at hS (Nat.le_of_ble_eq_true rfl) mzcS_2) mzcf_5_18 (mz_rb hR (Nat.le_of_ble_eq_true rfl) rfl mzcR_2_18) (g_iload rfl ?_)
          obtain ⟨h5, hp⟩ := hp
          refine g_iald hS.1 (mz_at hS (Nat.le_of_ble_eq_true rfl) mzcS_40) h5 (g_istore (Nat.le_of_ble_eq_true rfl) rfl (g_aload_n rfl (g_getR (mz_at hS (Nat.le_of_ble_eq_true rfl) mzcS_0) mzcf_11_1 (mz_rb hR (Nat.le_of_ble_eq_true rfl) rfl mzcR_0_1) (g_getR (mz_at hS (Nat.le_of_ble_eq_true rfl) mzcS_2) mzcf_5_18 (mz_rb hR (Nat.le_of_ble_eq_true rfl) rfl mzcR_2_18) (g_iload rfl (g_iload_n rfl ?_))))))
          obtain ⟨h6, hp⟩ := hp
          refine g_iast (mz_at hS (Nat.le_of_ble_eq_true rfl) mzcS_40) h6 (g_aload_n rfl (g_iconst mzi_3 (g_iload_n rfl (g_iload rfl ?_))))
          have h7 := hp
          refine g_v4v (Nat.le_of_ble_eq_true rfl) (mz_at hS (Nat.le_of_ble_eq_true rfl) mzcS_0) (fun _ hq => cs_171 (Nat.le_trans (Nat.le_of_ble_eq_true rfl) hd) (hS.le (Nat.le_of_ble_eq_true rfl)) (hR.le (Nat.le_of_ble_eq_true rfl))  3 v1 (mz_gI N 40 ((v1 * 24) + v2)) (mz_wI N 40 ((v1 * 24) + v2) v3) b h7 hq) ?_
          exact g_iret rfl (hr _ _ hC)
        · have hp := hp.2 h8
          exact ht _ _ _ h8 hC
      · have hp := hp.2 h9
        exact ht _ _ _ h9 hC
    · have hp := hp.2 h10
      exact ht _ _ _ h10 hC
  · have hp := hp.2 h11
    exact ht _ _ _ h11 hC
theorem cs_173 (hd : 6 ≤ d) (hS : mz_extR S 232) (hR : mz_rok R 232)  (v1 : Int32) (v2 : Int32) (v3 : Int32) (N : mz_N) (b : Bool) (hp : cp_173_0 v1 v2 v3 N b) (h1000 : t < 1000) (h0 : (cf_173_0 v1 v2 v3 N b).1 = 0 → Q (.inl (some (.int ((cf_173_0 v1 v2 v3 N b).2.1)))) (mz_k S R ((cf_173_0 v1 v2 v3 N b).2.2) b t)) (h1 : ¬ (cf_173_0 v1 v2 v3 N b).1 = 0 → Q (.inr (((cf_173_0 v1 v2 v3 N b).1) - 1)) (mz_k S R ((cf_173_0 v1 v2 v3 N b).2.2) b (t + 1))) : mz_Ed (mz_X0 L xs) d 173 [.ref 0, .int v1, .int v2, .int v3] (mz_k S R N b t) Q :=
  by
  refine g_in mzq_173 (Nat.le_of_ble_eq_true rfl) (Nat.le_of_ble_eq_true rfl) (Nat.le_trans (Nat.le_of_ble_eq_true rfl) hd) ?_
  refine g_weak ?_ (cg_173_0 (d := d - 1) (by omega) hS hR v1 v2 v3 N b (C0 := fun z => (z.1 = 0 → Q (.inl (some (.int z.2.1))) (mz_k S R z.2.2 b t)) ∧ (¬ z.1 = 0 → Q (.inr (z.1 - 1)) (mz_k S R z.2.2 b (t + 1)))) (fun _ _ h => h.1 rfl) (fun c _ _ hc h => h.2 hc) h1000 hp ⟨h0, h1⟩)
  exact ⟨rfl, rfl, rfl, rfl, trivial⟩
/-! 172 KeptHouseLaw.people (LKeptHouse;III[J)I -/
theorem ms_172_0 : mz_sf mk_172 0 = mk_172 := mz_sf_zero _
theorem ms_172_17 : mz_sf mk_172 17 = mt_172_17 := mz_sf_add ms_172_0 (t := 17) rfl rfl
theorem ms_172_21 : mz_sf mk_172 21 = mt_172_21 := mz_sf_add ms_172_17 (t := 4) rfl rfl
theorem ms_172_23 : mz_sf mk_172 23 = mt_172_23 := mz_sf_add ms_172_21 (t := 2) rfl rfl
set_option maxRecDepth 100000 in
theorem mzq_172 : mz_PG0 172 = some (13, ⟨"KeptHouseLaw", "people", "(LKeptHouse;III[J)I"⟩, method_16_code, 6, some .int, [(0, 12, 15, 13), (0, 12, 19, 15)], mk_172, [(0, 15, 17), (1, 19, 21)]) := rfl
theorem cg_172_23 (hd : 6 ≤ d) (hS : mz_extR S 343) (hR : mz_rok R 343)  (N : mz_N) (b : Bool) (t : Nat) {C0 : (Int32 × mz_N × Nat) → Prop} (hr : ∀ (w : Int32) (N2 : mz_N) (t2 : Nat), C0 (w, N2, t2) → Q (.inl (some (.int w))) (mz_k S R N2 b t2)) (hp : cp_172_23 N b t) (hC : C0 (cf_172_23 N b t)) : mz_G (d, mz_X0 L xs, some .int, [(0, 15, 17), (1, 19, 21)], mk_172, 6, Q) 23 mt_172_23 [] [] false (mz_k S R N b t) := by
  unfold cf_172_23 at hC
  unfold cp_172_23 at hp
  refine g_iconst mzi_0 ?_
  exact g_iret rfl (hr _ _ _ hC)
theorem cg_172_0 (hd : 6 ≤ d) (hS : mz_extR S 343) (hR : mz_rok R 343)  (v1 : Int32) (v2 : Int32) (v3 : Int32) (N : mz_N) (b : Bool) (t : Nat) {C0 : (Int32 × mz_N × Nat) → Prop} (hr : ∀ (w : Int32) (N2 : mz_N) (t2 : Nat), C0 (w, N2, t2) → Q (.inl (some (.int w))) (mz_k S R N2 b t2)) (hp : cp_172_0 v1 v2 v3 N b t) (hC : C0 (cf_172_0 v1 v2 v3 N b t)) : mz_G (d, mz_X0 L xs, some .int, [(0, 15, 17), (1, 19, 21)], mk_172, 6, Q) 0 mk_172 [(0, .ref 0), (1, .int v1), (2, .int v2), (3, .int v3), (4, .ref 342)] [] true (mz_k S R N b t) := by
  unfold cf_172_0 at hC
  unfold cp_172_0 at hp
  refine g_aload rfl (g_iconst mzi_0 (g_aload_n rfl (g_iload_n rfl (g_iload_n rfl (g_iload_n rfl ?_)))))
  obtain ⟨h1, hp⟩ := hp
  obtain ⟨h1000, hp⟩ := hp
  refine g_v4vh (Nat.le_of_ble_eq_true rfl) (mz_at hS (Nat.le_of_ble_eq_true rfl) mzcS_0) (fun _ hz0 hz1 => cs_173 (Nat.le_trans (Nat.le_of_ble_eq_true rfl) hd) (hS.le (Nat.le_of_ble_eq_true rfl)) (hR.le (Nat.le_of_ble_eq_true rfl))  v1 v2 v3 N b h1 h1000 hz0 hz1) hC (fun h2 hC => ?_) (fun h2 hC => ?_)
  · have hp := hp.1 h2
    refine g_i2l (g_last (mz_at hS (Nat.le_of_ble_eq_true rfl) mzcS_342) (mz_ibd (by decide)) (g_goto (tg := 23) rfl ms_172_23 ?_))
    refine g_weak ?_ (g_cl (cg_172_23 hd hS hR (mz_wL ((cf_173_0 v1 v2 v3 N b).2.2) 342 0 (((cf_173_0 v1 v2 v3 N b).2.1).toInt64)) b t hr hp hC))
    exact trivial
  · have hp := hp.2 h2
    refine mz_cs hC (fun h6 hC => ?_) (fun h6 hC => ?_)
    · have hp := hp.1 h6
      refine ⟨(0, 15, 17), (by rw [h6]; rfl), ?_⟩
      show mz_G (d, mz_X0 L xs, some .int, [(0, 15, 17), (1, 19, 21)], mk_172, 6, Q) 17 (mz_sf mk_172 17) [] [] false (mz_k S R ((cf_173_0 v1 v2 v3 N b).2.2) b (t + 1))
      rw [ms_172_17]
      refine g_iconst mzi_1 ?_
      exact g_iret rfl (hr _ _ _ hC)
    · have hp := hp.2 h6
      have h4 := hp
      refine ⟨(1, 19, 21), (by rw [h4]; rfl), ?_⟩
      show mz_G (d, mz_X0 L xs, some .int, [(0, 15, 17), (1, 19, 21)], mk_172, 6, Q) 21 (mz_sf mk_172 21) [] [] false (mz_k S R ((cf_173_0 v1 v2 v3 N b).2.2) b (t + 1))
      rw [ms_172_21]
      refine g_iconst mzi_2 ?_
      exact g_iret rfl (hr _ _ _ hC)
theorem cs_172 (hd : 7 ≤ d) (hS : mz_extR S 343) (hR : mz_rok R 343)  (v1 : Int32) (v2 : Int32) (v3 : Int32) (N : mz_N) (b : Bool) (t : Nat) (hp : cp_172_0 v1 v2 v3 N b t) (hq : Q (.inl (some (.int ((cf_172_0 v1 v2 v3 N b t).1)))) (mz_k S R ((cf_172_0 v1 v2 v3 N b t).2.1) b ((cf_172_0 v1 v2 v3 N b t).2.2))) : mz_Ed (mz_X0 L xs) d 172 [.ref 0, .int v1, .int v2, .int v3, .ref 342] (mz_k S R N b t) Q :=
  by
  refine g_in mzq_172 (Nat.le_of_ble_eq_true rfl) (Nat.le_of_ble_eq_true rfl) (Nat.le_trans (Nat.le_of_ble_eq_true rfl) hd) ?_
  refine g_weak ?_ (cg_172_0 (d := d - 1) (by omega) hS hR v1 v2 v3 N b t (C0 := fun z => Q (.inl (some (.int z.1))) (mz_k S R z.2.1 b z.2.2)) (fun _ _ _ h => h) hp hq)
  exact ⟨rfl, rfl, rfl, rfl, rfl, trivial⟩
/-! 175 KeptHouse.weather (II)I -/
theorem ms_175_0 : mz_sf mk_175 0 = mk_175 := mz_sf_zero _
theorem ms_175_31 : mz_sf mk_175 31 = mt_175_31 := mz_sf_add ms_175_0 (t := 31) rfl rfl
set_option maxRecDepth 100000 in
theorem mzq_175 : mz_PG0 175 = some (11, ⟨"KeptHouse", "weather", "(II)I"⟩, prog_1_method_21_code, 4, some .int, [], mk_175, []) := rfl
theorem cg_175_0 (hd : 5 ≤ d) (hS : mz_extR S 232) (hR : mz_rok R 232)  (v1 : Int32) (v2 : Int32) (N : mz_N) (b : Bool) {C0 : (Nat × Int32 × mz_N) → Prop} (hr : ∀ (w : Int32) (N2 : mz_N), C0 (0, w, N2) → Q (.inl (some (.int w))) (mz_k S R N2 b t)) (ht : ∀ (c : Nat) (w : Int32) (N2 : mz_N), ¬ c = 0 → C0 (c, w, N2) → Q (.inr (c - 1)) (mz_k S R N2 b (t + 1))) (h1000 : t < 1000) (hp : cp_175_0 v1 v2 N b) (hC : C0 (cf_175_0 v1 v2 N b)) : mz_G (d, mz_X0 L xs, some .int, [], mk_175, 4, Q) 0 mk_175 [(0, .ref 0), (1, .int v1), (2, .int v2)] [] true (mz_k S R N b t) := by
  unfold cf_175_0 at hC
  unfold cp_175_0 at hp
  refine g_aload_n rfl ?_
  obtain ⟨h1, hp⟩ := hp
  refine g_v1nt (Nat.le_of_ble_eq_true rfl) (mz_at hS (Nat.le_of_ble_eq_true rfl) mzcS_0) rfl (fun _ hz0 hz1 => cs_104 (Nat.le_trans (Nat.le_of_ble_eq_true rfl) hd) (hS.le (Nat.le_of_ble_eq_true rfl)) (hR.le (Nat.le_of_ble_eq_true rfl))  N h1 h1000 hz0 hz1) hC (fun h9 hC => ?_) (fun h9 hC => ?_)
  · have hp := hp.1 h9
    refine g_iload_n rfl (g_iconst mzi_0 (g_bipush mzb_23 ?_))
    obtain ⟨h2, hp⟩ := hp
    refine g_s3nt (Nat.le_of_ble_eq_true rfl) rfl (fun _ hz0 hz1 => cs_105 (Nat.le_trans (Nat.le_of_ble_eq_true rfl) hd) (hS.le (Nat.le_of_ble_eq_true rfl)) (hR.le (Nat.le_of_ble_eq_true rfl))  v1 0 23 h2 h1000 hz0 hz1) hC (fun h8 hC => ?_) (fun h8 hC => ?_)
    · have hp := hp.1 h8
      refine g_iload_n rfl (g_sipush mzs_m400 (g_sipush mzs_500 ?_))
      obtain ⟨h3, hp⟩ := hp
      refine g_s3nt (Nat.le_of_ble_eq_true rfl) rfl (fun _ hz0 hz1 => cs_105 (Nat.le_trans (Nat.le_of_ble_eq_true rfl) hd) (hS.le (Nat.le_of_ble_eq_true rfl)) (hR.le (Nat.le_of_ble_eq_true rfl))  v2 (-400) 500 h3 h1000 hz0 hz1) hC (fun h7 hC => ?_) (fun h7 hC => ?_)
      · have hp := hp.1 h7
        refine g_aload_n rfl (g_getR (mz_at hS (Nat.le_of_ble_eq_true rfl) mzcS_0) mzcf_11_4 (mz_rb hR (Nat.le_of_ble_eq_true rfl) rfl mzcR_0_4) (g_getR (mz_at hS (Nat.le_of_ble_eq_true rfl) mzcS_65) mzcf_3_0 (mz_rb hR (Nat.le_of_ble_eq_true rfl) rfl mzcR_65_0) (g_iload_n rfl ?_)))
        obtain ⟨h4, hp⟩ := hp
        refine g_iald hS.1 (mz_at hS (Nat.le_of_ble_eq_true rfl) mzcS_66) h4 (g_istore_n (Nat.le_of_ble_eq_true rfl) rfl (g_aload_n rfl (g_getR (mz_at hS (Nat.le_of_ble_eq_true rfl) mzcS_0) mzcf_11_4 (mz_rb hR (Nat.le_of_ble_eq_true rfl) rfl mzcR_0_4) (g_getR (mz_at hS (Nat.le_of_ble_eq_true rfl) mzcS_65) mzcf_3_0 (mz_rb hR (Nat.le_of_ble_eq_true rfl) rfl mzcR_65_0) (g_iload_n rfl (g_iload_n rfl ?_))))))
        obtain ⟨h5, hp⟩ := hp
        refine g_iast (mz_at hS (Nat.le_of_ble_eq_true rfl) mzcS_66) h5 (g_aload_n rfl (g_iconst mzi_4 (g_iload_n rfl (g_bipush mzb_12 (g_idiv (by decide) (g_iload_n rfl ?_))))))
        have h6 := hp
        refine g_v4v (Nat.le_of_ble_eq_true rfl) (mz_at hS (Nat.le_of_ble_eq_true rfl) mzcS_0) (fun _ hq => cs_171 (Nat.le_trans (Nat.le_of_ble_eq_true rfl) hd) (hS.le (Nat.le_of_ble_eq_true rfl)) (hR.le (Nat.le_of_ble_eq_true rfl))  4 (v1 / 12) (mz_gI N 66 v1) (mz_wI N 66 v1 v2) b h6 hq) ?_
        exact g_iret rfl (hr _ _ hC)
      · have hp := hp.2 h7
        exact ht _ _ _ h7 hC
    · have hp := hp.2 h8
      exact ht _ _ _ h8 hC
  · have hp := hp.2 h9
    exact ht _ _ _ h9 hC
theorem cs_175 (hd : 6 ≤ d) (hS : mz_extR S 232) (hR : mz_rok R 232)  (v1 : Int32) (v2 : Int32) (N : mz_N) (b : Bool) (hp : cp_175_0 v1 v2 N b) (h1000 : t < 1000) (h0 : (cf_175_0 v1 v2 N b).1 = 0 → Q (.inl (some (.int ((cf_175_0 v1 v2 N b).2.1)))) (mz_k S R ((cf_175_0 v1 v2 N b).2.2) b t)) (h1 : ¬ (cf_175_0 v1 v2 N b).1 = 0 → Q (.inr (((cf_175_0 v1 v2 N b).1) - 1)) (mz_k S R ((cf_175_0 v1 v2 N b).2.2) b (t + 1))) : mz_Ed (mz_X0 L xs) d 175 [.ref 0, .int v1, .int v2] (mz_k S R N b t) Q :=
  by
  refine g_in mzq_175 (Nat.le_of_ble_eq_true rfl) (Nat.le_of_ble_eq_true rfl) (Nat.le_trans (Nat.le_of_ble_eq_true rfl) hd) ?_
  refine g_weak ?_ (cg_175_0 (d := d - 1) (by omega) hS hR v1 v2 N b (C0 := fun z => (z.1 = 0 → Q (.inl (some (.int z.2.1))) (mz_k S R z.2.2 b t)) ∧ (¬ z.1 = 0 → Q (.inr (z.1 - 1)) (mz_k S R z.2.2 b (t + 1)))) (fun _ _ h => h.1 rfl) (fun c _ _ hc h => h.2 hc) h1000 hp ⟨h0, h1⟩)
  exact ⟨rfl, rfl, rfl, trivial⟩
/-! 174 KeptHouseLaw.weather (LKeptHouse;II[J)I -/
theorem ms_174_0 : mz_sf mk_174 0 = mk_174 := mz_sf_zero _
theorem ms_174_15 : mz_sf mk_174 15 = mt_174_15 := mz_sf_add ms_174_0 (t := 15) rfl rfl
theorem ms_174_19 : mz_sf mk_174 19 = mt_174_19 := mz_sf_add ms_174_15 (t := 4) rfl rfl
theorem ms_174_21 : mz_sf mk_174 21 = mt_174_21 := mz_sf_add ms_174_19 (t := 2) rfl rfl
set_option maxRecDepth 100000 in
theorem mzq_174 : mz_PG0 174 = some (13, ⟨"KeptHouseLaw", "weather", "(LKeptHouse;II[J)I"⟩, method_17_code, 5, some .int, [(0, 10, 13, 13), (0, 10, 17, 15)], mk_174, [(0, 13, 15), (1, 17, 19)]) := rfl
theorem cg_174_21 (hd : 6 ≤ d) (hS : mz_extR S 343) (hR : mz_rok R 343)  (N : mz_N) (b : Bool) (t : Nat) {C0 : (Int32 × mz_N × Nat) → Prop} (hr : ∀ (w : Int32) (N2 : mz_N) (t2 : Nat), C0 (w, N2, t2) → Q (.inl (some (.int w))) (mz_k S R N2 b t2)) (hp : cp_174_21 N b t) (hC : C0 (cf_174_21 N b t)) : mz_G (d, mz_X0 L xs, some .int, [(0, 13, 15), (1, 17, 19)], mk_174, 5, Q) 21 mt_174_21 [] [] false (mz_k S R N b t) := by
  unfold cf_174_21 at hC
  unfold cp_174_21 at hp
  refine g_iconst mzi_0 ?_
  exact g_iret rfl (hr _ _ _ hC)
theorem cg_174_0 (hd : 6 ≤ d) (hS : mz_extR S 343) (hR : mz_rok R 343)  (v1 : Int32) (v2 : Int32) (N : mz_N) (b : Bool) (t : Nat) {C0 : (Int32 × mz_N × Nat) → Prop} (hr : ∀ (w : Int32) (N2 : mz_N) (t2 : Nat), C0 (w, N2, t2) → Q (.inl (some (.int w))) (mz_k S R N2 b t2)) (hp : cp_174_0 v1 v2 N b t) (hC : C0 (cf_174_0 v1 v2 N b t)) : mz_G (d, mz_X0 L xs, some .int, [(0, 13, 15), (1, 17, 19)], mk_174, 5, Q) 0 mk_174 [(0, .ref 0), (1, .int v1), (2, .int v2), (3, .ref 342)] [] true (mz_k S R N b t) := by
  unfold cf_174_0 at hC
  unfold cp_174_0 at hp
  refine g_aload_n rfl (g_iconst mzi_0 (g_aload_n rfl (g_iload_n rfl (g_iload_n rfl ?_))))
  obtain ⟨h1, hp⟩ := hp
  obtain ⟨h1000, hp⟩ := hp
  refine g_v3vh (Nat.le_of_ble_eq_true rfl) (mz_at hS (Nat.le_of_ble_eq_true rfl) mzcS_0) (fun _ hz0 hz1 => cs_175 (Nat.le_trans (Nat.le_of_ble_eq_true rfl) hd) (hS.le (Nat.le_of_ble_eq_true rfl)) (hR.le (Nat.le_of_ble_eq_true rfl))  v1 v2 N b h1 h1000 hz0 hz1) hC (fun h2 hC => ?_) (fun h2 hC => ?_)
  · have hp := hp.1 h2
    refine g_i2l (g_last (mz_at hS (Nat.le_of_ble_eq_true rfl) mzcS_342) (mz_ibd (by decide)) (g_goto (tg := 21) rfl ms_174_21 ?_))
    refine g_weak ?_ (g_cl (cg_174_21 hd hS hR (mz_wL ((cf_175_0 v1 v2 N b).2.2) 342 0 (((cf_175_0 v1 v2 N b).2.1).toInt64)) b t hr hp hC))
    exact trivial
  · have hp := hp.2 h2
    refine mz_cs hC (fun h6 hC => ?_) (fun h6 hC => ?_)
    · have hp := hp.1 h6
      refine ⟨(0, 13, 15), (by rw [h6]; rfl), ?_⟩
      show mz_G (d, mz_X0 L xs, some .int, [(0, 13, 15), (1, 17, 19)], mk_174, 5, Q) 15 (mz_sf mk_174 15) [] [] false (mz_k S R ((cf_175_0 v1 v2 N b).2.2) b (t + 1))
      rw [ms_174_15]
      refine g_iconst mzi_1 ?_
      exact g_iret rfl (hr _ _ _ hC)
    · have hp := hp.2 h6
      have h4 := hp
      refine ⟨(1, 17, 19), (by rw [h4]; rfl), ?_⟩
      show mz_G (d, mz_X0 L xs, some .int, [(0, 13, 15), (1, 17, 19)], mk_174, 5, Q) 19 (mz_sf mk_174 19) [] [] false (mz_k S R ((cf_175_0 v1 v2 N b).2.2) b (t + 1))
      rw [ms_174_19]
      refine g_iconst mzi_2 ?_
      exact g_iret rfl (hr _ _ _ hC)
theorem cs_174 (hd : 7 ≤ d) (hS : mz_extR S 343) (hR : mz_rok R 343)  (v1 : Int32) (v2 : Int32) (N : mz_N) (b : Bool) (t : Nat) (hp : cp_174_0 v1 v2 N b t) (hq : Q (.inl (some (.int ((cf_174_0 v1 v2 N b t).1)))) (mz_k S R ((cf_174_0 v1 v2 N b t).2.1) b ((cf_174_0 v1 v2 N b t).2.2))) : mz_Ed (mz_X0 L xs) d 174 [.ref 0, .int v1, .int v2, .ref 342] (mz_k S R N b t) Q :=
  by
  refine g_in mzq_174 (Nat.le_of_ble_eq_true rfl) (Nat.le_of_ble_eq_true rfl) (Nat.le_trans (Nat.le_of_ble_eq_true rfl) hd) ?_
  refine g_weak ?_ (cg_174_0 (d := d - 1) (by omega) hS hR v1 v2 N b t (C0 := fun z => Q (.inl (some (.int z.1))) (mz_k S R z.2.1 b z.2.2)) (fun _ _ _ h => h) hp hq)
  exact ⟨rfl, rfl, rfl, rfl, trivial⟩
end Fn7
