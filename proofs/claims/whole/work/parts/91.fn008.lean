/-! THE FUNCTIONS: written by program: each method comes to its function. -/
section Fn8
variable {L : Nat} {xs : Nat → Int32} {d : Nat} {S : mz_S} {R : Nat → Nat → Option Nat} {Q : mz_Q} {N : mz_N} {b : Bool} {t : Nat}
/-! 177 KeptHouse.sun (III)I -/
theorem ms_177_0 : mz_sf mk_177 0 = mk_177 := mz_sf_zero _
theorem ms_177_25 : mz_sf mk_177 25 = mt_177_25 := mz_sf_add ms_177_0 (t := 25) rfl rfl
theorem ms_177_45 : mz_sf mk_177 45 = mt_177_45 := mz_sf_add ms_177_25 (t := 20) rfl rfl
set_option maxRecDepth 100000 in
theorem mzq_177 : mz_PG0 177 = some (11, ⟨"KeptHouse", "sun", "(III)I"⟩, prog_1_method_22_code, 6, some .int, [], mk_177, []) := rfl
theorem cg_177_0 (hd : 5 ≤ d) (hS : mz_extR S 232) (hR : mz_rok R 232)  (v1 : Int32) (v2 : Int32) (v3 : Int32) (N : mz_N) (b : Bool) {C0 : (Nat × Int32 × mz_N) → Prop} (hr : ∀ (w : Int32) (N2 : mz_N), C0 (0, w, N2) → Q (.inl (some (.int w))) (mz_k S R N2 b t)) (ht : ∀ (c : Nat) (w : Int32) (N2 : mz_N), ¬ c = 0 → C0 (c, w, N2) → Q (.inr (c - 1)) (mz_k S R N2 b (t + 1))) (h1000 : t < 1000) (hp : cp_177_0 v1 v2 v3 N b) (hC : C0 (cf_177_0 v1 v2 v3 N b)) : mz_G (d, mz_X0 L xs, some .int, [], mk_177, 6, Q) 0 mk_177 [(0, .ref 0), (1, .int v1), (2, .int v2), (3, .int v3)] [] true (mz_k S R N b t) := by
  unfold cf_177_0 at hC
  unfold cp_177_0 at hp
  refine g_aload_n rfl ?_
  obtain ⟨h1, hp⟩ := hp
  refine g_v1nt (Nat.le_of_ble_eq_true rfl) (mz_at hS (Nat.le_of_ble_eq_true rfl) mzcS_0) rfl (fun _ hz0 hz1 => cs_104 (Nat.le_trans (Nat.le_of_ble_eq_true rfl) hd) (hS.le (Nat.le_of_ble_eq_true rfl)) (hR.le (Nat.le_of_ble_eq_true rfl))  N h1 h1000 hz0 hz1) hC (fun h11 hC => ?_) (fun h11 hC => ?_)
  · have hp := hp.1 h11
    refine g_iload_n rfl (g_iconst mzi_0 (g_iconst mzi_3 ?_))
    obtain ⟨h2, hp⟩ := hp
    refine g_s3nt (Nat.le_of_ble_eq_true rfl) rfl (fun _ hz0 hz1 => cs_105 (Nat.le_trans (Nat.le_of_ble_eq_true rfl) hd) (hS.le (Nat.le_of_ble_eq_true rfl)) (hR.le (Nat.le_of_ble_eq_true rfl))  v1 0 3 h2 h1000 hz0 hz1) hC (fun h10 hC => ?_) (fun h10 hC => ?_)
    · have hp := hp.1 h10
      refine g_iload_n rfl (g_iconst mzi_0 (g_bipush mzb_23 ?_))
      obtain ⟨h3, hp⟩ := hp
      refine g_s3nt (Nat.le_of_ble_eq_true rfl) rfl (fun _ hz0 hz1 => cs_105 (Nat.le_trans (Nat.le_of_ble_eq_true rfl) hd) (hS.le (Nat.le_of_ble_eq_true rfl)) (hR.le (Nat.le_of_ble_eq_true rfl))  v2 0 23 h3 h1000 hz0 hz1) hC (fun h9 hC => ?_) (fun h9 hC => ?_)
      · have hp := hp.1 h9
        refine g_iload_n rfl (g_iconst mzi_0 (g_sipush mzs_200 ?_))
        obtain ⟨h4, hp⟩ := hp
        refine g_s3nt (Nat.le_of_ble_eq_true rfl) rfl (fun _ hz0 hz1 => cs_105 (Nat.le_trans (Nat.le_of_ble_eq_true rfl) hd) (hS.le (Nat.le_of_ble_eq_true rfl)) (hR.le (Nat.le_of_ble_eq_true rfl))  v3 0 200 h4 h1000 hz0 hz1) hC (fun h8 hC => ?_) (fun h8 hC => ?_)
        · have hp := hp.1 h8
          refine g_iload_n rfl (g_bipush mzb_24 (g_imul (g_iload_n rfl (g_iadd (g_istore (Nat.le_of_ble_eq_true rfl) rfl (g_aload_n rfl (g_getR (mz_at hS (Nat.le_of_ble_eq_true rfl) mzcS_0) mzcf_11_4 (mz_rb hR (Nat.le_of_ble_eq_true rfl) rfl mzcR_0_4) ?_)))))))
          refine g_getR (mz_at hS (Nat.le_of_ble_eq_true rfl) mzcS_65) mzcf_3_1 (mz_rb hR (Nat.le_of_ble_eq_true rfl) rfl mzcR_65_1) (g_iload rfl ?_)
          obtain ⟨h5, hp⟩ := hp
          refine g_iald hS.1 (mz_at hS (Nat.le_of_ble_eq_true rfl) mzcS_67) h5 (g_istore (Nat.le_of_ble_eq_true rfl) rfl (g_aload_n rfl (g_getR (mz_at hS (Nat.le_of_ble_eq_true rfl) mzcS_0) mzcf_11_4 (mz_rb hR (Nat.le_of_ble_eq_true rfl) rfl mzcR_0_4) (g_getR (mz_at hS (Nat.le_of_ble_eq_true rfl) mzcS_65) mzcf_3_1 (mz_rb hR (Nat.le_of_ble_eq_true rfl) rfl mzcR_65_1) (g_iload rfl (g_iload_n rfl ?_))))))
          obtain ⟨h6, hp⟩ := hp
          refine g_iast (mz_at hS (Nat.le_of_ble_eq_true rfl) mzcS_67) h6 (g_aload_n rfl (g_iconst mzi_5 (g_iload_n rfl (g_iload rfl ?_))))
          have h7 := hp
          refine g_v4v (Nat.le_of_ble_eq_true rfl) (mz_at hS (Nat.le_of_ble_eq_true rfl) mzcS_0) (fun _ hq => cs_171 (Nat.le_trans (Nat.le_of_ble_eq_true rfl) hd) (hS.le (Nat.le_of_ble_eq_true rfl)) (hR.le (Nat.le_of_ble_eq_true rfl))  5 v1 (mz_gI N 67 ((v1 * 24) + v2)) (mz_wI N 67 ((v1 * 24) + v2) v3) b h7 hq) ?_
          exact g_iret rfl (hr _ _ hC)
        · have hp := hp.2 h8
          exact ht _ _ _ h8 hC
      · have hp := hp.2 h9
        exact ht _ _ _ h9 hC
    · have hp := hp.2 h10
      exact ht _ _ _ h10 hC
  · have hp := hp.2 h11
    exact ht _ _ _ h11 hC
theorem cs_177 (hd : 6 ≤ d) (hS : mz_extR S 232) (hR : mz_rok R 232)  (v1 : Int32) (v2 : Int32) (v3 : Int32) (N : mz_N) (b : Bool) (hp : cp_177_0 v1 v2 v3 N b) (h1000 : t < 1000) (h0 : (cf_177_0 v1 v2 v3 N b).1 = 0 → Q (.inl (some (.int ((cf_177_0 v1 v2 v3 N b).2.1)))) (mz_k S R ((cf_177_0 v1 v2 v3 N b).2.2) b t)) (h1 : ¬ (cf_177_0 v1 v2 v3 N b).1 = 0 → Q (.inr (((cf_177_0 v1 v2 v3 N b).1) - 1)) (mz_k S R ((cf_177_0 v1 v2 v3 N b).2.2) b (t + 1))) : mz_Ed (mz_X0 L xs) d 177 [.ref 0, .int v1, .int v2, .int v3] (mz_k S R N b t) Q :=
  by
  refine g_in mzq_177 (Nat.le_of_ble_eq_true rfl) (Nat.le_of_ble_eq_true rfl) (Nat.le_trans (Nat.le_of_ble_eq_true rfl) hd) ?_
  refine g_weak ?_ (cg_177_0 (d := d - 1) (by omega) hS hR v1 v2 v3 N b (C0 := fun z => (z.1 = 0 → Q (.inl (some (.int z.2.1))) (mz_k S R z.2.2 b t)) ∧ (¬ z.1 = 0 → Q (.inr (z.1 - 1)) (mz_k S R z.2.2 b (t + 1)))) (fun _ _ h => h.1 rfl) (fun c _ _ hc h => h.2 hc) h1000 hp ⟨h0, h1⟩)
  exact ⟨rfl, rfl, rfl, rfl, trivial⟩
/-! 176 KeptHouseLaw.sun (LKeptHouse;III[J)I -/
theorem ms_176_0 : mz_sf mk_176 0 = mk_176 := mz_sf_zero _
theorem ms_176_17 : mz_sf mk_176 17 = mt_176_17 := mz_sf_add ms_176_0 (t := 17) rfl rfl
theorem ms_176_21 : mz_sf mk_176 21 = mt_176_21 := mz_sf_add ms_176_17 (t := 4) rfl rfl
theorem ms_176_23 : mz_sf mk_176 23 = mt_176_23 := mz_sf_add ms_176_21 (t := 2) rfl rfl
set_option maxRecDepth 100000 in
theorem mzq_176 : mz_PG0 176 = some (13, ⟨"KeptHouseLaw", "sun", "(LKeptHouse;III[J)I"⟩, method_18_code, 6, some .int, [(0, 12, 15, 13), (0, 12, 19, 15)], mk_176, [(0, 15, 17), (1, 19, 21)]) := rfl
theorem cg_176_23 (hd : 6 ≤ d) (hS : mz_extR S 343) (hR : mz_rok R 343)  (N : mz_N) (b : Bool) (t : Nat) {C0 : (Int32 × mz_N × Nat) → Prop} (hr : ∀ (w : Int32) (N2 : mz_N) (t2 : Nat), C0 (w, N2, t2) → Q (.inl (some (.int w))) (mz_k S R N2 b t2)) (hp : cp_176_23 N b t) (hC : C0 (cf_176_23 N b t)) : mz_G (d, mz_X0 L xs, some .int, [(0, 15, 17), (1, 19, 21)], mk_176, 6, Q) 23 mt_176_23 [] [] false (mz_k S R N b t) := by
  unfold cf_176_23 at hC
  unfold cp_176_23 at hp
  refine g_iconst mzi_0 ?_
  exact g_iret rfl (hr _ _ _ hC)
theorem cg_176_0 (hd : 6 ≤ d) (hS : mz_extR S 343) (hR : mz_rok R 343)  (v1 : Int32) (v2 : Int32) (v3 : Int32) (N : mz_N) (b : Bool) (t : Nat) {C0 : (Int32 × mz_N × Nat) → Prop} (hr : ∀ (w : Int32) (N2 : mz_N) (t2 : Nat), C0 (w, N2, t2) → Q (.inl (some (.int w))) (mz_k S R N2 b t2)) (hp : cp_176_0 v1 v2 v3 N b t) (hC : C0 (cf_176_0 v1 v2 v3 N b t)) : mz_G (d, mz_X0 L xs, some .int, [(0, 15, 17), (1, 19, 21)], mk_176, 6, Q) 0 mk_176 [(0, .ref 0), (1, .int v1), (2, .int v2), (3, .int v3), (4, .ref 342)] [] true (mz_k S R N b t) := by
  unfold cf_176_0 at hC
  unfold cp_176_0 at hp
  refine g_aload rfl (g_iconst mzi_0 (g_aload_n rfl (g_iload_n rfl (g_iload_n rfl (g_iload_n rfl ?_)))))
  obtain ⟨h1, hp⟩ := hp
  obtain ⟨h1000, hp⟩ := hp
  refine g_v4vh (Nat.le_of_ble_eq_true rfl) (mz_at hS (Nat.le_of_ble_eq_true rfl) mzcS_0) (fun _ hz0 hz1 => cs_177 (Nat.le_trans (Nat.le_of_ble_eq_true rfl) hd) (hS.le (Nat.le_of_ble_eq_true rfl)) (hR.le (Nat.le_of_ble_eq_true rfl))  v1 v2 v3 N b h1 h1000 hz0 hz1) hC (fun h2 hC => ?_) (fun h2 hC => ?_)
  · have hp := hp.1 h2
    refine g_i2l (g_last (mz_at hS (Nat.le_of_ble_eq_true rfl) mzcS_342) (mz_ibd (by decide)) (g_goto (tg := 23) rfl ms_176_23 ?_))
    refine g_weak ?_ (g_cl (cg_176_23 hd hS hR (mz_wL ((cf_177_0 v1 v2 v3 N b).2.2) 342 0 (((cf_177_0 v1 v2 v3 N b).2.1).toInt64)) b t hr hp hC))
    exact trivial
  · have hp := hp.2 h2
    refine mz_cs hC (fun h6 hC => ?_) (fun h6 hC => ?_)
    · have hp := hp.1 h6
      refine ⟨(0, 15, 17), (by rw [h6]; rfl), ?_⟩
      show mz_G (d, mz_X0 L xs, some .int, [(0, 15, 17), (1, 19, 21)], mk_176, 6, Q) 17 (mz_sf mk_176 17) [] [] false (mz_k S R ((cf_177_0 v1 v2 v3 N b).2.2) b (t + 1))
      rw [ms_176_17]
      refine g_iconst mzi_1 ?_
      exact g_iret rfl (hr _ _ _ hC)
    · have hp := hp.2 h6
      have h4 := hp
      refine ⟨(1, 19, 21), (by rw [h4]; rfl), ?_⟩
      show mz_G (d, mz_X0 L xs, some .int, [(0, 15, 17), (1, 19, 21)], mk_176, 6, Q) 21 (mz_sf mk_176 21) [] [] false (mz_k S R ((cf_177_0 v1 v2 v3 N b).2.2) b (t + 1))
      rw [ms_176_21]
      refine g_iconst mzi_2 ?_
      exact g_iret rfl (hr _ _ _ hC)
theorem cs_176 (hd : 7 ≤ d) (hS : mz_extR S 343) (hR : mz_rok R 343)  (v1 : Int32) (v2 : Int32) (v3 : Int32) (N : mz_N) (b : Bool) (t : Nat) (hp : cp_176_0 v1 v2 v3 N b t) (hq : Q (.inl (some (.int ((cf_176_0 v1 v2 v3 N b t).1)))) (mz_k S R ((cf_176_0 v1 v2 v3 N b t).2.1) b ((cf_176_0 v1 v2 v3 N b t).2.2))) : mz_Ed (mz_X0 L xs) d 176 [.ref 0, .int v1, .int v2, .int v3, .ref 342] (mz_k S R N b t) Q :=
  by
  refine g_in mzq_176 (Nat.le_of_ble_eq_true rfl) (Nat.le_of_ble_eq_true rfl) (Nat.le_trans (Nat.le_of_ble_eq_true rfl) hd) ?_
  refine g_weak ?_ (cg_176_0 (d := d - 1) (by omega) hS hR v1 v2 v3 N b t (C0 := fun z => Q (.inl (some (.int z.1))) (mz_k S R z.2.1 b z.2.2)) (fun _ _ _ h => h) hp hq)
  exact ⟨rfl, rfl, rfl, rfl, rfl, trivial⟩
/-! 179 KeptHouse.rate (III)I -/
theorem ms_179_0 : mz_sf mk_179 0 = mk_179 := mz_sf_zero _
theorem ms_179_26 : mz_sf mk_179 26 = mt_179_26 := mz_sf_add ms_179_0 (t := 26) rfl rfl
theorem ms_179_51 : mz_sf mk_179 51 = mt_179_51 := mz_sf_add ms_179_26 (t := 25) rfl rfl
theorem ms_179_80 : mz_sf mk_179 80 = mt_179_80 := mz_sf_add ms_179_51 (t := 29) rfl rfl
theorem ms_179_105 : mz_sf mk_179 105 = mt_179_105 := mz_sf_add ms_179_80 (t := 25) rfl rfl
theorem ms_179_108 : mz_sf mk_179 108 = mt_179_108 := mz_sf_add ms_179_105 (t := 3) rfl rfl
set_option maxRecDepth 100000 in
theorem mzq_179 : mz_PG0 179 = some (11, ⟨"KeptHouse", "rate", "(III)I"⟩, prog_1_method_23_code, 5, some .int, [], mk_179, []) := rfl
theorem cg_179_105 (hd : 4 ≤ d) (hS : mz_extR S 232) (hR : mz_rok R 232)  (N : mz_N) (b : Bool) {C0 : (Nat × Int32 × mz_N) → Prop} (hr : ∀ (w : Int32) (N2 : mz_N), C0 (0, w, N2) → Q (.inl (some (.int w))) (mz_k S R N2 b t)) (ht : ∀ (c : Nat) (w : Int32) (N2 : mz_N), ¬ c = 0 → C0 (c, w, N2) → Q (.inr (c - 1)) (mz_k S R N2 b (t + 1))) (h1000 : t < 1000) (hp : cp_179_105 N b) (hC : C0 (cf_179_105 N b)) : mz_G (d, mz_X0 L xs, some .int, [], mk_179, 5, Q) 105 mt_179_105 [] [] false (mz_k S R N b t) := by
  unfold cf_179_105 at hC
  unfold cp_179_105 at hp
  refine g_sipush mzs_m1001 ?_
  exact g_iret rfl (hr _ _ hC)
theorem cg_179_0 (hd : 4 ≤ d) (hS : mz_extR S 232) (hR : mz_rok R 232)  (v1 : Int32) (v2 : Int32) (v3 : Int32) (N : mz_N) (b : Bool) {C0 : (Nat × Int32 × mz_N) → Prop} (hr : ∀ (w : Int32) (N2 : mz_N), C0 (0, w, N2) → Q (.inl (some (.int w))) (mz_k S R N2 b t)) (ht : ∀ (c : Nat) (w : Int32) (N2 : mz_N), ¬ c = 0 → C0 (c, w, N2) → Q (.inr (c - 1)) (mz_k S R N2 b (t + 1))) (h1000 : t < 1000) (hp : cp_179_0 v1 v2 v3 N b) (hC : C0 (cf_179_0 v1 v2 v3 N b)) : mz_G (d, mz_X0 L xs, some .int, [], mk_179, 5, Q) 0 mk_179 [(0, .ref 0), (1, .int v1), (2, .int v2), (3, .int v3)] [] true (mz_k S R N b t) := by
  unfold cf_179_0 at hC
  unfold cp_179_0 at hp
  refine g_aload_n rfl ?_
  obtain ⟨h1, hp⟩ := hp
  refine g_v1nt (Nat.le_of_ble_eq_true rfl) (mz_at hS (Nat.le_of_ble_eq_true rfl) mzcS_0) rfl (fun _ hz0 hz1 => cs_104 (Nat.le_trans (Nat.le_of_ble_eq_true rfl) hd) (hS.le (Nat.le_of_ble_eq_true rfl)) (hR.le (Nat.le_of_ble_eq_true rfl))  N h1 h1000 hz0 hz1) hC (fun h16 hC => ?_) (fun h16 hC => ?_)
  · have hp := hp.1 h16
    refine g_iload_n rfl (g_iconst mzi_0 (g_bipush mzb_10 ?_))
    obtain ⟨h2, hp⟩ := hp
    refine g_s3nt (Nat.le_of_ble_eq_true rfl) rfl (fun _ hz0 hz1 => cs_105 (Nat.le_trans (Nat.le_of_ble_eq_true rfl) hd) (hS.le (Nat.le_of_ble_eq_true rfl)) (hR.le (Nat.le_of_ble_eq_true rfl))  v1 0 10 h2 h1000 hz0 hz1) hC (fun h15 hC => ?_) (fun h15 hC => ?_)
    · have hp := hp.1 h15
      refine g_iload_n rfl (g_iconst mzi_1 (g_sipush mzs_500 ?_))
      obtain ⟨h3, hp⟩ := hp
      refine g_s3nt (Nat.le_of_ble_eq_true rfl) rfl (fun _ hz0 hz1 => cs_105 (Nat.le_trans (Nat.le_of_ble_eq_true rfl) hd) (hS.le (Nat.le_of_ble_eq_true rfl)) (hR.le (Nat.le_of_ble_eq_true rfl))  v2 1 500 h3 h1000 hz0 hz1) hC (fun h14 hC => ?_) (fun h14 hC => ?_)
      · have hp := hp.1 h14
        refine g_iload_n rfl (g_iconst mzi_0 (g_bipush mzb_9 ?_))
        obtain ⟨h4, hp⟩ := hp
        refine g_s3nt (Nat.le_of_ble_eq_true rfl) rfl (fun _ hz0 hz1 => cs_105 (Nat.le_trans (Nat.le_of_ble_eq_true rfl) hd) (hS.le (Nat.le_of_ble_eq_true rfl)) (hR.le (Nat.le_of_ble_eq_true rfl))  v3 0 9 h4 h1000 hz0 hz1) hC (fun h13 hC => ?_) (fun h13 hC => ?_)
        · have hp := hp.1 h13
          refine g_aload_n rfl (g_getR (mz_at hS (Nat.le_of_ble_eq_true rfl) mzcS_0) mzcf_11_3 (mz_rb hR (Nat.le_of_ble_eq_true rfl) rfl mzcR_0_3) (g_getR (mz_at hS (Nat.le_of_ble_eq_true rfl) mzcS_56) mzcf_9_0 (mz_rb hR (Nat.le_of_ble_eq_true rfl) rfl mzcR_56_0) (g_iconst mzi_4 (g_aald4 (m := 62) (mz_at hS (Nat.le_of_ble_eq_true rfl) mzcS_57) (mz_ibd (by decide)) (mz_rb hR (Nat.le_of_ble_eq_true rfl) rfl mzcRr_57_4) (g_iload_n rfl ?_)))))
          obtain ⟨h5, hp⟩ := hp
          refine g_iald hS.1 (mz_at hS (Nat.le_of_ble_eq_true rfl) mzcS_62) h5 (g_istore (Nat.le_of_ble_eq_true rfl) rfl (g_aload_n rfl (g_getR (mz_at hS (Nat.le_of_ble_eq_true rfl) mzcS_0) mzcf_11_3 (mz_rb hR (Nat.le_of_ble_eq_true rfl) rfl mzcR_0_3) (g_getR (mz_at hS (Nat.le_of_ble_eq_true rfl) mzcS_56) mzcf_9_0 (mz_rb hR (Nat.le_of_ble_eq_true rfl) rfl mzcR_56_0) (g_iconst mzi_4 (g_aald4 (m := 62) (mz_at hS (Nat.le_of_ble_eq_true rfl) mzcS_57) (mz_ibd (by decide)) (mz_rb hR (Nat.le_of_ble_eq_true rfl) rfl mzcRr_57_4) (g_iload_n rfl ?_)))))))
          refine g_iload_n rfl ?_
          obtain ⟨h6, hp⟩ := hp
          refine g_iast (mz_at hS (Nat.le_of_ble_eq_true rfl) mzcS_62) h6 (g_aload_n rfl (g_getR (mz_at hS (Nat.le_of_ble_eq_true rfl) mzcS_0) mzcf_11_3 (mz_rb hR (Nat.le_of_ble_eq_true rfl) rfl mzcR_0_3) (g_getR (mz_at hS (Nat.le_of_ble_eq_true rfl) mzcS_56) mzcf_9_0 (mz_rb hR (Nat.le_of_ble_eq_true rfl) rfl mzcR_56_0) (g_iconst mzi_5 (g_aald4 (m := 63) (mz_at hS (Nat.le_of_ble_eq_true rfl) mzcS_57) (mz_ibd (by decide)) (mz_rb hR (Nat.le_of_ble_eq_true rfl) rfl mzcRr_57_5) (g_iload_n rfl (g_iload_n rfl ?_)))))))
          obtain ⟨h7, hp⟩ := hp
          refine g_iast (mz_at hS (Nat.le_of_ble_eq_true rfl) mzcS_63) h7 (g_aload_n rfl (g_getR (mz_at hS (Nat.le_of_ble_eq_true rfl) mzcS_0) mzcf_11_0 (mz_rb hR (Nat.le_of_ble_eq_true rfl) rfl mzcR_0_0) ?_))
          refine g_v1n (Nat.le_of_ble_eq_true rfl) (mz_at hS (Nat.le_of_ble_eq_true rfl) mzcS_1) (fun _ hq => cs_117 (Nat.le_trans (Nat.le_of_ble_eq_true rfl) hd) (hS.le (Nat.le_of_ble_eq_true rfl)) (hR.le (Nat.le_of_ble_eq_true rfl))  (mz_wI (mz_wI N 62 v1 v2) 63 v1 v3) trivial hq) (g_aload_n rfl (g_getR (mz_at hS (Nat.le_of_ble_eq_true rfl) mzcS_0) mzcf_11_0 (mz_rb hR (Nat.le_of_ble_eq_true rfl) rfl mzcR_0_0) (g_bipush mzb_7 (g_iconst mzi_0 ?_))))
          obtain ⟨h9, hp⟩ := hp
          refine g_v3n (Nat.le_of_ble_eq_true rfl) (mz_at hS (Nat.le_of_ble_eq_true rfl) mzcS_1) (fun _ hq => cs_119 (Nat.le_trans (Nat.le_of_ble_eq_true rfl) hd) (hS.le (Nat.le_of_ble_eq_true rfl)) (hR.le (Nat.le_of_ble_eq_true rfl))  7 0 (cf_117_0 (mz_wI (mz_wI N 62 v1 v2) 63 v1 v3)) h9 hq) (g_aload_n rfl (g_getR (mz_at hS (Nat.le_of_ble_eq_true rfl) mzcS_0) mzcf_11_0 (mz_rb hR (Nat.le_of_ble_eq_true rfl) rfl mzcR_0_0) (g_bipush mzb_7 (g_iconst mzi_1 ?_))))
          obtain ⟨h10, hp⟩ := hp
          refine g_v3n (Nat.le_of_ble_eq_true rfl) (mz_at hS (Nat.le_of_ble_eq_true rfl) mzcS_1) (fun _ hq => cs_119 (Nat.le_trans (Nat.le_of_ble_eq_true rfl) hd) (hS.le (Nat.le_of_ble_eq_true rfl)) (hR.le (Nat.le_of_ble_eq_true rfl))  7 1 (cf_119_0 7 0 (cf_117_0 (mz_wI (mz_wI N 62 v1 v2) 63 v1 v3))) h10 hq) (g_aload_n rfl (g_getR (mz_at hS (Nat.le_of_ble_eq_true rfl) mzcS_0) mzcf_11_0 (mz_rb hR (Nat.le_of_ble_eq_true rfl) rfl mzcR_0_0) ?_))
          obtain ⟨h11, hp⟩ := hp
          refine g_v1v (Nat.le_of_ble_eq_true rfl) (mz_at hS (Nat.le_of_ble_eq_true rfl) mzcS_1) (fun _ hq => cs_121 (Nat.le_trans (Nat.le_of_ble_eq_true rfl) hd) (hS.le (Nat.le_of_ble_eq_true rfl)) (hR.le (Nat.le_of_ble_eq_true rfl))  (cf_119_0 7 1 (cf_119_0 7 0 (cf_117_0 (mz_wI (mz_wI N 62 v1 v2) 63 v1 v3)))) b h11 hq) ?_
          refine g_zeq (tg := 105) rfl ms_179_105 hC (fun h12 hC => ?_) (fun h12 hC => ?_)
          · have hp := hp.1 h12
            refine g_iload rfl (g_goto (tg := 108) rfl ms_179_108 ?_)
            exact g_iret rfl (hr _ _ hC)
          · have hp := hp.2 h12
            refine g_weak ?_ (g_cl (cg_179_105 hd hS hR ((cf_121_0 (cf_119_0 7 1 (cf_119_0 7 0 (cf_117_0 (mz_wI (mz_wI N 62 v1 v2) 63 v1 v3)))) b).2) b hr ht h1000 hp hC))
            exact trivial
        · have hp := hp.2 h13
          exact ht _ _ _ h13 hC
      · have hp := hp.2 h14
        exact ht _ _ _ h14 hC
    · have hp := hp.2 h15
      exact ht _ _ _ h15 hC
  · have hp := hp.2 h16
    exact ht _ _ _ h16 hC
theorem cs_179 (hd : 5 ≤ d) (hS : mz_extR S 232) (hR : mz_rok R 232)  (v1 : Int32) (v2 : Int32) (v3 : Int32) (N : mz_N) (b : Bool) (hp : cp_179_0 v1 v2 v3 N b) (h1000 : t < 1000) (h0 : (cf_179_0 v1 v2 v3 N b).1 = 0 → Q (.inl (some (.int ((cf_179_0 v1 v2 v3 N b).2.1)))) (mz_k S R ((cf_179_0 v1 v2 v3 N b).2.2) b t)) (h1 : ¬ (cf_179_0 v1 v2 v3 N b).1 = 0 → Q (.inr (((cf_179_0 v1 v2 v3 N b).1) - 1)) (mz_k S R ((cf_179_0 v1 v2 v3 N b).2.2) b (t + 1))) : mz_Ed (mz_X0 L xs) d 179 [.ref 0, .int v1, .int v2, .int v3] (mz_k S R N b t) Q :=
  by
  refine g_in mzq_179 (Nat.le_of_ble_eq_true rfl) (Nat.le_of_ble_eq_true rfl) (Nat.le_trans (Nat.le_of_ble_eq_true rfl) hd) ?_
  refine g_weak ?_ (cg_179_0 (d := d - 1) (by omega) hS hR v1 v2 v3 N b (C0 := fun z => (z.1 = 0 → Q (.inl (some (.int z.2.1))) (mz_k S R z.2.2 b t)) ∧ (¬ z.1 = 0 → Q (.inr (z.1 - 1)) (mz_k S R z.2.2 b (t + 1)))) (fun _ _ h => h.1 rfl) (fun c _ _ hc h => h.2 hc) h1000 hp ⟨h0, h1⟩)
  exact ⟨rfl, rfl, rfl, rfl, trivial⟩
/-! 178 KeptHouseLaw.rate (LKeptHouse;III[J)I -/
theorem ms_178_0 : mz_sf mk_178 0 = mk_178 := mz_sf_zero _
theorem ms_178_17 : mz_sf mk_178 17 = mt_178_17 := mz_sf_add ms_178_0 (t := 17) rfl rfl
theorem ms_178_21 : mz_sf mk_178 21 = mt_178_21 := mz_sf_add ms_178_17 (t := 4) rfl rfl
theorem ms_178_23 : mz_sf mk_178 23 = mt_178_23 := mz_sf_add ms_178_21 (t := 2) rfl rfl
set_option maxRecDepth 100000 in
theorem mzq_178 : mz_PG0 178 = some (13, ⟨"KeptHouseLaw", "rate", "(LKeptHouse;III[J)I"⟩, method_19_code, 6, some .int, [(0, 12, 15, 13), (0, 12, 19, 15)], mk_178, [(0, 15, 17), (1, 19, 21)]) := rfl
theorem cg_178_23 (hd : 5 ≤ d) (hS : mz_extR S 343) (hR : mz_rok R 343)  (N : mz_N) (b : Bool) (t : Nat) {C0 : (Int32 × mz_N × Nat) → Prop} (hr : ∀ (w : Int32) (N2 : mz_N) (t2 : Nat), C0 (w, N2, t2) → Q (.inl (some (.int w))) (mz_k S R N2 b t2)) (hp : cp_178_23 N b t) (hC : C0 (cf_178_23 N b t)) : mz_G (d, mz_X0 L xs, some .int, [(0, 15, 17), (1, 19, 21)], mk_178, 6, Q) 23 mt_178_23 [] [] false (mz_k S R N b t) := by
  unfold cf_178_23 at hC
  unfold cp_178_23 at hp
  refine g_iconst mzi_0 ?_
  exact g_iret rfl (hr _ _ _ hC)
theorem cg_178_0 (hd : 5 ≤ d) (hS : mz_extR S 343) (hR : mz_rok R 343)  (v1 : Int32) (v2 : Int32) (v3 : Int32) (N : mz_N) (b : Bool) (t : Nat) {C0 : (Int32 × mz_N × Nat) → Prop} (hr : ∀ (w : Int32) (N2 : mz_N) (t2 : Nat), C0 (w, N2, t2) → Q (.inl (some (.int w))) (mz_k S R N2 b t2)) (hp : cp_178_0 v1 v2 v3 N b t) (hC : C0 (cf_178_0 v1 v2 v3 N b t)) : mz_G (d, mz_X0 L xs, some .int, [(0, 15, 17), (1, 19, 21)], mk_178, 6, Q) 0 mk_178 [(0, .ref 0), (1, .int v1), (2, .int v2), (3, .int v3), (4, .ref 342)] [] true (mz_k S R N b t) := by
  unfold cf_178_0 at hC
  unfold cp_178_0 at hp
  refine g_aload rfl (g_iconst mzi_0 (g_aload_n rfl (g_iload_n rfl (g_iload_n rfl (g_iload_n rfl ?_)))))
  obtain ⟨h1, hp⟩ := hp
  obtain ⟨h1000, hp⟩ := hp
  refine g_v4vh (Nat.le_of_ble_eq_true rfl) (mz_at hS (Nat.le_of_ble_eq_true rfl) mzcS_0) (fun _ hz0 hz1 => cs_179 (Nat.le_trans (Nat.le_of_ble_eq_true rfl) hd) (hS.le (Nat.le_of_ble_eq_true rfl)) (hR.le (Nat.le_of_ble_eq_true rfl))  v1 v2 v3 N b h1 h1000 hz0 hz1) hC (fun h2 hC => ?_) (fun h2 hC => ?_)
  · have hp := hp.1 h2
    refine g_i2l (g_last (mz_at hS (Nat.le_of_ble_eq_true rfl) mzcS_342) (mz_ibd (by decide)) (g_goto (tg := 23) rfl ms_178_23 ?_))
    refine g_weak ?_ (g_cl (cg_178_23 hd hS hR (mz_wL ((cf_179_0 v1 v2 v3 N b).2.2) 342 0 (((cf_179_0 v1 v2 v3 N b).2.1).toInt64)) b t hr hp hC))
    exact trivial
  · have hp := hp.2 h2
    refine mz_cs hC (fun h6 hC => ?_) (fun h6 hC => ?_)
    · have hp := hp.1 h6
      refine ⟨(0, 15, 17), (by rw [h6]; rfl), ?_⟩
      show mz_G (d, mz_X0 L xs, some .int, [(0, 15, 17), (1, 19, 21)], mk_178, 6, Q) 17 (mz_sf mk_178 17) [] [] false (mz_k S R ((cf_179_0 v1 v2 v3 N b).2.2) b (t + 1))
      rw [ms_178_17]
      refine g_iconst mzi_1 ?_
      exact g_iret rfl (hr _ _ _ hC)
    · have hp := hp.2 h6
      have h4 := hp
      refine ⟨(1, 19, 21), (by rw [h4]; rfl), ?_⟩
      show mz_G (d, mz_X0 L xs, some .int, [(0, 15, 17), (1, 19, 21)], mk_178, 6, Q) 21 (mz_sf mk_178 21) [] [] false (mz_k S R ((cf_179_0 v1 v2 v3 N b).2.2) b (t + 1))
      rw [ms_178_21]
      refine g_iconst mzi_2 ?_
      exact g_iret rfl (hr _ _ _ hC)
theorem cs_178 (hd : 6 ≤ d) (hS : mz_extR S 343) (hR : mz_rok R 343)  (v1 : Int32) (v2 : Int32) (v3 : Int32) (N : mz_N) (b : Bool) (t : Nat) (hp : cp_178_0 v1 v2 v3 N b t) (hq : Q (.inl (some (.int ((cf_178_0 v1 v2 v3 N b t).1)))) (mz_k S R ((cf_178_0 v1 v2 v3 N b t).2.1) b ((cf_178_0 v1 v2 v3 N b t).2.2))) : mz_Ed (mz_X0 L xs) d 178 [.ref 0, .int v1, .int v2, .int v3, .ref 342] (mz_k S R N b t) Q :=
  by
  refine g_in mzq_178 (Nat.le_of_ble_eq_true rfl) (Nat.le_of_ble_eq_true rfl) (Nat.le_trans (Nat.le_of_ble_eq_true rfl) hd) ?_
  refine g_weak ?_ (cg_178_0 (d := d - 1) (by omega) hS hR v1 v2 v3 N b t (C0 := fun z => Q (.inl (some (.int z.1))) (mz_k S R z.2.1 b z.2.2)) (fun _ _ _ h => h) hp hq)
  exact ⟨rfl, rfl, rfl, rfl, rfl, trivial⟩
/-! 182 KeptHouse$Books.mostOf (I)I -/
theorem ms_182_0 : mz_sf mk_182 0 = mk_182 := mz_sf_zero _
theorem ms_182_10 : mz_sf mk_182 10 = mt_182_10 := mz_sf_add ms_182_0 (t := 10) rfl rfl
theorem ms_182_13 : mz_sf mk_182 13 = mt_182_13 := mz_sf_add ms_182_10 (t := 3) rfl rfl
set_option maxRecDepth 100000 in
theorem mzq_182 : mz_PG0 182 = some (1, ⟨"KeptHouse$Books", "mostOf", "(I)I"⟩, prog_3_method_2_code, 1, some .int, [], mk_182, []) := rfl
theorem cg_182_0 (hd : 0 ≤ d) (hS : mz_extR S 232) (hR : mz_rok R 232)  (v0 : Int32) {C0 : (Int32) → Prop} (hr : ∀ (w : Int32), C0 w → Q (.inl (some (.int w))) (mz_k S R N b t)) (hp : cp_182_0 v0) (hC : C0 (cf_182_0 v0)) : mz_G (d, mz_X0 L xs, some .int, [], mk_182, 1, Q) 0 mk_182 [(0, .int v0)] [] true (mz_k S R N b t) := by
  unfold cf_182_0 at hC
  unfold cp_182_0 at hp
  refine g_iload_n rfl ?_
  refine g_ifne (tg := 10) rfl ms_182_10 hC (fun h1 hC => ?_) (fun h1 hC => ?_)
  · refine g_sipush mzs_20000 (g_goto (tg := 13) rfl ms_182_13 ?_)
    exact g_iret rfl (hr _ hC)
  · refine g_sipush mzs_1000 ?_
    exact g_iret rfl (hr _ hC)
theorem cs_182 (hd : 1 ≤ d) (hS : mz_extR S 232) (hR : mz_rok R 232)  (v0 : Int32) (hp : cp_182_0 v0) (hq : Q (.inl (some (.int (cf_182_0 v0)))) (mz_k S R N b t)) : mz_Ed (mz_X0 L xs) d 182 [.int v0] (mz_k S R N b t) Q :=
  by
  refine g_in mzq_182 (Nat.le_of_ble_eq_true rfl) (Nat.le_of_ble_eq_true rfl) (Nat.le_trans (Nat.le_of_ble_eq_true rfl) hd) ?_
  refine g_weak ?_ (cg_182_0 (d := d - 1) (by omega) hS hR v0 (C0 := fun z => Q (.inl (some (.int z))) (mz_k S R N b t)) (fun _ h => h) hp hq)
  exact ⟨rfl, trivial⟩
/-! 181 KeptHouse.price (II)I -/
theorem ms_181_0 : mz_sf mk_181 0 = mk_181 := mz_sf_zero _
theorem ms_181_29 : mz_sf mk_181 29 = mt_181_29 := mz_sf_add ms_181_0 (t := 29) rfl rfl
set_option maxRecDepth 100000 in
theorem mzq_181 : mz_PG0 181 = some (11, ⟨"KeptHouse", "price", "(II)I"⟩, prog_1_method_24_code, 4, some .int, [], mk_181, []) := rfl
theorem cg_181_0 (hd : 5 ≤ d) (hS : mz_extR S 232) (hR : mz_rok R 232)  (v1 : Int32) (v2 : Int32) (N : mz_N) (b : Bool) {C0 : (Nat × Int32 × mz_N) → Prop} (hr : ∀ (w : Int32) (N2 : mz_N), C0 (0, w, N2) → Q (.inl (some (.int w))) (mz_k S R N2 b t)) (ht : ∀ (c : Nat) (w : Int32) (N2 : mz_N), ¬ c = 0 → C0 (c, w, N2) → Q (.inr (c - 1)) (mz_k S R N2 b (t + 1))) (h1000 : t < 1000) (hp : cp_181_0 v1 v2 N b) (hC : C0 (cf_181_0 v1 v2 N b)) : mz_G (d, mz_X0 L xs, some .int, [], mk_181, 4, Q) 0 mk_181 [(0, .ref 0), (1, .int v1), (2, .int v2)] [] true (mz_k S R N b t) := by
  unfold cf_181_0 at hC
  unfold cp_181_0 at hp
  refine g_aload_n rfl ?_
  obtain ⟨h1, hp⟩ := hp
  refine g_v1nt (Nat.le_of_ble_eq_true rfl) (mz_at hS (Nat.le_of_ble_eq_true rfl) mzcS_0) rfl (fun _ hz0 hz1 => cs_104 (Nat.le_trans (Nat.le_of_ble_eq_true rfl) hd) (hS.le (Nat.le_of_ble_eq_true rfl)) (hR.le (Nat.le_of_ble_eq_true rfl))  N h1 h1000 hz0 hz1) hC (fun h10 hC => ?_) (fun h10 hC => ?_)
  · have hp := hp.1 h10
    refine g_iload_n rfl (g_iconst mzi_0 (g_iconst mzi_3 ?_))
    obtain ⟨h2, hp⟩ := hp
    refine g_s3nt (Nat.le_of_ble_eq_true rfl) rfl (fun _ hz0 hz1 => cs_105 (Nat.le_trans (Nat.le_of_ble_eq_true rfl) hd) (hS.le (Nat.le_of_ble_eq_true rfl)) (hR.le (Nat.le_of_ble_eq_true rfl))  v1 0 3 h2 h1000 hz0 hz1) hC (fun h9 hC => ?_) (fun h9 hC => ?_)
    · have hp := hp.1 h9
      refine g_iload_n rfl (g_iconst mzi_0 (g_iload_n rfl ?_))
      refine g_s1v (Nat.le_of_ble_eq_true rfl) (fun _ hq => cs_182 (Nat.le_trans (Nat.le_of_ble_eq_true rfl) hd) (hS.le (Nat.le_of_ble_eq_true rfl)) (hR.le (Nat.le_of_ble_eq_true rfl))  v1 trivial hq) ?_
      obtain ⟨h4, hp⟩ := hp
      refine g_s3nt (Nat.le_of_ble_eq_true rfl) rfl (fun _ hz0 hz1 => cs_105 (Nat.le_trans (Nat.le_of_ble_eq_true rfl) hd) (hS.le (Nat.le_of_ble_eq_true rfl)) (hR.le (Nat.le_of_ble_eq_true rfl))  v2 0 (cf_182_0 v1) h4 h1000 hz0 hz1) hC (fun h8 hC => ?_) (fun h8 hC => ?_)
      · have hp := hp.1 h8
        refine g_aload_n rfl (g_getR (mz_at hS (Nat.le_of_ble_eq_true rfl) mzcS_0) mzcf_11_8 (mz_rb hR (Nat.le_of_ble_eq_true rfl) rfl mzcR_0_8) (g_getR (mz_at hS (Nat.le_of_ble_eq_true rfl) mzcS_208) mzcf_1_8 (mz_rb hR (Nat.le_of_ble_eq_true rfl) rfl mzcR_208_8) (g_iload_n rfl ?_)))
        obtain ⟨h5, hp⟩ := hp
        refine g_iald hS.1 (mz_at hS (Nat.le_of_ble_eq_true rfl) mzcS_215) h5 (g_istore_n (Nat.le_of_ble_eq_true rfl) rfl (g_aload_n rfl (g_getR (mz_at hS (Nat.le_of_ble_eq_true rfl) mzcS_0) mzcf_11_8 (mz_rb hR (Nat.le_of_ble_eq_true rfl) rfl mzcR_0_8) (g_getR (mz_at hS (Nat.le_of_ble_eq_true rfl) mzcS_208) mzcf_1_8 (mz_rb hR (Nat.le_of_ble_eq_true rfl) rfl mzcR_208_8) (g_iload_n rfl (g_iload_n rfl ?_))))))
        obtain ⟨h6, hp⟩ := hp
        refine g_iast (mz_at hS (Nat.le_of_ble_eq_true rfl) mzcS_215) h6 (g_aload_n rfl (g_bipush mzb_10 (g_iconst mzi_0 (g_iload_n rfl ?_))))
        have h7 := hp
        refine g_v4v (Nat.le_of_ble_eq_true rfl) (mz_at hS (Nat.le_of_ble_eq_true rfl) mzcS_0) (fun _ hq => cs_171 (Nat.le_trans (Nat.le_of_ble_eq_true rfl) hd) (hS.le (Nat.le_of_ble_eq_true rfl)) (hR.le (Nat.le_of_ble_eq_true rfl))  10 0 (mz_gI N 215 v1) (mz_wI N 215 v1 v2) b h7 hq) ?_
        exact g_iret rfl (hr _ _ hC)
      · have hp := hp.2 h8
        exact ht _ _ _ h8 hC
    · have hp := hp.2 h9
      exact ht _ _ _ h9 hC
  · have hp := hp.2 h10
    exact ht _ _ _ h10 hC
theorem cs_181 (hd : 6 ≤ d) (hS : mz_extR S 232) (hR : mz_rok R 232)  (v1 : Int32) (v2 : Int32) (N : mz_N) (b : Bool) (hp : cp_181_0 v1 v2 N b) (h1000 : t < 1000) (h0 : (cf_181_0 v1 v2 N b).1 = 0 → Q (.inl (some (.int ((cf_181_0 v1 v2 N b).2.1)))) (mz_k S R ((cf_181_0 v1 v2 N b).2.2) b t)) (h1 : ¬ (cf_181_0 v1 v2 N b).1 = 0 → Q (.inr (((cf_181_0 v1 v2 N b).1) - 1)) (mz_k S R ((cf_181_0 v1 v2 N b).2.2) b (t + 1))) : mz_Ed (mz_X0 L xs) d 181 [.ref 0, .int v1, .int v2] (mz_k S R N b t) Q :=
  by
  refine g_in mzq_181 (Nat.le_of_ble_eq_true rfl) (Nat.le_of_ble_eq_true rfl) (Nat.le_trans (Nat.le_of_ble_eq_true rfl) hd) ?_
  refine g_weak ?_ (cg_181_0 (d := d - 1) (by omega) hS hR v1 v2 N b (C0 := fun z => (z.1 = 0 → Q (.inl (some (.int z.2.1))) (mz_k S R z.2.2 b t)) ∧ (¬ z.1 = 0 → Q (.inr (z.1 - 1)) (mz_k S R z.2.2 b (t + 1)))) (fun _ _ h => h.1 rfl) (fun c _ _ hc h => h.2 hc) h1000 hp ⟨h0, h1⟩)
  exact ⟨rfl, rfl, rfl, trivial⟩
/-! 180 KeptHouseLaw.price (LKeptHouse;II[J)I -/
theorem ms_180_0 : mz_sf mk_180 0 = mk_180 := mz_sf_zero _
theorem ms_180_15 : mz_sf mk_180 15 = mt_180_15 := mz_sf_add ms_180_0 (t := 15) rfl rfl
theorem ms_180_19 : mz_sf mk_180 19 = mt_180_19 := mz_sf_add ms_180_15 (t := 4) rfl rfl
theorem ms_180_21 : mz_sf mk_180 21 = mt_180_21 := mz_sf_add ms_180_19 (t := 2) rfl rfl
set_option maxRecDepth 100000 in
theorem mzq_180 : mz_PG0 180 = some (13, ⟨"KeptHouseLaw", "price", "(LKeptHouse;II[J)I"⟩, method_20_code, 5, some .int, [(0, 10, 13, 13), (0, 10, 17, 15)], mk_180, [(0, 13, 15), (1, 17, 19)]) := rfl
theorem cg_180_21 (hd : 6 ≤ d) (hS : mz_extR S 343) (hR : mz_rok R 343)  (N : mz_N) (b : Bool) (t : Nat) {C0 : (Int32 × mz_N × Nat) → Prop} (hr : ∀ (w : Int32) (N2 : mz_N) (t2 : Nat), C0 (w, N2, t2) → Q (.inl (some (.int w))) (mz_k S R N2 b t2)) (hp : cp_180_21 N b t) (hC : C0 (cf_180_21 N b t)) : mz_G (d, mz_X0 L xs, some .int, [(0, 13, 15), (1, 17, 19)], mk_180, 5, Q) 21 mt_180_21 [] [] false (mz_k S R N b t) := by
  unfold cf_180_21 at hC
  unfold cp_180_21 at hp
  refine g_iconst mzi_0 ?_
  exact g_iret rfl (hr _ _ _ hC)
theorem cg_180_0 (hd : 6 ≤ d) (hS : mz_extR S 343) (hR : mz_rok R 343)  (v1 : Int32) (v2 : Int32) (N : mz_N) (b : Bool) (t : Nat) {C0 : (Int32 × mz_N × Nat) → Prop} (hr : ∀ (w : Int32) (N2 : mz_N) (t2 : Nat), C0 (w, N2, t2) → Q (.inl (some (.int w))) (mz_k S R N2 b t2)) (hp : cp_180_0 v1 v2 N b t) (hC : C0 (cf_180_0 v1 v2 N b t)) : mz_G (d, mz_X0 L xs, some .int, [(0, 13, 15), (1, 17, 19)], mk_180, 5, Q) 0 mk_180 [(0, .ref 0), (1, .int v1), (2, .int v2), (3, .ref 342)] [] true (mz_k S R N b t) := by
  unfold cf_180_0 at hC
  unfold cp_180_0 at hp
  refine g_aload_n rfl (g_iconst mzi_0 (g_aload_n rfl (g_iload_n rfl (g_iload_n rfl ?_))))
  obtain ⟨h1, hp⟩ := hp
  obtain ⟨h1000, hp⟩ := hp
  refine g_v3vh (Nat.le_of_ble_eq_true rfl) (mz_at hS (Nat.le_of_ble_eq_true rfl) mzcS_0) (fun _ hz0 hz1 => cs_181 (Nat.le_trans (Nat.le_of_ble_eq_true rfl) hd) (hS.le (Nat.le_of_ble_eq_true rfl)) (hR.le (Nat.le_of_ble_eq_true rfl))  v1 v2 N b h1 h1000 hz0 hz1) hC (fun h2 hC => ?_) (fun h2 hC => ?_)
  · have hp := hp.1 h2
    refine g_i2l (g_last (mz_at hS (Nat.le_of_ble_eq_true rfl) mzcS_342) (mz_ibd (by decide)) (g_goto (tg := 21) rfl ms_180_21 ?_))
    refine g_weak ?_ (g_cl (cg_180_21 hd hS hR (mz_wL ((cf_181_0 v1 v2 N b).2.2) 342 0 (((cf_181_0 v1 v2 N b).2.1).toInt64)) b t hr hp hC))
    exact trivial
  · have hp := hp.2 h2
    refine mz_cs hC (fun h6 hC => ?_) (fun h6 hC => ?_)
    · have hp := hp.1 h6
      refine ⟨(0, 13, 15), (by rw [h6]; rfl), ?_⟩
      show mz_G (d, mz_X0 L xs, some .int, [(0, 13, 15), (1, 17, 19)], mk_180, 5, Q) 15 (mz_sf mk_180 15) [] [] false (mz_k S R ((cf_181_0 v1 v2 N b).2.2) b (t + 1))
      rw [ms_180_15]
      refine g_iconst mzi_1 ?_
      exact g_iret rfl (hr _ _ _ hC)
    · have hp := hp.2 h6
      have h4 := hp
      refine ⟨(1, 17, 19), (by rw [h4]; rfl), ?_⟩
      show mz_G (d, mz_X0 L xs, some .int, [(0, 13, 15), (1, 17, 19)], mk_180, 5, Q) 19 (mz_sf mk_180 19) [] [] false (mz_k S R ((cf_181_0 v1 v2 N b).2.2) b (t + 1))
      rw [ms_180_19]
      refine g_iconst mzi_2 ?_
      exact g_iret rfl (hr _ _ _ hC)
theorem cs_180 (hd : 7 ≤ d) (hS : mz_extR S 343) (hR : mz_rok R 343)  (v1 : Int32) (v2 : Int32) (N : mz_N) (b : Bool) (t : Nat) (hp : cp_180_0 v1 v2 N b t) (hq : Q (.inl (some (.int ((cf_180_0 v1 v2 N b t).1)))) (mz_k S R ((cf_180_0 v1 v2 N b t).2.1) b ((cf_180_0 v1 v2 N b t).2.2))) : mz_Ed (mz_X0 L xs) d 180 [.ref 0, .int v1, .int v2, .ref 342] (mz_k S R N b t) Q :=
  by
  refine g_in mzq_180 (Nat.le_of_ble_eq_true rfl) (Nat.le_of_ble_eq_true rfl) (Nat.le_trans (Nat.le_of_ble_eq_true rfl) hd) ?_
  refine g_weak ?_ (cg_180_0 (d := d - 1) (by omega) hS hR v1 v2 N b t (C0 := fun z => Q (.inl (some (.int z.1))) (mz_k S R z.2.1 b z.2.2)) (fun _ _ _ h => h) hp hq)
  exact ⟨rfl, rfl, rfl, rfl, trivial⟩
/-! 184 KeptHouse.life (II)I -/
theorem ms_184_0 : mz_sf mk_184 0 = mk_184 := mz_sf_zero _
theorem ms_184_29 : mz_sf mk_184 29 = mt_184_29 := mz_sf_add ms_184_0 (t := 29) rfl rfl
set_option maxRecDepth 100000 in
theorem mzq_184 : mz_PG0 184 = some (11, ⟨"KeptHouse", "life", "(II)I"⟩, prog_1_method_25_code, 4, some .int, [], mk_184, []) := rfl
theorem cg_184_0 (hd : 5 ≤ d) (hS : mz_extR S 232) (hR : mz_rok R 232)  (v1 : Int32) (v2 : Int32) (N : mz_N) (b : Bool) {C0 : (Nat × Int32 × mz_N) → Prop} (hr : ∀ (w : Int32) (N2 : mz_N), C0 (0, w, N2) → Q (.inl (some (.int w))) (mz_k S R N2 b t)) (ht : ∀ (c : Nat) (w : Int32) (N2 : mz_N), ¬ c = 0 → C0 (c, w, N2) → Q (.inr (c - 1)) (mz_k S R N2 b (t + 1))) (h1000 : t < 1000) (hp : cp_184_0 v1 v2 N b) (hC : C0 (cf_184_0 v1 v2 N b)) : mz_G (d, mz_X0 L xs, some .int, [], mk_184, 4, Q) 0 mk_184 [(0, .ref 0), (1, .int v1), (2, .int v2)] [] true (mz_k S R N b t) := by
  unfold cf_184_0 at hC
  unfold cp_184_0 at hp
  refine g_aload_n rfl ?_
  obtain ⟨h1, hp⟩ := hp
  refine g_v1nt (Nat.le_of_ble_eq_true rfl) (mz_at hS (Nat.le_of_ble_eq_true rfl) mzcS_0) rfl (fun _ hz0 hz1 => cs_104 (Nat.le_trans (Nat.le_of_ble_eq_true rfl) hd) (hS.le (Nat.le_of_ble_eq_true rfl)) (hR.le (Nat.le_of_ble_eq_true rfl))  N h1 h1000 hz0 hz1) hC (fun h9 hC => ?_) (fun h9 hC => ?_)
  · have hp := hp.1 h9
    refine g_iload_n rfl (g_iconst mzi_0 (g_iconst mzi_2 ?_))
    obtain ⟨h2, hp⟩ := hp
    refine g_s3nt (Nat.le_of_ble_eq_true rfl) rfl (fun _ hz0 hz1 => cs_105 (Nat.le_trans (Nat.le_of_ble_eq_true rfl) hd) (hS.le (Nat.le_of_ble_eq_true rfl)) (hR.le (Nat.le_of_ble_eq_true rfl))  v1 0 2 h2 h1000 hz0 hz1) hC (fun h8 hC => ?_) (fun h8 hC => ?_)
    · have hp := hp.1 h8
      refine g_iload_n rfl (g_iconst mzi_1 (g_con (by decide) ?_))
      obtain ⟨h3, hp⟩ := hp
      refine g_s3nt (Nat.le_of_ble_eq_true rfl) rfl (fun _ hz0 hz1 => cs_105 (Nat.le_trans (Nat.le_of_ble_eq_true rfl) hd) (hS.le (Nat.le_of_ble_eq_true rfl)) (hR.le (Nat.le_of_ble_eq_true rfl))  v2 1 100000 h3 h1000 hz0 hz1) hC (fun h7 hC => ?_) (fun h7 hC => ?_)
      · have hp := hp.1 h7
        refine g_aload_n rfl (g_getR (mz_at hS (Nat.le_of_ble_eq_true rfl) mzcS_0) mzcf_11_7 (mz_rb hR (Nat.le_of_ble_eq_true rfl) rfl mzcR_0_7) (g_getR (mz_at hS (Nat.le_of_ble_eq_true rfl) mzcS_115) mzcf_2_3 (mz_rb hR (Nat.le_of_ble_eq_true rfl) rfl mzcR_115_3) (g_iconst mzi_0 (g_aald4 (m := 125) (mz_at hS (Nat.le_of_ble_eq_true rfl) mzcS_124) (mz_ibd (by decide)) (mz_rb hR (Nat.le_of_ble_eq_true rfl) rfl mzcRr_124_0) (g_iload_n rfl ?_)))))
        obtain ⟨h4, hp⟩ := hp
        refine g_iald hS.1 (mz_at hS (Nat.le_of_ble_eq_true rfl) mzcS_125) h4 (g_istore_n (Nat.le_of_ble_eq_true rfl) rfl (g_aload_n rfl (g_getR (mz_at hS (Nat.le_of_ble_eq_true rfl) mzcS_0) mzcf_11_7 (mz_rb hR (Nat.le_of_ble_eq_true rfl) rfl mzcR_0_7) (g_getR (mz_at hS (Nat.le_of_ble_eq_true rfl) mzcS_115) mzcf_2_3 (mz_rb hR (Nat.le_of_ble_eq_true rfl) rfl mzcR_115_3) (g_iconst mzi_0 (g_aald4 (m := 125) (mz_at hS (Nat.le_of_ble_eq_true rfl) mzcS_124) (mz_ibd (by decide)) (mz_rb hR (Nat.le_of_ble_eq_true rfl) rfl mzcRr_124_0) (g_iload_n rfl ?_)))))))
        refine g_iload_n rfl ?_
        obtain ⟨h5, hp⟩ := hp
        refine g_iast (mz_at hS (Nat.le_of_ble_eq_true rfl) mzcS_125) h5 (g_aload_n rfl (g_bipush mzb_11 (g_iload_n rfl (g_iload_n rfl ?_))))
        have h6 := hp
        refine g_v4v (Nat.le_of_ble_eq_true rfl) (mz_at hS (Nat.le_of_ble_eq_true rfl) mzcS_0) (fun _ hq => cs_171 (Nat.le_trans (Nat.le_of_ble_eq_true rfl) hd) (hS.le (Nat.le_of_ble_eq_true rfl)) (hR.le (Nat.le_of_ble_eq_true rfl))  11 v1 (mz_gI N 125 v1) (mz_wI N 125 v1 v2) b h6 hq) ?_
        exact g_iret rfl (hr _ _ hC)
      · have hp := hp.2 h7
        exact ht _ _ _ h7 hC
    · have hp := hp.2 h8
      exact ht _ _ _ h8 hC
  · have hp := hp.2 h9
    exact ht _ _ _ h9 hC
theorem cs_184 (hd : 6 ≤ d) (hS : mz_extR S 232) (hR : mz_rok R 232)  (v1 : Int32) (v2 : Int32) (N : mz_N) (b : Bool) (hp : cp_184_0 v1 v2 N b) (h1000 : t < 1000) (h0 : (cf_184_0 v1 v2 N b).1 = 0 → Q (.inl (some (.int ((cf_184_0 v1 v2 N b).2.1)))) (mz_k S R ((cf_184_0 v1 v2 N b).2.2) b t)) (h1 : ¬ (cf_184_0 v1 v2 N b).1 = 0 → Q (.inr (((cf_184_0 v1 v2 N b).1) - 1)) (mz_k S R ((cf_184_0 v1 v2 N b).2.2) b (t + 1))) : mz_Ed (mz_X0 L xs) d 184 [.ref 0, .int v1, .int v2] (mz_k S R N b t) Q :=
  by
  refine g_in mzq_184 (Nat.le_of_ble_eq_true rfl) (Nat.le_of_ble_eq_true rfl) (Nat.le_trans (Nat.le_of_ble_eq_true rfl) hd) ?_
  refine g_weak ?_ (cg_184_0 (d := d - 1) (by omega) hS hR v1 v2 N b (C0 := fun z => (z.1 = 0 → Q (.inl (some (.int z.2.1))) (mz_k S R z.2.2 b t)) ∧ (¬ z.1 = 0 → Q (.inr (z.1 - 1)) (mz_k S R z.2.2 b (t + 1)))) (fun _ _ h => h.1 rfl) (fun c _ _ hc h => h.2 hc) h1000 hp ⟨h0, h1⟩)
  exact ⟨rfl, rfl, rfl, trivial⟩
/-! 183 KeptHouseLaw.life (LKeptHouse;II[J)I -/
theorem ms_183_0 : mz_sf mk_183 0 = mk_183 := mz_sf_zero _
theorem ms_183_15 : mz_sf mk_183 15 = mt_183_15 := mz_sf_add ms_183_0 (t := 15) rfl rfl
theorem ms_183_19 : mz_sf mk_183 19 = mt_183_19 := mz_sf_add ms_183_15 (t := 4) rfl rfl
theorem ms_183_21 : mz_sf mk_183 21 = mt_183_21 := mz_sf_add ms_183_19 (t := 2) rfl rfl
set_option maxRecDepth 100000 in
theorem mzq_183 : mz_PG0 183 = some (13, ⟨"KeptHouseLaw", "life", "(LKeptHouse;II[J)I"⟩, method_21_code, 5, some .int, [(0, 10, 13, 13), (0, 10, 17, 15)], mk_183, [(0, 13, 15), (1, 17, 19)]) := rfl
theorem cg_183_21 (hd : 6 ≤ d) (hS : mz_extR S 343) (hR : mz_rok R 343)  (N : mz_N) (b : Bool) (t : Nat) {C0 : (Int32 × mz_N × Nat) → Prop} (hr : ∀ (w : Int32) (N2 : mz_N) (t2 : Nat), C0 (w, N2, t2) → Q (.inl (some (.int w))) (mz_k S R N2 b t2)) (hp : cp_183_21 N b t) (hC : C0 (cf_183_21 N b t)) : mz_G (d, mz_X0 L xs, some .int, [(0, 13, 15), (1, 17, 19)], mk_183, 5, Q) 21 mt_183_21 [] [] false (mz_k S R N b t) := by
  unfold cf_183_21 at hC
  unfold cp_183_21 at hp
  refine g_iconst mzi_0 ?_
  exact g_iret rfl (hr _ _ _ hC)
theorem cg_183_0 (hd : 6 ≤ d) (hS : mz_extR S 343) (hR : mz_rok R 343)  (v1 : Int32) (v2 : Int32) (N : mz_N) (b : Bool) (t : Nat) {C0 : (Int32 × mz_N × Nat) → Prop} (hr : ∀ (w : Int32) (N2 : mz_N) (t2 : Nat), C0 (w, N2, t2) → Q (.inl (some (.int w))) (mz_k S R N2 b t2)) (hp : cp_183_0 v1 v2 N b t) (hC : C0 (cf_183_0 v1 v2 N b t)) : mz_G (d, mz_X0 L xs, some .int, [(0, 13, 15), (1, 17, 19)], mk_183, 5, Q) 0 mk_183 [(0, .ref 0), (1, .int v1), (2, .int v2), (3, .ref 342)] [] true (mz_k S R N b t) := by
  unfold cf_183_0 at hC
  unfold cp_183_0 at hp
  refine g_aload_n rfl (g_iconst mzi_0 (g_aload_n rfl (g_iload_n rfl (g_iload_n rfl ?_))))
  obtain ⟨h1, hp⟩ := hp
  obtain ⟨h1000, hp⟩ := hp
  refine g_v3vh (Nat.le_of_ble_eq_true rfl) (mz_at hS (Nat.le_of_ble_eq_true rfl) mzcS_0) (fun _ hz0 hz1 => cs_184 (Nat.le_trans (Nat.le_of_ble_eq_true rfl) hd) (hS.le (Nat.le_of_ble_eq_true rfl)) (hR.le (Nat.le_of_ble_eq_true rfl))  v1 v2 N b h1 h1000 hz0 hz1) hC (fun h2 hC => ?_) (fun h2 hC => ?_)
  · have hp := hp.1 h2
    refine g_i2l (g_last (mz_at hS (Nat.le_of_ble_eq_true rfl) mzcS_342) (mz_ibd (by decide)) (g_goto (tg := 21) rfl ms_183_21 ?_))
    refine g_weak ?_ (g_cl (cg_183_21 hd hS hR (mz_wL ((cf_184_0 v1 v2 N b).2.2) 342 0 (((cf_184_0 v1 v2 N b).2.1).toInt64)) b t hr hp hC))
    exact trivial
  · have hp := hp.2 h2
    refine mz_cs hC (fun h6 hC => ?_) (fun h6 hC => ?_)
    · have hp := hp.1 h6
      refine ⟨(0, 13, 15), (by rw [h6]; rfl), ?_⟩
      show mz_G (d, mz_X0 L xs, some .int, [(0, 13, 15), (1, 17, 19)], mk_183, 5, Q) 15 (mz_sf mk_183 15) [] [] false (mz_k S R ((cf_184_0 v1 v2 N b).2.2) b (t + 1))
      rw [ms_183_15]
      refine g_iconst mzi_1 ?_
      exact g_iret rfl (hr _ _ _ hC)
    · have hp := hp.2 h6
      have h4 := hp
      refine ⟨(1, 17, 19), (by rw [h4]; rfl), ?_⟩
      show mz_G (d, mz_X0 L xs, some .int, [(0, 13, 15), (1, 17, 19)], mk_183, 5, Q) 19 (mz_sf mk_183 19) [] [] false (mz_k S R ((cf_184_0 v1 v2 N b).2.2) b (t + 1))
      rw [ms_183_19]
      refine g_iconst mzi_2 ?_
      exact g_iret rfl (hr _ _ _ hC)
theorem cs_183 (hd : 7 ≤ d) (hS : mz_extR S 343) (hR : mz_rok R 343)  (v1 : Int32) (v2 : Int32) (N : mz_N) (b : Bool) (t : Nat) (hp : cp_183_0 v1 v2 N b t) (hq : Q (.inl (some (.int ((cf_183_0 v1 v2 N b t).1)))) (mz_k S R ((cf_183_0 v1 v2 N b t).2.1) b ((cf_183_0 v1 v2 N b t).2.2))) : mz_Ed (mz_X0 L xs) d 183 [.ref 0, .int v1, .int v2, .ref 342] (mz_k S R N b t) Q :=
  by
  refine g_in mzq_183 (Nat.le_of_ble_eq_true rfl) (Nat.le_of_ble_eq_true rfl) (Nat.le_trans (Nat.le_of_ble_eq_true rfl) hd) ?_
  refine g_weak ?_ (cg_183_0 (d := d - 1) (by omega) hS hR v1 v2 N b t (C0 := fun z => Q (.inl (some (.int z.1))) (mz_k S R z.2.1 b z.2.2)) (fun _ _ _ h => h) hp hq)
  exact ⟨rfl, rfl, rfl, rfl, trivial⟩
/-! 187 KeptHouse.mustAllow (Z)V -/
theorem ms_187_0 : mz_sf mk_187 0 = mk_187 := mz_sf_zero _
theorem ms_187_14 : mz_sf mk_187 14 = mt_187_14 := mz_sf_add ms_187_0 (t := 14) rfl rfl
set_option maxRecDepth 100000 in
theorem mzq_187 : mz_PG0 187 = some (11, ⟨"KeptHouse", "mustAllow", "(Z)V"⟩, prog_1_method_5_code, 1, none, [], mk_187, []) := rfl
theorem cg_187_0 (hd : 0 ≤ d) (hS : mz_extR S 232) (hR : mz_rok R 232)  (v0 : Bool) {C0 : (Nat) → Prop} (hr : C0 0 → Q (.inl none) (mz_k S R N b t)) (ht : ∀ (c : Nat) , ¬ c = 0 → C0 c → Q (.inr (c - 1)) (mz_k S R N b (t + 1))) (h1000 : t < 1000) (hp : cp_187_0 v0) (hC : C0 (cf_187_0 v0)) : mz_G (d, mz_X0 L xs, none, [], mk_187, 1, Q) 0 mk_187 [(0, .int (mz_b01 v0))] [] true (mz_k S R N b t) := by
  unfold cf_187_0 at hC
  unfold cp_187_0 at hp
  refine g_iload_n rfl ?_
  refine g_zne (tg := 14) rfl ms_187_14 hC (fun h1 hC => ?_) (fun h1 hC => ?_)
  · exact g_vret rfl (hr hC)
  · exact g_thr h1000 (ht 2  (by decide) hC)
theorem cs_187 (hd : 1 ≤ d) (hS : mz_extR S 232) (hR : mz_rok R 232)  (v0 : Bool) (hp : cp_187_0 v0) (h1000 : t < 1000) (h0 : (cf_187_0 v0) = 0 → Q (.inl none) (mz_k S R N b t)) (h1 : ¬ (cf_187_0 v0) = 0 → Q (.inr ((cf_187_0 v0) - 1)) (mz_k S R N b (t + 1))) : mz_Ed (mz_X0 L xs) d 187 [.int (mz_b01 v0)] (mz_k S R N b t) Q :=
  by
  refine g_in mzq_187 (Nat.le_of_ble_eq_true rfl) (Nat.le_of_ble_eq_true rfl) (Nat.le_trans (Nat.le_of_ble_eq_true rfl) hd) ?_
  refine g_weak ?_ (cg_187_0 (d := d - 1) (by omega) hS hR v0 (C0 := fun z => (z = 0 → Q (.inl none) (mz_k S R N b t)) ∧ (¬ z = 0 → Q (.inr (z - 1)) (mz_k S R N b (t + 1)))) (fun h => h.1 rfl) (fun c hc h => h.2 hc) h1000 hp ⟨h0, h1⟩)
  exact ⟨rfl, trivial⟩
/-! 186 KeptHouse.type (I)I -/
theorem ms_186_0 : mz_sf mk_186 0 = mk_186 := mz_sf_zero _
theorem ms_186_29 : mz_sf mk_186 29 = mt_186_29 := mz_sf_add ms_186_0 (t := 29) rfl rfl
theorem ms_186_30 : mz_sf mk_186 30 = mt_186_30 := mz_sf_add ms_186_29 (t := 1) rfl rfl
theorem ms_186_62 : mz_sf mk_186 62 = mt_186_62 := mz_sf_add ms_186_30 (t := 32) rfl rfl
set_option maxRecDepth 100000 in
theorem mzq_186 : mz_PG0 186 = some (11, ⟨"KeptHouse", "type", "(I)I"⟩, prog_1_method_26_code, 2, some .int, [], mk_186, []) := rfl
theorem cg_186_62 (hd : 1 ≤ d) (hS : mz_extR S 232) (hR : mz_rok R 232)  (N : mz_N) {C0 : (Nat × Int32 × mz_N) → Prop} (hr : ∀ (w : Int32) (N2 : mz_N), C0 (0, w, N2) → Q (.inl (some (.int w))) (mz_k S R N2 b t)) (ht : ∀ (c : Nat) (w : Int32) (N2 : mz_N), ¬ c = 0 → C0 (c, w, N2) → Q (.inr (c - 1)) (mz_k S R N2 b (t + 1))) (h1000 : t < 1000) (hp : cp_186_62 N) (hC : C0 (cf_186_62 N)) : mz_G (d, mz_X0 L xs, some .int, [], mk_186, 2, Q) 62 mt_186_62 [(0, .ref 0)] [] false (mz_k S R N b t) := by
  unfold cf_186_62 at hC
  unfold cp_186_62 at hp
  refine g_aload_n rfl (g_getR (mz_at hS (Nat.le_of_ble_eq_true rfl) mzcS_0) mzcf_11_2 (mz_rb hR (Nat.le_of_ble_eq_true rfl) rfl mzcR_0_2) (g_getI (mz_at hS (Nat.le_of_ble_eq_true rfl) mzcS_41) mzcf_6_1 ?_))
  exact g_iret rfl (hr _ _ hC)
theorem cg_186_30 (hd : 1 ≤ d) (hS : mz_extR S 232) (hR : mz_rok R 232)  (s0 : Bool) (v1 : Int32) (N : mz_N) {C0 : (Nat × Int32 × mz_N) → Prop} (hr : ∀ (w : Int32) (N2 : mz_N), C0 (0, w, N2) → Q (.inl (some (.int w))) (mz_k S R N2 b t)) (ht : ∀ (c : Nat) (w : Int32) (N2 : mz_N), ¬ c = 0 → C0 (c, w, N2) → Q (.inr (c - 1)) (mz_k S R N2 b (t + 1))) (h1000 : t < 1000) (hp : cp_186_30 s0 v1 N) (hC : C0 (cf_186_30 s0 v1 N)) : mz_G (d, mz_X0 L xs, some .int, [], mk_186, 2, Q) 30 mt_186_30 [(0, .ref 0), (1, .int v1)] [.int (mz_b01 s0)] false (mz_k S R N b t) := by
  unfold cf_186_30 at hC
  unfold cp_186_30 at hp
  refine g_s1nt (Nat.le_of_ble_eq_true rfl) rfl (fun _ hz0 hz1 => cs_187 (Nat.le_trans (Nat.le_of_ble_eq_true rfl) hd) (hS.le (Nat.le_of_ble_eq_true rfl)) (hR.le (Nat.le_of_ble_eq_true rfl))  s0 trivial h1000 hz0 hz1) hC (fun h3 hC => ?_) (fun h3 hC => ?_)
  · have hp := hp.1 h3
    refine g_aload_n rfl (g_getR (mz_at hS (Nat.le_of_ble_eq_true rfl) mzcS_0) mzcf_11_2 (mz_rb hR (Nat.le_of_ble_eq_true rfl) rfl mzcR_0_2) (g_getR (mz_at hS (Nat.le_of_ble_eq_true rfl) mzcS_41) mzcf_6_0 (mz_rb hR (Nat.le_of_ble_eq_true rfl) rfl mzcR_41_0) (g_aload_n rfl (g_getR (mz_at hS (Nat.le_of_ble_eq_true rfl) mzcS_0) mzcf_11_2 (mz_rb hR (Nat.le_of_ble_eq_true rfl) rfl mzcR_0_2) (g_getI (mz_at hS (Nat.le_of_ble_eq_true rfl) mzcS_41) mzcf_6_1 (g_iload_n rfl ?_))))))
    obtain ⟨h2, hp⟩ := hp
    refine g_iast (mz_at hS (Nat.le_of_ble_eq_true rfl) mzcS_42) h2 (g_aload_n rfl (g_getR (mz_at hS (Nat.le_of_ble_eq_true rfl) mzcS_0) mzcf_11_2 (mz_rb hR (Nat.le_of_ble_eq_true rfl) rfl mzcR_0_2) (g_dup rfl (g_getI (mz_at hS (Nat.le_of_ble_eq_true rfl) mzcS_41) mzcf_6_1 (g_iconst mzi_1 (g_iadd (g_putI (mz_at hS (Nat.le_of_ble_eq_true rfl) mzcS_41) mzcf_6_1 ?_)))))))
    refine g_weak ?_ (g_cl (cg_186_62 hd hS hR (mz_pI (mz_wI N 42 (N.1 41 1) v1) 41 1 (((mz_wI N 42 (N.1 41 1) v1).1 41 1) + 1)) hr ht h1000 hp hC))
    exact ⟨rfl, trivial⟩
  · have hp := hp.2 h3
    exact ht _ _ _ h3 hC
theorem cg_186_0 (hd : 1 ≤ d) (hS : mz_extR S 232) (hR : mz_rok R 232)  (v1 : Int32) (N : mz_N) {C0 : (Nat × Int32 × mz_N) → Prop} (hr : ∀ (w : Int32) (N2 : mz_N), C0 (0, w, N2) → Q (.inl (some (.int w))) (mz_k S R N2 b t)) (ht : ∀ (c : Nat) (w : Int32) (N2 : mz_N), ¬ c = 0 → C0 (c, w, N2) → Q (.inr (c - 1)) (mz_k S R N2 b (t + 1))) (h1000 : t < 1000) (hp : cp_186_0 v1 N) (hC : C0 (cf_186_0 v1 N)) : mz_G (d, mz_X0 L xs, some .int, [], mk_186, 2, Q) 0 mk_186 [(0, .ref 0), (1, .int v1)] [] true (mz_k S R N b t) := by
  unfold cf_186_0 at hC
  unfold cp_186_0 at hp
  refine g_aload_n rfl ?_
  obtain ⟨h1, hp⟩ := hp
  refine g_v1nt (Nat.le_of_ble_eq_true rfl) (mz_at hS (Nat.le_of_ble_eq_true rfl) mzcS_0) rfl (fun _ hz0 hz1 => cs_104 (Nat.le_trans (Nat.le_of_ble_eq_true rfl) hd) (hS.le (Nat.le_of_ble_eq_true rfl)) (hR.le (Nat.le_of_ble_eq_true rfl))  N h1 h1000 hz0 hz1) hC (fun h5 hC => ?_) (fun h5 hC => ?_)
  · have hp := hp.1 h5
    refine g_iload_n rfl (g_bipush mzb_32 (g_bipush mzb_126 ?_))
    obtain ⟨h2, hp⟩ := hp
    refine g_s3nt (Nat.le_of_ble_eq_true rfl) rfl (fun _ hz0 hz1 => cs_105 (Nat.le_trans (Nat.le_of_ble_eq_true rfl) hd) (hS.le (Nat.le_of_ble_eq_true rfl)) (hR.le (Nat.le_of_ble_eq_true rfl))  v1 32 126 h2 h1000 hz0 hz1) hC (fun h4 hC => ?_) (fun h4 hC => ?_)
    · have hp := hp.1 h4
      refine g_aload_n rfl (g_getR (mz_at hS (Nat.le_of_ble_eq_true rfl) mzcS_0) mzcf_11_2 (mz_rb hR (Nat.le_of_ble_eq_true rfl) rfl mzcR_0_2) (g_getI (mz_at hS (Nat.le_of_ble_eq_true rfl) mzcS_41) mzcf_6_1 (g_sipush mzs_196 ?_)))
      refine g_icge (tg := 29) rfl ms_186_29 hC (fun h3 hC => ?_) (fun h3 hC => ?_)
      · have hp := hp.1 h3
        refine g_iconst mzi_1 (g_goto (tg := 30) rfl ms_186_30 ?_)
        refine g_weak ?_ (g_cl (cg_186_30 hd hS hR true v1 N hr ht h1000 hp hC))
        exact ⟨rfl, rfl, trivial⟩
      · have hp := hp.2 h3
        refine g_iconst mzi_0 ?_
        refine g_weak ?_ (g_cl (cg_186_30 hd hS hR false v1 N hr ht h1000 hp hC))
        exact ⟨rfl, rfl, trivial⟩
    · have hp := hp.2 h4
      exact ht _ _ _ h4 hC
  · have hp := hp.2 h5
    exact ht _ _ _ h5 hC
theorem cs_186 (hd : 2 ≤ d) (hS : mz_extR S 232) (hR : mz_rok R 232)  (v1 : Int32) (N : mz_N) (hp : cp_186_0 v1 N) (h1000 : t < 1000) (h0 : (cf_186_0 v1 N).1 = 0 → Q (.inl (some (.int ((cf_186_0 v1 N).2.1)))) (mz_k S R ((cf_186_0 v1 N).2.2) b t)) (h1 : ¬ (cf_186_0 v1 N).1 = 0 → Q (.inr (((cf_186_0 v1 N).1) - 1)) (mz_k S R ((cf_186_0 v1 N).2.2) b (t + 1))) : mz_Ed (mz_X0 L xs) d 186 [.ref 0, .int v1] (mz_k S R N b t) Q :=
  by
  refine g_in mzq_186 (Nat.le_of_ble_eq_true rfl) (Nat.le_of_ble_eq_true rfl) (Nat.le_trans (Nat.le_of_ble_eq_true rfl) hd) ?_
  refine g_weak ?_ (cg_186_0 (d := d - 1) (by omega) hS hR v1 N (C0 := fun z => (z.1 = 0 → Q (.inl (some (.int z.2.1))) (mz_k S R z.2.2 b t)) ∧ (¬ z.1 = 0 → Q (.inr (z.1 - 1)) (mz_k S R z.2.2 b (t + 1)))) (fun _ _ h => h.1 rfl) (fun c _ _ hc h => h.2 hc) h1000 hp ⟨h0, h1⟩)
  exact ⟨rfl, rfl, trivial⟩
/-! 185 KeptHouseLaw.type (LKeptHouse;I[J)I -/
theorem ms_185_0 : mz_sf mk_185 0 = mk_185 := mz_sf_zero _
theorem ms_185_13 : mz_sf mk_185 13 = mt_185_13 := mz_sf_add ms_185_0 (t := 13) rfl rfl
theorem ms_185_16 : mz_sf mk_185 16 = mt_185_16 := mz_sf_add ms_185_13 (t := 3) rfl rfl
theorem ms_185_18 : mz_sf mk_185 18 = mt_185_18 := mz_sf_add ms_185_16 (t := 2) rfl rfl
set_option maxRecDepth 100000 in
theorem mzq_185 : mz_PG0 185 = some (13, ⟨"KeptHouseLaw", "type", "(LKeptHouse;I[J)I"⟩, method_22_code, 4, some .int, [(0, 9, 12, 13), (0, 9, 15, 15)], mk_185, [(0, 12, 13), (1, 15, 16)]) := rfl
theorem cg_185_0 (hd : 2 ≤ d) (hS : mz_extR S 343) (hR : mz_rok R 343)  (v1 : Int32) (N : mz_N) (t : Nat) {C0 : (Int32 × mz_N × Nat) → Prop} (hr : ∀ (w : Int32) (N2 : mz_N) (t2 : Nat), C0 (w, N2, t2) → Q (.inl (some (.int w))) (mz_k S R N2 b t2)) (hp : cp_185_0 v1 N t) (hC : C0 (cf_185_0 v1 N t)) : mz_G (d, mz_X0 L xs, some .int, [(0, 12, 13), (1, 15, 16)], mk_185, 4, Q) 0 mk_185 [(0, .ref 0), (1, .int v1), (2, .ref 342)] [] true (mz_k S R N b t) := by
  unfold cf_185_0 at hC
  unfold cp_185_0 at hp
  refine g_aload_n rfl (g_iconst mzi_0 (g_aload_n rfl (g_iload_n rfl ?_)))
  obtain ⟨h1, hp⟩ := hp
  obtain ⟨h1000, hp⟩ := hp
  refine g_v2vh (Nat.le_of_ble_eq_true rfl) (mz_at hS (Nat.le_of_ble_eq_true rfl) mzcS_0) (fun _ hz0 hz1 => cs_186 (Nat.le_trans (Nat.le_of_ble_eq_true rfl) hd) (hS.le (Nat.le_of_ble_eq_true rfl)) (hR.le (Nat.le_of_ble_eq_true rfl))  v1 N h1 h1000 hz0 hz1) hC (fun h2 hC => ?_) (fun h2 hC => ?_)
  · have hp := hp.1 h2
    refine g_i2l (g_last (mz_at hS (Nat.le_of_ble_eq_true rfl) mzcS_342) (mz_ibd (by decide)) (g_goto (tg := 18) rfl ms_185_18 (g_iconst mzi_0 ?_)))
    exact g_iret rfl (hr _ _ _ hC)
  · have hp := hp.2 h2
    refine mz_cs hC (fun h6 hC => ?_) (fun h6 hC => ?_)
    · have hp := hp.1 h6
      refine ⟨(0, 12, 13), (by rw [h6]; rfl), ?_⟩
      show mz_G (d, mz_X0 L xs, some .int, [(0, 12, 13), (1, 15, 16)], mk_185, 4, Q) 13 (mz_sf mk_185 13) [] [] false (mz_k S R ((cf_186_0 v1 N).2.2) b (t + 1))
      rw [ms_185_13]
      refine g_iconst mzi_1 ?_
      exact g_iret rfl (hr _ _ _ hC)
    · have hp := hp.2 h6
      have h4 := hp
      refine ⟨(1, 15, 16), (by rw [h4]; rfl), ?_⟩
      show mz_G (d, mz_X0 L xs, some .int, [(0, 12, 13), (1, 15, 16)], mk_185, 4, Q) 16 (mz_sf mk_185 16) [] [] false (mz_k S R ((cf_186_0 v1 N).2.2) b (t + 1))
      rw [ms_185_16]
      refine g_iconst mzi_2 ?_
      exact g_iret rfl (hr _ _ _ hC)
theorem cs_185 (hd : 3 ≤ d) (hS : mz_extR S 343) (hR : mz_rok R 343)  (v1 : Int32) (N : mz_N) (t : Nat) (hp : cp_185_0 v1 N t) (hq : Q (.inl (some (.int ((cf_185_0 v1 N t).1)))) (mz_k S R ((cf_185_0 v1 N t).2.1) b ((cf_185_0 v1 N t).2.2))) : mz_Ed (mz_X0 L xs) d 185 [.ref 0, .int v1, .ref 342] (mz_k S R N b t) Q :=
  by
  refine g_in mzq_185 (Nat.le_of_ble_eq_true rfl) (Nat.le_of_ble_eq_true rfl) (Nat.le_trans (Nat.le_of_ble_eq_true rfl) hd) ?_
  refine g_weak ?_ (cg_185_0 (d := d - 1) (by omega) hS hR v1 N t (C0 := fun z => Q (.inl (some (.int z.1))) (mz_k S R z.2.1 b z.2.2)) (fun _ _ _ h => h) hp hq)
  exact ⟨rfl, rfl, rfl, trivial⟩
/-! 189 KeptHouse.wipe ()I -/
theorem ms_189_0 : mz_sf mk_189 0 = mk_189 := mz_sf_zero _
set_option maxRecDepth 100000 in
theorem mzq_189 : mz_PG0 189 = some (11, ⟨"KeptHouse", "wipe", "()I"⟩, prog_1_method_27_code, 2, some .int, [], mk_189, []) := rfl
theorem cg_189_0 (hd : 1 ≤ d) (hS : mz_extR S 232) (hR : mz_rok R 232)  (N : mz_N) {C0 : (Nat × Int32 × mz_N) → Prop} (hr : ∀ (w : Int32) (N2 : mz_N), C0 (0, w, N2) → Q (.inl (some (.int w))) (mz_k S R N2 b t)) (ht : ∀ (c : Nat) (w : Int32) (N2 : mz_N), ¬ c = 0 → C0 (c, w, N2) → Q (.inr (c - 1)) (mz_k S R N2 b (t + 1))) (h1000 : t < 1000) (hp : cp_189_0 N) (hC : C0 (cf_189_0 N)) : mz_G (d, mz_X0 L xs, some .int, [], mk_189, 2, Q) 0 mk_189 [(0, .ref 0)] [] true (mz_k S R N b t) := by
  unfold cf_189_0 at hC
  unfold cp_189_0 at hp
  refine g_aload_n rfl ?_
  have h1 := hp
  refine g_v1nt (Nat.le_of_ble_eq_true rfl) (mz_at hS (Nat.le_of_ble_eq_true rfl) mzcS_0) rfl (fun _ hz0 hz1 => cs_104 (Nat.le_trans (Nat.le_of_ble_eq_true rfl) hd) (hS.le (Nat.le_of_ble_eq_true rfl)) (hR.le (Nat.le_of_ble_eq_true rfl))  N h1 h1000 hz0 hz1) hC (fun h2 hC => ?_) (fun h2 hC => ?_)
  · refine g_aload_n rfl (g_getR (mz_at hS (Nat.le_of_ble_eq_true rfl) mzcS_0) mzcf_11_2 (mz_rb hR (Nat.le_of_ble_eq_true rfl) rfl mzcR_0_2) (g_getI (mz_at hS (Nat.le_of_ble_eq_true rfl) mzcS_41) mzcf_6_1 (g_istore_n (Nat.le_of_ble_eq_true rfl) rfl (g_aload_n rfl (g_getR (mz_at hS (Nat.le_of_ble_eq_true rfl) mzcS_0) mzcf_11_2 (mz_rb hR (Nat.le_of_ble_eq_true rfl) rfl mzcR_0_2) (g_iconst mzi_0 (g_putI (mz_at hS (Nat.le_of_ble_eq_true rfl) mzcS_41) mzcf_6_1 ?_)))))))
    refine g_iload_n rfl ?_
    exact g_iret rfl (hr _ _ hC)
  · exact ht _ _ _ h2 hC
theorem cs_189 (hd : 2 ≤ d) (hS : mz_extR S 232) (hR : mz_rok R 232)  (N : mz_N) (hp : cp_189_0 N) (h1000 : t < 1000) (h0 : (cf_189_0 N).1 = 0 → Q (.inl (some (.int ((cf_189_0 N).2.1)))) (mz_k S R ((cf_189_0 N).2.2) b t)) (h1 : ¬ (cf_189_0 N).1 = 0 → Q (.inr (((cf_189_0 N).1) - 1)) (mz_k S R ((cf_189_0 N).2.2) b (t + 1))) : mz_Ed (mz_X0 L xs) d 189 [.ref 0] (mz_k S R N b t) Q :=
  by
  refine g_in mzq_189 (Nat.le_of_ble_eq_true rfl) (Nat.le_of_ble_eq_true rfl) (Nat.le_trans (Nat.le_of_ble_eq_true rfl) hd) ?_
  refine g_weak ?_ (cg_189_0 (d := d - 1) (by omega) hS hR N (C0 := fun z => (z.1 = 0 → Q (.inl (some (.int z.2.1))) (mz_k S R z.2.2 b t)) ∧ (¬ z.1 = 0 → Q (.inr (z.1 - 1)) (mz_k S R z.2.2 b (t + 1)))) (fun _ _ h => h.1 rfl) (fun c _ _ hc h => h.2 hc) h1000 hp ⟨h0, h1⟩)
  exact ⟨rfl, trivial⟩
/-! 188 KeptHouseLaw.wipe (LKeptHouse;[J)I -/
theorem ms_188_0 : mz_sf mk_188 0 = mk_188 := mz_sf_zero _
theorem ms_188_12 : mz_sf mk_188 12 = mt_188_12 := mz_sf_add ms_188_0 (t := 12) rfl rfl
theorem ms_188_14 : mz_sf mk_188 14 = mt_188_14 := mz_sf_add ms_188_12 (t := 2) rfl rfl
set_option maxRecDepth 100000 in
theorem mzq_188 : mz_PG0 188 = some (13, ⟨"KeptHouseLaw", "wipe", "(LKeptHouse;[J)I"⟩, method_23_code, 3, some .int, [(0, 8, 11, 15)], mk_188, [(1, 11, 12)]) := rfl
theorem cg_188_0 (hd : 2 ≤ d) (hS : mz_extR S 343) (hR : mz_rok R 343)  (N : mz_N) (t : Nat) {C0 : (Int32 × mz_N × Nat) → Prop} (hr : ∀ (w : Int32) (N2 : mz_N) (t2 : Nat), C0 (w, N2, t2) → Q (.inl (some (.int w))) (mz_k S R N2 b t2)) (hp : cp_188_0 N t) (hC : C0 (cf_188_0 N t)) : mz_G (d, mz_X0 L xs, some .int, [(1, 11, 12)], mk_188, 3, Q) 0 mk_188 [(0, .ref 0), (1, .ref 342)] [] true (mz_k S R N b t) := by
  unfold cf_188_0 at hC
  unfold cp_188_0 at hp
  refine g_aload_n rfl (g_iconst mzi_0 (g_aload_n rfl ?_))
  obtain ⟨h1, hp⟩ := hp
  obtain ⟨h1000, hp⟩ := hp
  refine g_v1vh (Nat.le_of_ble_eq_true rfl) (mz_at hS (Nat.le_of_ble_eq_true rfl) mzcS_0) (fun _ hz0 hz1 => cs_189 (Nat.le_trans (Nat.le_of_ble_eq_true rfl) hd) (hS.le (Nat.le_of_ble_eq_true rfl)) (hR.le (Nat.le_of_ble_eq_true rfl))  N h1 h1000 hz0 hz1) hC (fun h2 hC => ?_) (fun h2 hC => ?_)
  · have hp := hp.1 h2
    refine g_i2l (g_last (mz_at hS (Nat.le_of_ble_eq_true rfl) mzcS_342) (mz_ibd (by decide)) (g_goto (tg := 14) rfl ms_188_14 (g_iconst mzi_0 ?_)))
    exact g_iret rfl (hr _ _ _ hC)
  · have hp := hp.2 h2
    have h4 := hp
    refine ⟨(1, 11, 12), (by rw [h4]; rfl), ?_⟩
    show mz_G (d, mz_X0 L xs, some .int, [(1, 11, 12)], mk_188, 3, Q) 12 (mz_sf mk_188 12) [] [] false (mz_k S R ((cf_189_0 N).2.2) b (t + 1))
    rw [ms_188_12]
    refine g_iconst mzi_1 ?_
    exact g_iret rfl (hr _ _ _ hC)
theorem cs_188 (hd : 3 ≤ d) (hS : mz_extR S 343) (hR : mz_rok R 343)  (N : mz_N) (t : Nat) (hp : cp_188_0 N t) (hq : Q (.inl (some (.int ((cf_188_0 N t).1)))) (mz_k S R ((cf_188_0 N t).2.1) b ((cf_188_0 N t).2.2))) : mz_Ed (mz_X0 L xs) d 188 [.ref 0, .ref 342] (mz_k S R N b t) Q :=
  by
  refine g_in mzq_188 (Nat.le_of_ble_eq_true rfl) (Nat.le_of_ble_eq_true rfl) (Nat.le_trans (Nat.le_of_ble_eq_true rfl) hd) ?_
  refine g_weak ?_ (cg_188_0 (d := d - 1) (by omega) hS hR N t (C0 := fun z => Q (.inl (some (.int z.1))) (mz_k S R z.2.1 b z.2.2)) (fun _ _ _ h => h) hp hq)
  exact ⟨rfl, rfl, trivial⟩
/-! 192 KeptHouse$Program.tryTyped ()Z -/
theorem ms_192_0 : mz_sf mk_192 0 = mk_192 := mz_sf_zero _
theorem ms_192_29 : mz_sf mk_192 29 = mt_192_29 := mz_sf_add ms_192_0 (t := 29) rfl rfl
theorem ms_192_42 : mz_sf mk_192 42 = mt_192_42 := mz_sf_add ms_192_29 (t := 13) rfl rfl
set_option maxRecDepth 100000 in
theorem mzq_192 : mz_PG0 192 = some (6, ⟨"KeptHouse$Program", "tryTyped", "()Z"⟩, prog_8_method_4_code, 1, some .boolean, [], mk_192, []) := rfl
theorem cg_192_29 (hd : 5 ≤ d) (hS : mz_extR S 232) (hR : mz_rok R 232)  (N : mz_N) (b : Bool) {C0 : (Bool × mz_N × Bool) → Prop} (hr : ∀ (w : Bool) (N2 : mz_N) (b2 : Bool), C0 (w, N2, b2) → Q (.inl (some (.int (mz_b01 w)))) (mz_k S R N2 b2 t)) (hp : cp_192_29 N b) (hC : C0 (cf_192_29 N b)) : mz_G (d, mz_X0 L xs, some .boolean, [], mk_192, 1, Q) 29 mt_192_29 [(0, .ref 41)] [] false (mz_k S R N b t) := by
  unfold cf_192_29 at hC
  unfold cp_192_29 at hp
  refine g_aload_n rfl (g_aload_n rfl (g_getR (mz_at hS (Nat.le_of_ble_eq_true rfl) mzcS_41) mzcf_6_3 (mz_rb_ot b hR (Nat.le_of_ble_eq_true rfl)) (g_getI (mz_at hS (mz_oL0 (mz_ot_or b) (Nat.le_of_ble_eq_true rfl)) (mz_oA0 (mz_ot_or b))) mzcf_7_7 (g_putI (mz_at hS (Nat.le_of_ble_eq_true rfl) mzcS_41) mzcf_6_5 (g_iconst mzi_0 ?_)))))
  exact g_zret (z := false) rfl (hr _ _ _ hC)
theorem cg_192_0 (hd : 5 ≤ d) (hS : mz_extR S 232) (hR : mz_rok R 232)  (N : mz_N) (b : Bool) {C0 : (Bool × mz_N × Bool) → Prop} (hr : ∀ (w : Bool) (N2 : mz_N) (b2 : Bool), C0 (w, N2, b2) → Q (.inl (some (.int (mz_b01 w)))) (mz_k S R N2 b2 t)) (hp : cp_192_0 N b) (hC : C0 (cf_192_0 N b)) : mz_G (d, mz_X0 L xs, some .boolean, [], mk_192, 1, Q) 0 mk_192 [(0, .ref 41)] [] true (mz_k S R N b t) := by
  unfold cf_192_0 at hC
  unfold cp_192_0 at hp
  refine g_aload_n rfl (g_getR (mz_at hS (Nat.le_of_ble_eq_true rfl) mzcS_41) mzcf_6_3 (mz_rb_ot b hR (Nat.le_of_ble_eq_true rfl)) (g_aload_n rfl (g_getR (mz_at hS (Nat.le_of_ble_eq_true rfl) mzcS_41) mzcf_6_0 (mz_rb hR (Nat.le_of_ble_eq_true rfl) rfl mzcR_41_0) (g_aload_n rfl (g_getI (mz_at hS (Nat.le_of_ble_eq_true rfl) mzcS_41) mzcf_6_1 ?_)))))
  obtain ⟨h1, hp⟩ := hp
  refine g_v3v (Nat.le_of_ble_eq_true rfl) (mz_at hS (mz_oL0 (mz_ot_or b) (Nat.le_of_ble_eq_true rfl)) (mz_oA0 (mz_ot_or b))) (fun _ hq => cs_23 (Nat.le_trans (Nat.le_of_ble_eq_true rfl) hd) (hS.le (Nat.le_of_ble_eq_true rfl)) (hR.le (Nat.le_of_ble_eq_true rfl)) (mz_ot b) 42 (mz_ot_or b) (mz_at hS (Nat.le_of_ble_eq_true rfl) mzcS_42) (N.1 41 1) N h1 hq) ?_
  refine g_zne (tg := 42) rfl ms_192_42 hC (fun h2 hC => ?_) (fun h2 hC => ?_)
  · have hp := hp.1 h2
    refine g_aload_n rfl (g_iconst mzi_m1 (g_putI (mz_at hS (Nat.le_of_ble_eq_true rfl) mzcS_41) mzcf_6_4 (g_aload_n rfl (g_iconst mzi_m1 (g_putI (mz_at hS (Nat.le_of_ble_eq_true rfl) mzcS_41) mzcf_6_5 (g_aload_n rfl ?_))))))
    have h3 := hp
    refine g_v1n (Nat.le_of_ble_eq_true rfl) (mz_at hS (Nat.le_of_ble_eq_true rfl) mzcS_41) (fun _ hq => cs_76 (Nat.le_trans (Nat.le_of_ble_eq_true rfl) hd) (hS.le (Nat.le_of_ble_eq_true rfl)) (hR.le (Nat.le_of_ble_eq_true rfl))  (mz_pI (mz_pI ((cf_23_0 (mz_ot b) 42 (N.1 41 1) N).2) 41 4 (-1)) 41 5 (-1)) b h3 hq) (g_iconst mzi_1 ?_)
    exact g_zret (z := true) rfl (hr _ _ _ hC)
  · have hp := hp.2 h2
    refine g_aload_n rfl (g_aload_n rfl (g_getR (mz_at hS (Nat.le_of_ble_eq_true rfl) mzcS_41) mzcf_6_3 (mz_rb_ot b hR (Nat.le_of_ble_eq_true rfl)) (g_getI (mz_at hS (mz_oL0 (mz_ot_or b) (Nat.le_of_ble_eq_true rfl)) (mz_oA0 (mz_ot_or b))) mzcf_7_6 (g_putI (mz_at hS (Nat.le_of_ble_eq_true rfl) mzcS_41) mzcf_6_4 ?_))))
    refine g_weak ?_ (g_cl (cg_192_29 hd hS hR (mz_pI ((cf_23_0 (mz_ot b) 42 (N.1 41 1) N).2) 41 4 (((cf_23_0 (mz_ot b) 42 (N.1 41 1) N).2).1 (mz_ot b) 6)) b hr hp hC))
    exact ⟨rfl, trivial⟩
theorem cs_192 (hd : 6 ≤ d) (hS : mz_extR S 232) (hR : mz_rok R 232)  (N : mz_N) (b : Bool) (hp : cp_192_0 N b) (hq : Q (.inl (some (.int (mz_b01 ((cf_192_0 N b).1))))) (mz_k S R ((cf_192_0 N b).2.1) ((cf_192_0 N b).2.2) t)) : mz_Ed (mz_X0 L xs) d 192 [.ref 41] (mz_k S R N b t) Q :=
  by
  refine g_in mzq_192 (Nat.le_of_ble_eq_true rfl) (Nat.le_of_ble_eq_true rfl) (Nat.le_trans (Nat.le_of_ble_eq_true rfl) hd) ?_
  refine g_weak ?_ (cg_192_0 (d := d - 1) (by omega) hS hR N b (C0 := fun z => Q (.inl (some (.int (mz_b01 z.1)))) (mz_k S R z.2.1 z.2.2 t)) (fun _ _ _ h => h) hp hq)
  exact ⟨rfl, trivial⟩
/-! 191 KeptHouse.load ()I -/
theorem ms_191_0 : mz_sf mk_191 0 = mk_191 := mz_sf_zero _
theorem ms_191_18 : mz_sf mk_191 18 = mt_191_18 := mz_sf_add ms_191_0 (t := 18) rfl rfl
theorem ms_191_27 : mz_sf mk_191 27 = mt_191_27 := mz_sf_add ms_191_18 (t := 9) rfl rfl
theorem ms_191_49 : mz_sf mk_191 49 = mt_191_49 := mz_sf_add ms_191_27 (t := 22) rfl rfl
theorem ms_191_72 : mz_sf mk_191 72 = mt_191_72 := mz_sf_add ms_191_49 (t := 23) rfl rfl
theorem ms_191_75 : mz_sf mk_191 75 = mt_191_75 := mz_sf_add ms_191_72 (t := 3) rfl rfl
set_option maxRecDepth 100000 in
theorem mzq_191 : mz_PG0 191 = some (11, ⟨"KeptHouse", "load", "()I"⟩, prog_1_method_28_code, 2, some .int, [], mk_191, []) := rfl
theorem cb_191_27 (hd : 6 ≤ d) (hS : mz_extR S 232) (hR : mz_rok R 232)  (b : Bool) (s : Int32 × mz_N) {C0 : (Nat × Int32 × mz_N × Bool) → Prop} (hr : ∀ (w : Int32) (N2 : mz_N) (b2 : Bool), C0 (0, w, N2, b2) → Q (.inl (some (.int w))) (mz_k S R N2 b2 t)) (ht : ∀ (c : Nat) (w : Int32) (N2 : mz_N) (b2 : Bool), ¬ c = 0 → C0 (c, w, N2, b2) → Q (.inr (c - 1)) (mz_k S R N2 b2 (t + 1))) (h1000 : t < 1000) {C1 : ((Int32 × mz_N) ⊕ (Nat × Int32 × mz_N × Bool)) → Prop} (hc1 : ∀ s2, C1 (.inl s2) → mz_G (d, mz_X0 L xs, some .int, [], mk_191, 2, Q) 27 mt_191_27 [(0, .ref 0), (1, .int s2.1)] [] false (mz_k S R s2.2 b t)) (hx1 : ∀ z, C1 (.inr z) → C0 z) (hp : cd_191_27 b s) (hC : C1 (cq_191_27 b s)) : mz_G (d, mz_X0 L xs, some .int, [], mk_191, 2, Q) 27 mt_191_27 [(0, .ref 0), (1, .int s.1)] [] false (mz_k S R s.2 b t) := by
  unfold cq_191_27 at hC
  unfold cd_191_27 at hp
  refine g_iload_n rfl (g_bipush mzb_8 ?_)
  refine g_icge (tg := 49) rfl ms_191_49 hC (fun h1 hC => ?_) (fun h1 hC => ?_)
  · have hp := hp.1 h1
    refine g_aload_n rfl (g_getR (mz_at hS (Nat.le_of_ble_eq_true rfl) mzcS_0) mzcf_11_0 (mz_rb hR (Nat.le_of_ble_eq_true rfl) rfl mzcR_0_0) (g_bipush mzb_6 (g_iload_n rfl ?_)))
    have h2 := hp
    refine g_v3n (Nat.le_of_ble_eq_true rfl) (mz_at hS (Nat.le_of_ble_eq_true rfl) mzcS_1) (fun _ hq => cs_119 (Nat.le_trans (Nat.le_of_ble_eq_true rfl) hd) (hS.le (Nat.le_of_ble_eq_true rfl)) (hR.le (Nat.le_of_ble_eq_true rfl))  6 s.1 s.2 h2 hq) (g_iinc rfl mzi_1 (Nat.le_of_ble_eq_true rfl) rfl (g_goto (tg := 27) rfl ms_191_27 ?_))
    refine g_weak ?_ (g_cl (hc1 ((s.1 + 1), (cf_119_0 6 s.1 s.2)) hC))
    exact ⟨rfl, rfl, trivial⟩
  · have hp := hp.2 h1
    refine g_aload_n rfl (g_getR (mz_at hS (Nat.le_of_ble_eq_true rfl) mzcS_0) mzcf_11_0 (mz_rb hR (Nat.le_of_ble_eq_true rfl) rfl mzcR_0_0) ?_)
    have h3 := hp
    refine g_v1v (Nat.le_of_ble_eq_true rfl) (mz_at hS (Nat.le_of_ble_eq_true rfl) mzcS_1) (fun _ hq => cs_121 (Nat.le_trans (Nat.le_of_ble_eq_true rfl) hd) (hS.le (Nat.le_of_ble_eq_true rfl)) (hR.le (Nat.le_of_ble_eq_true rfl))  s.2 b h3 hq) ?_
    refine g_zeq (tg := 72) rfl ms_191_72 hC (fun h4 hC => ?_) (fun h4 hC => ?_)
    · refine g_aload_n rfl (g_getR (mz_at hS (Nat.le_of_ble_eq_true rfl) mzcS_0) mzcf_11_2 (mz_rb hR (Nat.le_of_ble_eq_true rfl) rfl mzcR_0_2) (g_getR (mz_at hS (Nat.le_of_ble_eq_true rfl) mzcS_41) mzcf_6_2 (mz_rb_lv b hR (Nat.le_of_ble_eq_true rfl)) (g_getI (mz_at hS (mz_oL0 (mz_lv_or b) (Nat.le_of_ble_eq_true rfl)) (mz_oA0 (mz_lv_or b))) mzcf_7_5 (g_goto (tg := 75) rfl ms_191_75 ?_))))
      exact g_iret rfl (hr _ _ _ (hx1 _ hC))
    · refine g_sipush mzs_m1001 ?_
      exact g_iret rfl (hr _ _ _ (hx1 _ hC))
theorem cg_191_27 (hd : 6 ≤ d) (hS : mz_extR S 232) (hR : mz_rok R 232)  (v1 : Int32) (N : mz_N) (b : Bool) {C0 : (Nat × Int32 × mz_N × Bool) → Prop} (hr : ∀ (w : Int32) (N2 : mz_N) (b2 : Bool), C0 (0, w, N2, b2) → Q (.inl (some (.int w))) (mz_k S R N2 b2 t)) (ht : ∀ (c : Nat) (w : Int32) (N2 : mz_N) (b2 : Bool), ¬ c = 0 → C0 (c, w, N2, b2) → Q (.inr (c - 1)) (mz_k S R N2 b2 (t + 1))) (h1000 : t < 1000) (hp : cp_191_27 v1 N b) (hC : C0 (cf_191_27 v1 N b)) : mz_G (d, mz_X0 L xs, some .int, [], mk_191, 2, Q) 27 mt_191_27 [(0, .ref 0), (1, .int v1)] [] false (mz_k S R N b t) := by
  obtain ⟨n, hn⟩ := hp
  exact g_loop (G := fun s => mz_G (d, mz_X0 L xs, some .int, [], mk_191, 2, Q) 27 mt_191_27 [(0, .ref 0), (1, .int s.1)] [] false (mz_k S R s.2 b t)) (C := C0) (fun C2 hc hx s hP hC => cb_191_27 hd hS hR b s hr ht h1000 hc hx hP hC) n (v1, N) hn hC
theorem cg_191_0 (hd : 6 ≤ d) (hS : mz_extR S 232) (hR : mz_rok R 232)  (N : mz_N) (b : Bool) {C0 : (Nat × Int32 × mz_N × Bool) → Prop} (hr : ∀ (w : Int32) (N2 : mz_N) (b2 : Bool), C0 (0, w, N2, b2) → Q (.inl (some (.int w))) (mz_k S R N2 b2 t)) (ht : ∀ (c : Nat) (w : Int32) (N2 : mz_N) (b2 : Bool), ¬ c = 0 → C0 (c, w, N2, b2) → Q (.inr (c - 1)) (mz_k S R N2 b2 (t + 1))) (h1000 : t < 1000) (hp : cp_191_0 N b) (hC : C0 (cf_191_0 N b)) : mz_G (d, mz_X0 L xs, some .int, [], mk_191, 2, Q) 0 mk_191 [(0, .ref 0)] [] true (mz_k S R N b t) := by
  unfold cf_191_0 at hC
  unfold cp_191_0 at hp
  refine g_aload_n rfl ?_
  obtain ⟨h1, hp⟩ := hp
  refine g_v1nt (Nat.le_of_ble_eq_true rfl) (mz_at hS (Nat.le_of_ble_eq_true rfl) mzcS_0) rfl (fun _ hz0 hz1 => cs_104 (Nat.le_trans (Nat.le_of_ble_eq_true rfl) hd) (hS.le (Nat.le_of_ble_eq_true rfl)) (hR.le (Nat.le_of_ble_eq_true rfl))  N h1 h1000 hz0 hz1) hC (fun h5 hC => ?_) (fun h5 hC => ?_)
  · have hp := hp.1 h5
    refine g_aload_n rfl (g_getR (mz_at hS (Nat.le_of_ble_eq_true rfl) mzcS_0) mzcf_11_2 (mz_rb hR (Nat.le_of_ble_eq_true rfl) rfl mzcR_0_2) ?_)
    obtain ⟨h2, hp⟩ := hp
    refine g_v1v (Nat.le_of_ble_eq_true rfl) (mz_at hS (Nat.le_of_ble_eq_true rfl) mzcS_41) (fun _ hq => cs_192 (Nat.le_trans (Nat.le_of_ble_eq_true rfl) hd) (hS.le (Nat.le_of_ble_eq_true rfl)) (hR.le (Nat.le_of_ble_eq_true rfl))  N b h2 hq) ?_
    refine g_zne (tg := 18) rfl ms_191_18 hC (fun h3 hC => ?_) (fun h3 hC => ?_)
    · have hp := hp.1 h3
      refine g_aload_n rfl (g_getR (mz_at hS (Nat.le_of_ble_eq_true rfl) mzcS_0) mzcf_11_0 (mz_rb hR (Nat.le_of_ble_eq_true rfl) rfl mzcR_0_0) ?_)
      refine g_v1n (Nat.le_of_ble_eq_true rfl) (mz_at hS (Nat.le_of_ble_eq_true rfl) mzcS_1) (fun _ hq => cs_117 (Nat.le_trans (Nat.le_of_ble_eq_true rfl) hd) (hS.le (Nat.le_of_ble_eq_true rfl)) (hR.le (Nat.le_of_ble_eq_true rfl))  ((cf_192_0 N b).2.1) trivial hq) (g_iconst mzi_0 (g_istore_n (Nat.le_of_ble_eq_true rfl) rfl ?_))
      refine g_weak ?_ (g_cl (cg_191_27 hd hS hR 0 (cf_117_0 ((cf_192_0 N b).2.1)) ((cf_192_0 N b).2.2) hr ht h1000 hp hC))
      exact ⟨rfl, rfl, trivial⟩
    · have hp := hp.2 h3
      refine g_sipush mzs_m1004 ?_
      exact g_iret rfl (hr _ _ _ hC)
  · have hp := hp.2 h5
    exact ht _ _ _ _ h5 hC
theorem cs_191 (hd : 7 ≤ d) (hS : mz_extR S 232) (hR : mz_rok R 232)  (N : mz_N) (b : Bool) (hp : cp_191_0 N b) (h1000 : t < 1000) (h0 : (cf_191_0 N b).1 = 0 → Q (.inl (some (.int ((cf_191_0 N b).2.1)))) (mz_k S R ((cf_191_0 N b).2.2.1) ((cf_191_0 N b).2.2.2) t)) (h1 : ¬ (cf_191_0 N b).1 = 0 → Q (.inr (((cf_191_0 N b).1) - 1)) (mz_k S R ((cf_191_0 N b).2.2.1) ((cf_191_0 N b).2.2.2) (t + 1))) : mz_Ed (mz_X0 L xs) d 191 [.ref 0] (mz_k S R N b t) Q :=
  by
  refine g_in mzq_191 (Nat.le_of_ble_eq_true rfl) (Nat.le_of_ble_eq_true rfl) (Nat.le_trans (Nat.le_of_ble_eq_true rfl) hd) ?_
  refine g_weak ?_ (cg_191_0 (d := d - 1) (by omega) hS hR N b (C0 := fun z => (z.1 = 0 → Q (.inl (some (.int z.2.1))) (mz_k S R z.2.2.1 z.2.2.2 t)) ∧ (¬ z.1 = 0 → Q (.inr (z.1 - 1)) (mz_k S R z.2.2.1 z.2.2.2 (t + 1)))) (fun _ _ _ h => h.1 rfl) (fun c _ _ _ hc h => h.2 hc) h1000 hp ⟨h0, h1⟩)
  exact ⟨rfl, trivial⟩
/-! 190 KeptHouseLaw.load (LKeptHouse;[J)I -/
theorem ms_190_0 : mz_sf mk_190 0 = mk_190 := mz_sf_zero _
theorem ms_190_12 : mz_sf mk_190 12 = mt_190_12 := mz_sf_add ms_190_0 (t := 12) rfl rfl
theorem ms_190_14 : mz_sf mk_190 14 = mt_190_14 := mz_sf_add ms_190_12 (t := 2) rfl rfl
set_option maxRecDepth 100000 in
theorem mzq_190 : mz_PG0 190 = some (13, ⟨"KeptHouseLaw", "load", "(LKeptHouse;[J)I"⟩, method_24_code, 3, some .int, [(0, 8, 11, 15)], mk_190, [(1, 11, 12)]) := rfl
theorem cg_190_0 (hd : 7 ≤ d) (hS : mz_extR S 343) (hR : mz_rok R 343)  (N : mz_N) (b : Bool) (t : Nat) {C0 : (Int32 × mz_N × Bool × Nat) → Prop} (hr : ∀ (w : Int32) (N2 : mz_N) (b2 : Bool) (t2 : Nat), C0 (w, N2, b2, t2) → Q (.inl (some (.int w))) (mz_k S R N2 b2 t2)) (hp : cp_190_0 N b t) (hC : C0 (cf_190_0 N b t)) : mz_G (d, mz_X0 L xs, some .int, [(1, 11, 12)], mk_190, 3, Q) 0 mk_190 [(0, .ref 0), (1, .ref 342)] [] true (mz_k S R N b t) := by
  unfold cf_190_0 at hC
  unfold cp_190_0 at hp
  refine g_aload_n rfl (g_iconst mzi_0 (g_aload_n rfl ?_))
  obtain ⟨h1, hp⟩ := hp
  obtain ⟨h1000, hp⟩ := hp
  refine g_v1vh (Nat.le_of_ble_eq_true rfl) (mz_at hS (Nat.le_of_ble_eq_true rfl) mzcS_0) (fun _ hz0 hz1 => cs_191 (Nat.le_trans (Nat.le_of_ble_eq_true rfl) hd) (hS.le (Nat.le_of_ble_eq_true rfl)) (hR.le (Nat.le_of_ble_eq_true rfl))  N b h1 h1000 hz0 hz1) hC (fun h2 hC => ?_) (fun h2 hC => ?_)
  · have hp := hp.1 h2
    refine g_i2l (g_last (mz_at hS (Nat.le_of_ble_eq_true rfl) mzcS_342) (mz_ibd (by decide)) (g_goto (tg := 14) rfl ms_190_14 (g_iconst mzi_0 ?_)))
    exact g_iret rfl (hr _ _ _ _ hC)
  · have hp := hp.2 h2
    have h4 := hp
    refine ⟨(1, 11, 12), (by rw [h4]; rfl), ?_⟩
    show mz_G (d, mz_X0 L xs, some .int, [(1, 11, 12)], mk_190, 3, Q) 12 (mz_sf mk_190 12) [] [] false (mz_k S R ((cf_191_0 N b).2.2.1) ((cf_191_0 N b).2.2.2) (t + 1))
    rw [ms_190_12]
    refine g_iconst mzi_1 ?_
    exact g_iret rfl (hr _ _ _ _ hC)
theorem cs_190 (hd : 8 ≤ d) (hS : mz_extR S 343) (hR : mz_rok R 343)  (N : mz_N) (b : Bool) (t : Nat) (hp : cp_190_0 N b t) (hq : Q (.inl (some (.int ((cf_190_0 N b t).1)))) (mz_k S R ((cf_190_0 N b t).2.1) ((cf_190_0 N b t).2.2.1) ((cf_190_0 N b t).2.2.2))) : mz_Ed (mz_X0 L xs) d 190 [.ref 0, .ref 342] (mz_k S R N b t) Q :=
  by
  refine g_in mzq_190 (Nat.le_of_ble_eq_true rfl) (Nat.le_of_ble_eq_true rfl) (Nat.le_trans (Nat.le_of_ble_eq_true rfl) hd) ?_
  refine g_weak ?_ (cg_190_0 (d := d - 1) (by omega) hS hR N b t (C0 := fun z => Q (.inl (some (.int z.1))) (mz_k S R z.2.1 z.2.2.1 z.2.2.2)) (fun _ _ _ _ h => h) hp hq)
  exact ⟨rfl, rfl, trivial⟩
/-! 194 KeptHouse.fault (I)I -/
theorem ms_194_0 : mz_sf mk_194 0 = mk_194 := mz_sf_zero _
theorem ms_194_24 : mz_sf mk_194 24 = mt_194_24 := mz_sf_add ms_194_0 (t := 24) rfl rfl
theorem ms_194_31 : mz_sf mk_194 31 = mt_194_31 := mz_sf_add ms_194_24 (t := 7) rfl rfl
set_option maxRecDepth 100000 in
theorem mzq_194 : mz_PG0 194 = some (11, ⟨"KeptHouse", "fault", "(I)I"⟩, prog_1_method_29_code, 2, some .int, [], mk_194, []) := rfl
theorem cg_194_0 (hd : 1 ≤ d) (hS : mz_extR S 232) (hR : mz_rok R 232)  (v1 : Int32) (N : mz_N) {C0 : (Nat × Int32) → Prop} (hr : ∀ (w : Int32), C0 (0, w) → Q (.inl (some (.int w))) (mz_k S R N b t)) (ht : ∀ (c : Nat) (w : Int32), ¬ c = 0 → C0 (c, w) → Q (.inr (c - 1)) (mz_k S R N b (t + 1))) (h1000 : t < 1000) (hp : cp_194_0 v1 N) (hC : C0 (cf_194_0 v1 N)) : mz_G (d, mz_X0 L xs, some .int, [], mk_194, 2, Q) 0 mk_194 [(0, .ref 0), (1, .int v1)] [] true (mz_k S R N b t) := by
  unfold cf_194_0 at hC
  unfold cp_194_0 at hp
  refine g_aload_n rfl ?_
  obtain ⟨h1, hp⟩ := hp
  refine g_v1nt (Nat.le_of_ble_eq_true rfl) (mz_at hS (Nat.le_of_ble_eq_true rfl) mzcS_0) rfl (fun _ hz0 hz1 => cs_104 (Nat.le_trans (Nat.le_of_ble_eq_true rfl) hd) (hS.le (Nat.le_of_ble_eq_true rfl)) (hR.le (Nat.le_of_ble_eq_true rfl))  N h1 h1000 hz0 hz1) hC (fun h5 hC => ?_) (fun h5 hC => ?_)
  · have hp := hp.1 h5
    refine g_iload_n rfl (g_iconst mzi_0 (g_iconst mzi_1 ?_))
    have h2 := hp
    refine g_s3nt (Nat.le_of_ble_eq_true rfl) rfl (fun _ hz0 hz1 => cs_105 (Nat.le_trans (Nat.le_of_ble_eq_true rfl) hd) (hS.le (Nat.le_of_ble_eq_true rfl)) (hR.le (Nat.le_of_ble_eq_true rfl))  v1 0 1 h2 h1000 hz0 hz1) hC (fun h4 hC => ?_) (fun h4 hC => ?_)
    · refine g_iload_n rfl ?_
      refine g_ifne (tg := 24) rfl ms_194_24 hC (fun h3 hC => ?_) (fun h3 hC => ?_)
      · refine g_aload_n rfl (g_getR (mz_at hS (Nat.le_of_ble_eq_true rfl) mzcS_0) mzcf_11_2 (mz_rb hR (Nat.le_of_ble_eq_true rfl) rfl mzcR_0_2) (g_getI (mz_at hS (Nat.le_of_ble_eq_true rfl) mzcS_41) mzcf_6_4 (g_goto (tg := 31) rfl ms_194_31 ?_)))
        exact g_iret rfl (hr _ hC)
      · refine g_aload_n rfl (g_getR (mz_at hS (Nat.le_of_ble_eq_true rfl) mzcS_0) mzcf_11_2 (mz_rb hR (Nat.le_of_ble_eq_true rfl) rfl mzcR_0_2) (g_getI (mz_at hS (Nat.le_of_ble_eq_true rfl) mzcS_41) mzcf_6_5 ?_))
        exact g_iret rfl (hr _ hC)
    · exact ht _ _ h4 hC
  · have hp := hp.2 h5
    exact ht _ _ h5 hC
theorem cs_194 (hd : 2 ≤ d) (hS : mz_extR S 232) (hR : mz_rok R 232)  (v1 : Int32) (N : mz_N) (hp : cp_194_0 v1 N) (h1000 : t < 1000) (h0 : (cf_194_0 v1 N).1 = 0 → Q (.inl (some (.int ((cf_194_0 v1 N).2)))) (mz_k S R N b t)) (h1 : ¬ (cf_194_0 v1 N).1 = 0 → Q (.inr (((cf_194_0 v1 N).1) - 1)) (mz_k S R N b (t + 1))) : mz_Ed (mz_X0 L xs) d 194 [.ref 0, .int v1] (mz_k S R N b t) Q :=
  by
  refine g_in mzq_194 (Nat.le_of_ble_eq_true rfl) (Nat.le_of_ble_eq_true rfl) (Nat.le_trans (Nat.le_of_ble_eq_true rfl) hd) ?_
  refine g_weak ?_ (cg_194_0 (d := d - 1) (by omega) hS hR v1 N (C0 := fun z => (z.1 = 0 → Q (.inl (some (.int z.2))) (mz_k S R N b t)) ∧ (¬ z.1 = 0 → Q (.inr (z.1 - 1)) (mz_k S R N b (t + 1)))) (fun _ h => h.1 rfl) (fun c _ hc h => h.2 hc) h1000 hp ⟨h0, h1⟩)
  exact ⟨rfl, rfl, trivial⟩
/-! 193 KeptHouseLaw.fault (LKeptHouse;I[J)I -/
theorem ms_193_0 : mz_sf mk_193 0 = mk_193 := mz_sf_zero _
theorem ms_193_13 : mz_sf mk_193 13 = mt_193_13 := mz_sf_add ms_193_0 (t := 13) rfl rfl
theorem ms_193_16 : mz_sf mk_193 16 = mt_193_16 := mz_sf_add ms_193_13 (t := 3) rfl rfl
theorem ms_193_18 : mz_sf mk_193 18 = mt_193_18 := mz_sf_add ms_193_16 (t := 2) rfl rfl
set_option maxRecDepth 100000 in
theorem mzq_193 : mz_PG0 193 = some (13, ⟨"KeptHouseLaw", "fault", "(LKeptHouse;I[J)I"⟩, method_25_code, 4, some .int, [(0, 9, 12, 13), (0, 9, 15, 15)], mk_193, [(0, 12, 13), (1, 15, 16)]) := rfl
theorem cg_193_0 (hd : 2 ≤ d) (hS : mz_extR S 343) (hR : mz_rok R 343)  (v1 : Int32) (N : mz_N) (t : Nat) {C0 : (Int32 × mz_N × Nat) → Prop} (hr : ∀ (w : Int32) (N2 : mz_N) (t2 : Nat), C0 (w, N2, t2) → Q (.inl (some (.int w))) (mz_k S R N2 b t2)) (hp : cp_193_0 v1 N t) (hC : C0 (cf_193_0 v1 N t)) : mz_G (d, mz_X0 L xs, some .int, [(0, 12, 13), (1, 15, 16)], mk_193, 4, Q) 0 mk_193 [(0, .ref 0), (1, .int v1), (2, .ref 342)] [] true (mz_k S R N b t) := by
  unfold cf_193_0 at hC
  unfold cp_193_0 at hp
  refine g_aload_n rfl (g_iconst mzi_0 (g_aload_n rfl (g_iload_n rfl ?_)))
  obtain ⟨h1, hp⟩ := hp
  obtain ⟨h1000, hp⟩ := hp
  refine g_v2vh (Nat.le_of_ble_eq_true rfl) (mz_at hS (Nat.le_of_ble_eq_true rfl) mzcS_0) (fun _ hz0 hz1 => cs_194 (Nat.le_trans (Nat.le_of_ble_eq_true rfl) hd) (hS.le (Nat.le_of_ble_eq_true rfl)) (hR.le (Nat.le_of_ble_eq_true rfl))  v1 N h1 h1000 hz0 hz1) hC (fun h2 hC => ?_) (fun h2 hC => ?_)
  · have hp := hp.1 h2
    refine g_i2l (g_last (mz_at hS (Nat.le_of_ble_eq_true rfl) mzcS_342) (mz_ibd (by decide)) (g_goto (tg := 18) rfl ms_193_18 (g_iconst mzi_0 ?_)))
    exact g_iret rfl (hr _ _ _ hC)
  · have hp := hp.2 h2
    refine mz_cs hC (fun h6 hC => ?_) (fun h6 hC => ?_)
    · have hp := hp.1 h6
      refine ⟨(0, 12, 13), (by rw [h6]; rfl), ?_⟩
      show mz_G (d, mz_X0 L xs, some .int, [(0, 12, 13), (1, 15, 16)], mk_193, 4, Q) 13 (mz_sf mk_193 13) [] [] false (mz_k S R N b (t + 1))
      rw [ms_193_13]
      refine g_iconst mzi_1 ?_
      exact g_iret rfl (hr _ _ _ hC)
    · have hp := hp.2 h6
      have h4 := hp
      refine ⟨(1, 15, 16), (by rw [h4]; rfl), ?_⟩
      show mz_G (d, mz_X0 L xs, some .int, [(0, 12, 13), (1, 15, 16)], mk_193, 4, Q) 16 (mz_sf mk_193 16) [] [] false (mz_k S R N b (t + 1))
      rw [ms_193_16]
      refine g_iconst mzi_2 ?_
      exact g_iret rfl (hr _ _ _ hC)
theorem cs_193 (hd : 3 ≤ d) (hS : mz_extR S 343) (hR : mz_rok R 343)  (v1 : Int32) (N : mz_N) (t : Nat) (hp : cp_193_0 v1 N t) (hq : Q (.inl (some (.int ((cf_193_0 v1 N t).1)))) (mz_k S R ((cf_193_0 v1 N t).2.1) b ((cf_193_0 v1 N t).2.2))) : mz_Ed (mz_X0 L xs) d 193 [.ref 0, .int v1, .ref 342] (mz_k S R N b t) Q :=
  by
  refine g_in mzq_193 (Nat.le_of_ble_eq_true rfl) (Nat.le_of_ble_eq_true rfl) (Nat.le_trans (Nat.le_of_ble_eq_true rfl) hd) ?_
  refine g_weak ?_ (cg_193_0 (d := d - 1) (by omega) hS hR v1 N t (C0 := fun z => Q (.inl (some (.int z.1))) (mz_k S R z.2.1 b z.2.2)) (fun _ _ _ h => h) hp hq)
  exact ⟨rfl, rfl, rfl, trivial⟩
/-! 196 KeptHouse.target (I)I -/
theorem ms_196_0 : mz_sf mk_196 0 = mk_196 := mz_sf_zero _
set_option maxRecDepth 100000 in
theorem mzq_196 : mz_PG0 196 = some (11, ⟨"KeptHouse", "target", "(I)I"⟩, prog_1_method_30_code, 2, some .int, [], mk_196, []) := rfl
theorem cg_196_0 (hd : 1 ≤ d) (hS : mz_extR S 232) (hR : mz_rok R 232)  (v1 : Int32) (N : mz_N) {C0 : (Nat × Int32) → Prop} (hr : ∀ (w : Int32), C0 (0, w) → Q (.inl (some (.int w))) (mz_k S R N b t)) (ht : ∀ (c : Nat) (w : Int32), ¬ c = 0 → C0 (c, w) → Q (.inr (c - 1)) (mz_k S R N b (t + 1))) (h1000 : t < 1000) (hp : cp_196_0 v1 N) (hC : C0 (cf_196_0 v1 N)) : mz_G (d, mz_X0 L xs, some .int, [], mk_196, 2, Q) 0 mk_196 [(0, .ref 0), (1, .int v1)] [] true (mz_k S R N b t) := by
  unfold cf_196_0 at hC
  unfold cp_196_0 at hp
  refine g_aload_n rfl ?_
  obtain ⟨h1, hp⟩ := hp
  refine g_v1nt (Nat.le_of_ble_eq_true rfl) (mz_at hS (Nat.le_of_ble_eq_true rfl) mzcS_0) rfl (fun _ hz0 hz1 => cs_104 (Nat.le_trans (Nat.le_of_ble_eq_true rfl) hd) (hS.le (Nat.le_of_ble_eq_true rfl)) (hR.le (Nat.le_of_ble_eq_true rfl))  N h1 h1000 hz0 hz1) hC (fun h5 hC => ?_) (fun h5 hC => ?_)
  · have hp := hp.1 h5
    refine g_iload_n rfl (g_iconst mzi_0 (g_bipush mzb_15 ?_))
    obtain ⟨h2, hp⟩ := hp
    refine g_s3nt (Nat.le_of_ble_eq_true rfl) rfl (fun _ hz0 hz1 => cs_105 (Nat.le_trans (Nat.le_of_ble_eq_true rfl) hd) (hS.le (Nat.le_of_ble_eq_true rfl)) (hR.le (Nat.le_of_ble_eq_true rfl))  v1 0 15 h2 h1000 hz0 hz1) hC (fun h4 hC => ?_) (fun h4 hC => ?_)
    · have hp := hp.1 h4
      refine g_aload_n rfl (g_getR (mz_at hS (Nat.le_of_ble_eq_true rfl) mzcS_0) mzcf_11_10 (mz_rb hR (Nat.le_of_ble_eq_true rfl) rfl mzcR_0_10) (g_iload_n rfl ?_))
      have h3 := hp
      refine g_iald hS.1 (mz_at hS (Nat.le_of_ble_eq_true rfl) mzcS_53) h3 ?_
      exact g_iret rfl (hr _ hC)
    · have hp := hp.2 h4
      exact ht _ _ h4 hC
  · have hp := hp.2 h5
    exact ht _ _ h5 hC
theorem cs_196 (hd : 2 ≤ d) (hS : mz_extR S 232) (hR : mz_rok R 232)  (v1 : Int32) (N : mz_N) (hp : cp_196_0 v1 N) (h1000 : t < 1000) (h0 : (cf_196_0 v1 N).1 = 0 → Q (.inl (some (.int ((cf_196_0 v1 N).2)))) (mz_k S R N b t)) (h1 : ¬ (cf_196_0 v1 N).1 = 0 → Q (.inr (((cf_196_0 v1 N).1) - 1)) (mz_k S R N b (t + 1))) : mz_Ed (mz_X0 L xs) d 196 [.ref 0, .int v1] (mz_k S R N b t) Q :=
  by
  refine g_in mzq_196 (Nat.le_of_ble_eq_true rfl) (Nat.le_of_ble_eq_true rfl) (Nat.le_trans (Nat.le_of_ble_eq_true rfl) hd) ?_
  refine g_weak ?_ (cg_196_0 (d := d - 1) (by omega) hS hR v1 N (C0 := fun z => (z.1 = 0 → Q (.inl (some (.int z.2))) (mz_k S R N b t)) ∧ (¬ z.1 = 0 → Q (.inr (z.1 - 1)) (mz_k S R N b (t + 1)))) (fun _ h => h.1 rfl) (fun c _ hc h => h.2 hc) h1000 hp ⟨h0, h1⟩)
  exact ⟨rfl, rfl, trivial⟩
/-! 195 KeptHouseLaw.target (LKeptHouse;I[J)I -/
theorem ms_195_0 : mz_sf mk_195 0 = mk_195 := mz_sf_zero _
theorem ms_195_13 : mz_sf mk_195 13 = mt_195_13 := mz_sf_add ms_195_0 (t := 13) rfl rfl
theorem ms_195_16 : mz_sf mk_195 16 = mt_195_16 := mz_sf_add ms_195_13 (t := 3) rfl rfl
theorem ms_195_18 : mz_sf mk_195 18 = mt_195_18 := mz_sf_add ms_195_16 (t := 2) rfl rfl
set_option maxRecDepth 100000 in
theorem mzq_195 : mz_PG0 195 = some (13, ⟨"KeptHouseLaw", "target", "(LKeptHouse;I[J)I"⟩, method_26_code, 4, some .int, [(0, 9, 12, 13), (0, 9, 15, 15)], mk_195, [(0, 12, 13), (1, 15, 16)]) := rfl
theorem cg_195_0 (hd : 2 ≤ d) (hS : mz_extR S 343) (hR : mz_rok R 343)  (v1 : Int32) (N : mz_N) (t : Nat) {C0 : (Int32 × mz_N × Nat) → Prop} (hr : ∀ (w : Int32) (N2 : mz_N) (t2 : Nat), C0 (w, N2, t2) → Q (.inl (some (.int w))) (mz_k S R N2 b t2)) (hp : cp_195_0 v1 N t) (hC : C0 (cf_195_0 v1 N t)) : mz_G (d, mz_X0 L xs, some .int, [(0, 12, 13), (1, 15, 16)], mk_195, 4, Q) 0 mk_195 [(0, .ref 0), (1, .int v1), (2, .ref 342)] [] true (mz_k S R N b t) := by
  unfold cf_195_0 at hC
  unfold cp_195_0 at hp
  refine g_aload_n rfl (g_iconst mzi_0 (g_aload_n rfl (g_iload_n rfl ?_)))
  obtain ⟨h1, hp⟩ := hp
  obtain ⟨h1000, hp⟩ := hp
  refine g_v2vh (Nat.le_of_ble_eq_true rfl) (mz_at hS (Nat.le_of_ble_eq_true rfl) mzcS_0) (fun _ hz0 hz1 => cs_196 (Nat.le_trans (Nat.le_of_ble_eq_true rfl) hd) (hS.le (Nat.le_of_ble_eq_true rfl)) (hR.le (Nat.le_of_ble_eq_true rfl))  v1 N h1 h1000 hz0 hz1) hC (fun h2 hC => ?_) (fun h2 hC => ?_)
  · have hp := hp.1 h2
    refine g_i2l (g_last (mz_at hS (Nat.le_of_ble_eq_true rfl) mzcS_342) (mz_ibd (by decide)) (g_goto (tg := 18) rfl ms_195_18 (g_iconst mzi_0 ?_)))
    exact g_iret rfl (hr _ _ _ hC)
  · have hp := hp.2 h2
    refine mz_cs hC (fun h6 hC => ?_) (fun h6 hC => ?_)
    · have hp := hp.1 h6
      refine ⟨(0, 12, 13), (by rw [h6]; rfl), ?_⟩
      show mz_G (d, mz_X0 L xs, some .int, [(0, 12, 13), (1, 15, 16)], mk_195, 4, Q) 13 (mz_sf mk_195 13) [] [] false (mz_k S R N b (t + 1))
      rw [ms_195_13]
      refine g_iconst mzi_1 ?_
      exact g_iret rfl (hr _ _ _ hC)
    · have hp := hp.2 h6
      have h4 := hp
      refine ⟨(1, 15, 16), (by rw [h4]; rfl), ?_⟩
      show mz_G (d, mz_X0 L xs, some .int, [(0, 12, 13), (1, 15, 16)], mk_195, 4, Q) 16 (mz_sf mk_195 16) [] [] false (mz_k S R N b (t + 1))
      rw [ms_195_16]
      refine g_iconst mzi_2 ?_
      exact g_iret rfl (hr _ _ _ hC)
theorem cs_195 (hd : 3 ≤ d) (hS : mz_extR S 343) (hR : mz_rok R 343)  (v1 : Int32) (N : mz_N) (t : Nat) (hp : cp_195_0 v1 N t) (hq : Q (.inl (some (.int ((cf_195_0 v1 N t).1)))) (mz_k S R ((cf_195_0 v1 N t).2.1) b ((cf_195_0 v1 N t).2.2))) : mz_Ed (mz_X0 L xs) d 195 [.ref 0, .int v1, .ref 342] (mz_k S R N b t) Q :=
  by
  refine g_in mzq_195 (Nat.le_of_ble_eq_true rfl) (Nat.le_of_ble_eq_true rfl) (Nat.le_trans (Nat.le_of_ble_eq_true rfl) hd) ?_
  refine g_weak ?_ (cg_195_0 (d := d - 1) (by omega) hS hR v1 N t (C0 := fun z => Q (.inl (some (.int z.1))) (mz_k S R z.2.1 b z.2.2)) (fun _ _ _ h => h) hp hq)
  exact ⟨rfl, rfl, rfl, trivial⟩
/-! 200 KeptHouse$Books.hourNow ()I -/
theorem ms_200_0 : mz_sf mk_200 0 = mk_200 := mz_sf_zero _
set_option maxRecDepth 100000 in
theorem mzq_200 : mz_PG0 200 = some (1, ⟨"KeptHouse$Books", "hourNow", "()I"⟩, prog_3_method_5_code, 1, some .int, [], mk_200, []) := rfl
theorem cg_200_0 (hd : 0 ≤ d) (hS : mz_extR S 232) (hR : mz_rok R 232)  (N : mz_N) {C0 : (Int32) → Prop} (hr : ∀ (w : Int32), C0 w → Q (.inl (some (.int w))) (mz_k S R N b t)) (hp : cp_200_0 N) (hC : C0 (cf_200_0 N)) : mz_G (d, mz_X0 L xs, some .int, [], mk_200, 1, Q) 0 mk_200 [(0, .ref 208)] [] true (mz_k S R N b t) := by
  unfold cf_200_0 at hC
  unfold cp_200_0 at hp
  refine g_aload_n rfl (g_getI (mz_at hS (Nat.le_of_ble_eq_true rfl) mzcS_208) mzcf_1_0 (g_bipush mzb_10 (g_idiv (by decide) (g_bipush mzb_24 (g_irem (by decide) ?_)))))
  exact g_iret rfl (hr _ hC)
theorem cs_200 (hd : 1 ≤ d) (hS : mz_extR S 232) (hR : mz_rok R 232)  (N : mz_N) (hp : cp_200_0 N) (hq : Q (.inl (some (.int (cf_200_0 N)))) (mz_k S R N b t)) : mz_Ed (mz_X0 L xs) d 200 [.ref 208] (mz_k S R N b t) Q :=
  by
  refine g_in mzq_200 (Nat.le_of_ble_eq_true rfl) (Nat.le_of_ble_eq_true rfl) (Nat.le_trans (Nat.le_of_ble_eq_true rfl) hd) ?_
  refine g_weak ?_ (cg_200_0 (d := d - 1) (by omega) hS hR N (C0 := fun z => Q (.inl (some (.int z))) (mz_k S R N b t)) (fun _ h => h) hp hq)
  exact ⟨rfl, trivial⟩
/-! 202 KeptHouse$Care.orderIsDue (I)Z -/
theorem ms_202_0 : mz_sf mk_202 0 = mk_202 := mz_sf_zero _
theorem ms_202_23 : mz_sf mk_202 23 = mt_202_23 := mz_sf_add ms_202_0 (t := 23) rfl rfl
theorem ms_202_24 : mz_sf mk_202 24 = mt_202_24 := mz_sf_add ms_202_23 (t := 1) rfl rfl
set_option maxRecDepth 100000 in
theorem mzq_202 : mz_PG0 202 = some (2, ⟨"KeptHouse$Care", "orderIsDue", "(I)Z"⟩, prog_4_method_23_code, 2, some .boolean, [], mk_202, []) := rfl
theorem cg_202_0 (hd : 0 ≤ d) (hS : mz_extR S 232) (hR : mz_rok R 232)  (v1 : Int32) (N : mz_N) {C0 : (Bool) → Prop} (hr : ∀ (w : Bool), C0 w → Q (.inl (some (.int (mz_b01 w)))) (mz_k S R N b t)) (hp : cp_202_0 v1 N) (hC : C0 (cf_202_0 v1 N)) : mz_G (d, mz_X0 L xs, some .boolean, [], mk_202, 2, Q) 0 mk_202 [(0, .ref 115), (1, .int v1)] [] true (mz_k S R N b t) := by
  unfold cf_202_0 at hC
  unfold cp_202_0 at hp
  refine g_aload_n rfl (g_getI (mz_at hS (Nat.le_of_ble_eq_true rfl) mzcS_115) mzcf_2_5 ?_)
  refine g_ifle (tg := 23) rfl ms_202_23 hC (fun h1 hC => ?_) (fun h1 hC => ?_)
  · refine g_aload_n rfl (g_getR (mz_at hS (Nat.le_of_ble_eq_true rfl) mzcS_115) mzcf_2_4 (mz_rb hR (Nat.le_of_ble_eq_true rfl) rfl mzcR_115_4) (g_iconst mzi_2 (g_aald4 (m := 132) (mz_at hS (Nat.le_of_ble_eq_true rfl) mzcS_129) (mz_ibd (by decide)) (mz_rb hR (Nat.le_of_ble_eq_true rfl) rfl mzcRr_129_2) (g_iconst mzi_0 (g_iald hS.1 (mz_at hS (Nat.le_of_ble_eq_true rfl) mzcS_132) (mz_ibd (by decide)) (g_iload_n rfl ?_))))))
    refine g_icne (tg := 23) rfl ms_202_23 hC (fun h2 hC => ?_) (fun h2 hC => ?_)
    · refine g_iconst mzi_1 (g_goto (tg := 24) rfl ms_202_24 ?_)
      exact g_zret (z := true) rfl (hr _ hC)
    · refine g_iconst mzi_0 ?_
      exact g_zret (z := false) rfl (hr _ hC)
  · refine g_iconst mzi_0 ?_
    exact g_zret (z := false) rfl (hr _ hC)
theorem cs_202 (hd : 1 ≤ d) (hS : mz_extR S 232) (hR : mz_rok R 232)  (v1 : Int32) (N : mz_N) (hp : cp_202_0 v1 N) (hq : Q (.inl (some (.int (mz_b01 (cf_202_0 v1 N))))) (mz_k S R N b t)) : mz_Ed (mz_X0 L xs) d 202 [.ref 115, .int v1] (mz_k S R N b t) Q :=
  by
  refine g_in mzq_202 (Nat.le_of_ble_eq_true rfl) (Nat.le_of_ble_eq_true rfl) (Nat.le_trans (Nat.le_of_ble_eq_true rfl) hd) ?_
  refine g_weak ?_ (cg_202_0 (d := d - 1) (by omega) hS hR v1 N (C0 := fun z => Q (.inl (some (.int (mz_b01 z)))) (mz_k S R N b t)) (fun _ h => h) hp hq)
  exact ⟨rfl, rfl, trivial⟩
/-! 203 KeptHouse$Care.receiveOrder (LKeptHouse$Books;)I -/
theorem ms_203_0 : mz_sf mk_203 0 = mk_203 := mz_sf_zero _
theorem ms_203_18 : mz_sf mk_203 18 = mt_203_18 := mz_sf_add ms_203_0 (t := 18) rfl rfl
theorem ms_203_41 : mz_sf mk_203 41 = mt_203_41 := mz_sf_add ms_203_18 (t := 23) rfl rfl
theorem ms_203_65 : mz_sf mk_203 65 = mt_203_65 := mz_sf_add ms_203_41 (t := 24) rfl rfl
theorem ms_203_68 : mz_sf mk_203 68 = mt_203_68 := mz_sf_add ms_203_65 (t := 3) rfl rfl
theorem ms_203_97 : mz_sf mk_203 97 = mt_203_97 := mz_sf_add ms_203_68 (t := 29) rfl rfl
theorem ms_203_103 : mz_sf mk_203 103 = mt_203_103 := mz_sf_add ms_203_97 (t := 6) rfl rfl
set_option maxRecDepth 100000 in
theorem mzq_203 : mz_PG0 203 = some (2, ⟨"KeptHouse$Care", "receiveOrder", "(LKeptHouse$Books;)I"⟩, prog_4_method_24_code, 5, some .int, [], mk_203, []) := rfl
theorem cg_203_97 (hd : 0 ≤ d) (hS : mz_extR S 232) (hR : mz_rok R 232)  (v2 : Int32) (v4 : Int32) (N : mz_N) {C0 : (Int32 × mz_N) → Prop} (hr : ∀ (w : Int32) (N2 : mz_N), C0 (w, N2) → Q (.inl (some (.int w))) (mz_k S R N2 b t)) {C1 : ((Int32 × mz_N) ⊕ (Int32 × mz_N)) → Prop} (hc1 : ∀ s2, C1 (.inl s2) → mz_G (d, mz_X0 L xs, some .int, [], mk_203, 5, Q) 68 mt_203_68 [(0, .ref 115), (2, .int v2), (4, .int s2.1)] [] false (mz_k S R s2.2 b t)) (hx1 : ∀ z, C1 (.inr z) → C0 z) (hp : cp_203_97 v2 v4 N) (hC : C1 (cf_203_97 v2 v4 N)) : mz_G (d, mz_X0 L xs, some .int, [], mk_203, 5, Q) 97 mt_203_97 [(0, .ref 115), (2, .int v2), (4, .int v4)] [] false (mz_k S R N b t) := by
  unfold cf_203_97 at hC
  unfold cp_203_97 at hp
  refine g_iinc rfl mzi_1 (Nat.le_of_ble_eq_true rfl) rfl (g_goto (tg := 68) rfl ms_203_68 ?_)
  refine g_weak ?_ (g_cl (hc1 ((v4 + 1), N) hC))
  exact ⟨rfl, rfl, rfl, trivial⟩
theorem cb_203_68 (hd : 0 ≤ d) (hS : mz_extR S 232) (hR : mz_rok R 232)  (v2 : Int32) (s : Int32 × mz_N) {C0 : (Int32 × mz_N) → Prop} (hr : ∀ (w : Int32) (N2 : mz_N), C0 (w, N2) → Q (.inl (some (.int w))) (mz_k S R N2 b t)) {C1 : ((Int32 × mz_N) ⊕ (Int32 × mz_N)) → Prop} (hc1 : ∀ s2, C1 (.inl s2) → mz_G (d, mz_X0 L xs, some .int, [], mk_203, 5, Q) 68 mt_203_68 [(0, .ref 115), (2, .int v2), (4, .int s2.1)] [] false (mz_k S R s2.2 b t)) (hx1 : ∀ z, C1 (.inr z) → C0 z) (hp : cd_203_68 v2 s) (hC : C1 (cq_203_68 v2 s)) : mz_G (d, mz_X0 L xs, some .int, [], mk_203, 5, Q) 68 mt_203_68 [(0, .ref 115), (2, .int v2), (4, .int s.1)] [] false (mz_k S R s.2 b t) := by
  unfold cq_203_68 at hC
  unfold cd_203_68 at hp
  refine g_iload rfl (g_iconst mzi_3 ?_)
  refine g_icge (tg := 103) rfl ms_203_103 hC (fun h1 hC => ?_) (fun h1 hC => ?_)
  · have hp := hp.1 h1
    refine g_aload_n rfl (g_getR (mz_at hS (Nat.le_of_ble_eq_true rfl) mzcS_115) mzcf_2_4 (mz_rb hR (Nat.le_of_ble_eq_true rfl) rfl mzcR_115_4) (g_iload rfl ?_))
    obtain ⟨h2, hp⟩ := hp
    refine g_aald4 (mz_at hS (Nat.le_of_ble_eq_true rfl) mzcS_129) h2 (mz_rb hR (Nat.le_of_ble_eq_true rfl) rfl (mzcR2_129 h2)) (g_iconst mzi_1 (g_aload_n rfl (g_getR (mz_at hS (Nat.le_of_ble_eq_true rfl) mzcS_115) mzcf_2_4 (mz_rb hR (Nat.le_of_ble_eq_true rfl) rfl mzcR_115_4) (g_iload rfl ?_))))
    obtain ⟨h3, hp⟩ := hp
    refine g_aald4 (mz_at hS (Nat.le_of_ble_eq_true rfl) mzcS_129) h3 (mz_rb hR (Nat.le_of_ble_eq_true rfl) rfl (mzcR2_129 h3)) (g_iconst mzi_0 (g_aload_n rfl (g_getI (mz_at hS (Nat.le_of_ble_eq_true rfl) mzcS_115) mzcf_2_5 ?_)))
    obtain ⟨h4, hp⟩ := hp
    refine g_cpI (Nat.le_of_ble_eq_true rfl) (mz_at hS (mzcL2_129 h2 (Nat.le_of_ble_eq_true rfl)) (mzcS2_129 h2)) (mz_at hS (mzcL2_129 h3 (Nat.le_of_ble_eq_true rfl)) (mzcS2_129 h3)) h4 ?_
    refine g_weak ?_ (g_cl (cg_203_97 hd hS hR v2 s.1 (mz_yI s.2 (130 + s.1.toNatClampNeg) 1 (130 + s.1.toNatClampNeg) 0 (s.2.1 115 5)) hr hc1 hx1 hp hC))
    exact ⟨rfl, rfl, rfl, trivial⟩
  · have hp := hp.2 h1
    refine g_iload_n rfl ?_
    exact g_iret rfl (hr _ _ (hx1 _ hC))
theorem cg_203_68 (hd : 0 ≤ d) (hS : mz_extR S 232) (hR : mz_rok R 232)  (v2 : Int32) (v4 : Int32) (N : mz_N) {C0 : (Int32 × mz_N) → Prop} (hr : ∀ (w : Int32) (N2 : mz_N), C0 (w, N2) → Q (.inl (some (.int w))) (mz_k S R N2 b t)) (hp : cp_203_68 v2 v4 N) (hC : C0 (cf_203_68 v2 v4 N)) : mz_G (d, mz_X0 L xs, some .int, [], mk_203, 5, Q) 68 mt_203_68 [(0, .ref 115), (2, .int v2), (4, .int v4)] [] false (mz_k S R N b t) := by
  obtain ⟨n, hn⟩ := hp
  exact g_loop (G := fun s => mz_G (d, mz_X0 L xs, some .int, [], mk_203, 5, Q) 68 mt_203_68 [(0, .ref 115), (2, .int v2), (4, .int s.1)] [] false (mz_k S R s.2 b t)) (C := C0) (fun C2 hc hx s hP hC => cb_203_68 hd hS hR v2 s hr hc hx hP hC) n (v4, N) hn hC
theorem cg_203_65 (hd : 0 ≤ d) (hS : mz_extR S 232) (hR : mz_rok R 232)  (v2 : Int32) (N : mz_N) {C0 : (Int32 × mz_N) → Prop} (hr : ∀ (w : Int32) (N2 : mz_N), C0 (w, N2) → Q (.inl (some (.int w))) (mz_k S R N2 b t)) (hp : cp_203_65 v2 N) (hC : C0 (cf_203_65 v2 N)) : mz_G (d, mz_X0 L xs, some .int, [], mk_203, 5, Q) 65 mt_203_65 [(0, .ref 115), (2, .int v2)] [] false (mz_k S R N b t) := by
  unfold cf_203_65 at hC
  unfold cp_203_65 at hp
  refine g_iconst mzi_0 (g_istore (Nat.le_of_ble_eq_true rfl) rfl ?_)
  refine g_weak ?_ (g_cl (cg_203_68 hd hS hR v2 0 N hr hp hC))
  exact ⟨rfl, rfl, rfl, trivial⟩
theorem cg_203_41 (hd : 0 ≤ d) (hS : mz_extR S 232) (hR : mz_rok R 232)  (v2 : Int32) (v3 : Int32) (N : mz_N) {C0 : (Int32 × mz_N) → Prop} (hr : ∀ (w : Int32) (N2 : mz_N), C0 (w, N2) → Q (.inl (some (.int w))) (mz_k S R N2 b t)) (hp : cp_203_41 v2 v3 N) (hC : C0 (cf_203_41 v2 v3 N)) : mz_G (d, mz_X0 L xs, some .int, [], mk_203, 5, Q) 41 mt_203_41 [(0, .ref 115), (1, .ref 208), (2, .int v2), (3, .int v3)] [] false (mz_k S R N b t) := by
  unfold cf_203_41 at hC
  unfold cp_203_41 at hp
  refine g_aload_n rfl (g_dup rfl (g_getI (mz_at hS (Nat.le_of_ble_eq_true rfl) mzcS_208) mzcf_1_4 (g_sipush mzs_3000 (g_iload_n rfl (g_imul (g_iadd (g_putI (mz_at hS (Nat.le_of_ble_eq_true rfl) mzcS_208) mzcf_1_4 ?_)))))))
  refine g_aload_n rfl (g_dup rfl (g_getI (mz_at hS (Nat.le_of_ble_eq_true rfl) mzcS_115) mzcf_2_5 (g_iconst mzi_1 (g_isub (g_putI (mz_at hS (Nat.le_of_ble_eq_true rfl) mzcS_115) mzcf_2_5 ?_)))))
  refine g_weak ?_ (g_cl (cg_203_65 hd hS hR v2 (mz_pI (mz_pI N 208 4 ((N.1 208 4) + (3000 * v3))) 115 5 (((mz_pI N 208 4 ((N.1 208 4) + (3000 * v3))).1 115 5) - 1)) hr hp hC))
  exact ⟨rfl, rfl, trivial⟩
theorem cg_203_0 (hd : 0 ≤ d) (hS : mz_extR S 232) (hR : mz_rok R 232)  (N : mz_N) {C0 : (Int32 × mz_N) → Prop} (hr : ∀ (w : Int32) (N2 : mz_N), C0 (w, N2) → Q (.inl (some (.int w))) (mz_k S R N2 b t)) (hp : cp_203_0 N) (hC : C0 (cf_203_0 N)) : mz_G (d, mz_X0 L xs, some .int, [], mk_203, 5, Q) 0 mk_203 [(0, .ref 115), (1, .ref 208)] [] true (mz_k S R N b t) := by
  unfold cf_203_0 at hC
  unfold cp_203_0 at hp
  refine g_aload_n rfl (g_getR (mz_at hS (Nat.le_of_ble_eq_true rfl) mzcS_115) mzcf_2_4 (mz_rb hR (Nat.le_of_ble_eq_true rfl) rfl mzcR_115_4) (g_iconst mzi_0 (g_aald4 (m := 130) (mz_at hS (Nat.le_of_ble_eq_true rfl) mzcS_129) (mz_ibd (by decide)) (mz_rb hR (Nat.le_of_ble_eq_true rfl) rfl mzcRr_129_0) (g_iconst mzi_0 (g_iald hS.1 (mz_at hS (Nat.le_of_ble_eq_true rfl) mzcS_130) (mz_ibd (by decide)) (g_istore_n (Nat.le_of_ble_eq_true rfl) rfl (g_aload_n rfl ?_)))))))
  refine g_getR (mz_at hS (Nat.le_of_ble_eq_true rfl) mzcS_115) mzcf_2_4 (mz_rb hR (Nat.le_of_ble_eq_true rfl) rfl mzcR_115_4) (g_iconst mzi_1 (g_aald4 (m := 131) (mz_at hS (Nat.le_of_ble_eq_true rfl) mzcS_129) (mz_ibd (by decide)) (mz_rb hR (Nat.le_of_ble_eq_true rfl) rfl mzcRr_129_1) (g_iconst mzi_0 (g_iald hS.1 (mz_at hS (Nat.le_of_ble_eq_true rfl) mzcS_131) (mz_ibd (by decide)) (g_istore_n (Nat.le_of_ble_eq_true rfl) rfl (g_aload_n rfl (g_getR (mz_at hS (Nat.le_of_ble_eq_true rfl) mzcS_115) mzcf_2_3 (mz_rb hR (Nat.le_of_ble_eq_true rfl) rfl mzcR_115_3) ?_)))))))
  refine g_iconst mzi_2 (g_aald4 (m := 127) (mz_at hS (Nat.le_of_ble_eq_true rfl) mzcS_124) (mz_ibd (by decide)) (mz_rb hR (Nat.le_of_ble_eq_true rfl) rfl mzcRr_124_2) (g_iload_n rfl (g_bipush mzb_99 (g_aload_n rfl (g_getR (mz_at hS (Nat.le_of_ble_eq_true rfl) mzcS_115) mzcf_2_3 (mz_rb hR (Nat.le_of_ble_eq_true rfl) rfl mzcR_115_3) (g_iconst mzi_2 (g_aald4 (m := 127) (mz_at hS (Nat.le_of_ble_eq_true rfl) mzcS_124) (mz_ibd (by decide)) (mz_rb hR (Nat.le_of_ble_eq_true rfl) rfl mzcRr_124_2) ?_)))))))
  refine g_iload_n rfl ?_
  obtain ⟨h1, hp⟩ := hp
  refine g_iald hS.1 (mz_at hS (Nat.le_of_ble_eq_true rfl) mzcS_127) h1 (g_iload_n rfl (g_iadd (g_imin (Nat.le_of_ble_eq_true rfl) ?_)))
  obtain ⟨h2, hp⟩ := hp
  refine g_iast (mz_at hS (Nat.le_of_ble_eq_true rfl) mzcS_127) h2 ?_
  refine g_weak ?_ (g_cl (cg_203_41 hd hS hR (mz_gI N 130 0) (mz_gI N 131 0) (mz_wI N 127 (mz_gI N 130 0) (mz_imin 99 ((mz_gI N 127 (mz_gI N 130 0)) + (mz_gI N 131 0)))) hr hp hC))
  exact ⟨rfl, rfl, rfl, rfl, trivial⟩
theorem cs_203 (hd : 1 ≤ d) (hS : mz_extR S 232) (hR : mz_rok R 232)  (N : mz_N) (hp : cp_203_0 N) (hq : Q (.inl (some (.int ((cf_203_0 N).1)))) (mz_k S R ((cf_203_0 N).2) b t)) : mz_Ed (mz_X0 L xs) d 203 [.ref 115, .ref 208] (mz_k S R N b t) Q :=
  by
  refine g_in mzq_203 (Nat.le_of_ble_eq_true rfl) (Nat.le_of_ble_eq_true rfl) (Nat.le_trans (Nat.le_of_ble_eq_true rfl) hd) ?_
  refine g_weak ?_ (cg_203_0 (d := d - 1) (by omega) hS hR N (C0 := fun z => Q (.inl (some (.int z.1))) (mz_k S R z.2 b t)) (fun _ _ h => h) hp hq)
  exact ⟨rfl, rfl, trivial⟩
/-! 204 KeptHouse$Care.visitedAt (II)I -/
theorem ms_204_0 : mz_sf mk_204 0 = mk_204 := mz_sf_zero _
theorem ms_204_29 : mz_sf mk_204 29 = mt_204_29 := mz_sf_add ms_204_0 (t := 29) rfl rfl
theorem ms_204_31 : mz_sf mk_204 31 = mt_204_31 := mz_sf_add ms_204_29 (t := 2) rfl rfl
set_option maxRecDepth 100000 in
theorem mzq_204 : mz_PG0 204 = some (2, ⟨"KeptHouse$Care", "visitedAt", "(II)I"⟩, prog_4_method_19_code, 4, some .int, [], mk_204, []) := rfl
theorem cg_204_0 (hd : 0 ≤ d) (hS : mz_extR S 232) (hR : mz_rok R 232)  (v1 : Int32) (v2 : Int32) (N : mz_N) {C0 : (Int32) → Prop} (hr : ∀ (w : Int32), C0 w → Q (.inl (some (.int w))) (mz_k S R N b t)) (hp : cp_204_0 v1 v2 N) (hC : C0 (cf_204_0 v1 v2 N)) : mz_G (d, mz_X0 L xs, some .int, [], mk_204, 4, Q) 0 mk_204 [(0, .ref 115), (1, .int v1), (2, .int v2)] [] true (mz_k S R N b t) := by
  unfold cf_204_0 at hC
  unfold cp_204_0 at hp
  refine g_aload_n rfl (g_getR (mz_at hS (Nat.le_of_ble_eq_true rfl) mzcS_115) mzcf_2_7 (mz_rb hR (Nat.le_of_ble_eq_true rfl) rfl mzcR_115_7) (g_iload_n rfl ?_))
  obtain ⟨h1, hp⟩ := hp
  refine g_iald hS.1 (mz_at hS (Nat.le_of_ble_eq_true rfl) mzcS_134) h1 (g_istore_n (Nat.le_of_ble_eq_true rfl) rfl (g_iload_n rfl (g_aload_n rfl (g_getR (mz_at hS (Nat.le_of_ble_eq_true rfl) mzcS_115) mzcf_2_6 (mz_rb hR (Nat.le_of_ble_eq_true rfl) rfl mzcR_115_6) (g_iload_n rfl ?_)))))
  obtain ⟨h2, hp⟩ := hp
  refine g_iald hS.1 (mz_at hS (Nat.le_of_ble_eq_true rfl) mzcS_133) h2 ?_
  refine g_icge (tg := 29) rfl ms_204_29 hC (fun h3 hC => ?_) (fun h3 hC => ?_)
  · have hp := hp.1 h3
    refine g_aload_n rfl (g_getR (mz_at hS (Nat.le_of_ble_eq_true rfl) mzcS_115) mzcf_2_9 (mz_rb hR (Nat.le_of_ble_eq_true rfl) rfl mzcR_115_9) (g_iload_n rfl ?_))
    obtain ⟨h4, hp⟩ := hp
    refine g_aald4 (mz_at hS (Nat.le_of_ble_eq_true rfl) mzcS_138) h4 (mz_rb hR (Nat.le_of_ble_eq_true rfl) rfl (mzcR2_138 h4)) (g_iload_n rfl ?_)
    obtain ⟨h5, hp⟩ := hp
    refine g_iald hS.1 (mz_at hS (mzcL2_138 h4 (Nat.le_of_ble_eq_true rfl)) (mzcS2_138 h4)) h5 (g_iload_n rfl ?_)
    refine g_iceq (tg := 31) rfl ms_204_31 hC (fun h6 hC => ?_) (fun h6 hC => ?_)
    · have hp := hp.1 h6
      refine g_aload_n rfl (g_getR (mz_at hS (Nat.le_of_ble_eq_true rfl) mzcS_115) mzcf_2_8 (mz_rb hR (Nat.le_of_ble_eq_true rfl) rfl mzcR_115_8) (g_iload_n rfl ?_))
      obtain ⟨h7, hp⟩ := hp
      refine g_aald4 (mz_at hS (Nat.le_of_ble_eq_true rfl) mzcS_135) h7 (mz_rb hR (Nat.le_of_ble_eq_true rfl) rfl (mzcR2_135 h7)) (g_iload_n rfl ?_)
      have h8 := hp
      refine g_iald hS.1 (mz_at hS (mzcL2_135 h7 (Nat.le_of_ble_eq_true rfl)) (mzcS2_135 h7)) h8 ?_
      exact g_iret rfl (hr _ hC)
    · have hp := hp.2 h6
      refine g_iconst mzi_m1 ?_
      exact g_iret rfl (hr _ hC)
  · have hp := hp.2 h3
    refine g_iconst mzi_m1 ?_
    exact g_iret rfl (hr _ hC)
theorem cs_204 (hd : 1 ≤ d) (hS : mz_extR S 232) (hR : mz_rok R 232)  (v1 : Int32) (v2 : Int32) (N : mz_N) (hp : cp_204_0 v1 v2 N) (hq : Q (.inl (some (.int (cf_204_0 v1 v2 N)))) (mz_k S R N b t)) : mz_Ed (mz_X0 L xs) d 204 [.ref 115, .int v1, .int v2] (mz_k S R N b t) Q :=
  by
  refine g_in mzq_204 (Nat.le_of_ble_eq_true rfl) (Nat.le_of_ble_eq_true rfl) (Nat.le_trans (Nat.le_of_ble_eq_true rfl) hd) ?_
  refine g_weak ?_ (cg_204_0 (d := d - 1) (by omega) hS hR v1 v2 N (C0 := fun z => Q (.inl (some (.int z))) (mz_k S R N b t)) (fun _ h => h) hp hq)
  exact ⟨rfl, rfl, rfl, trivial⟩
/-! 206 KeptHouse$Care.finish (IILKeptHouse$Books;)V -/
theorem ms_206_0 : mz_sf mk_206 0 = mk_206 := mz_sf_zero _
theorem ms_206_17 : mz_sf mk_206 17 = mt_206_17 := mz_sf_add ms_206_0 (t := 17) rfl rfl
theorem ms_206_39 : mz_sf mk_206 39 = mt_206_39 := mz_sf_add ms_206_17 (t := 22) rfl rfl
theorem ms_206_58 : mz_sf mk_206 58 = mt_206_58 := mz_sf_add ms_206_39 (t := 19) rfl rfl
theorem ms_206_78 : mz_sf mk_206 78 = mt_206_78 := mz_sf_add ms_206_58 (t := 20) rfl rfl
set_option maxRecDepth 100000 in
theorem mzq_206 : mz_PG0 206 = some (2, ⟨"KeptHouse$Care", "finish", "(IILKeptHouse$Books;)V"⟩, prog_4_method_20_code, 5, none, [], mk_206, []) := rfl
theorem cg_206_78 (hd : 0 ≤ d) (hS : mz_extR S 232) (hR : mz_rok R 232)  (N : mz_N) {C0 : (mz_N) → Prop} (hr : ∀ (N2 : mz_N), C0 N2 → Q (.inl none) (mz_k S R N2 b t)) (hp : cp_206_78 N) (hC : C0 (cf_206_78 N)) : mz_G (d, mz_X0 L xs, none, [], mk_206, 5, Q) 78 mt_206_78 [] [] false (mz_k S R N b t) := by
  unfold cf_206_78 at hC
  unfold cp_206_78 at hp
  exact g_vret rfl (hr _ hC)
theorem cg_206_39 (hd : 0 ≤ d) (hS : mz_extR S 232) (hR : mz_rok R 232)  (v4 : Int32) (N : mz_N) {C0 : (mz_N) → Prop} (hr : ∀ (N2 : mz_N), C0 N2 → Q (.inl none) (mz_k S R N2 b t)) (hp : cp_206_39 v4 N) (hC : C0 (cf_206_39 v4 N)) : mz_G (d, mz_X0 L xs, none, [], mk_206, 5, Q) 39 mt_206_39 [(0, .ref 115), (4, .int v4)] [] false (mz_k S R N b t) := by
  unfold cf_206_39 at hC
  unfold cp_206_39 at hp
  refine g_iload rfl (g_iconst mzi_3 ?_)
  refine g_icge (tg := 78) rfl ms_206_78 hC (fun h1 hC => ?_) (fun h1 hC => ?_)
  · have hp := hp.1 h1
    refine g_aload_n rfl (g_getR (mz_at hS (Nat.le_of_ble_eq_true rfl) mzcS_115) mzcf_2_3 (mz_rb hR (Nat.le_of_ble_eq_true rfl) rfl mzcR_115_3) (g_iconst mzi_2 (g_aald4 (m := 127) (mz_at hS (Nat.le_of_ble_eq_true rfl) mzcS_124) (mz_ibd (by decide)) (mz_rb hR (Nat.le_of_ble_eq_true rfl) rfl mzcRr_124_2) (g_iload rfl (g_dup2 rfl rfl ?_)))))
    obtain ⟨h2, hp⟩ := hp
    refine g_iald hS.1 (mz_at hS (Nat.le_of_ble_eq_true rfl) mzcS_127) h2 (g_iconst mzi_1 (g_isub ?_))
    obtain ⟨h3, hp⟩ := hp
    refine g_iast (mz_at hS (Nat.le_of_ble_eq_true rfl) mzcS_127) h3 (g_aload_n rfl (g_getR (mz_at hS (Nat.le_of_ble_eq_true rfl) mzcS_115) mzcf_2_3 (mz_rb hR (Nat.le_of_ble_eq_true rfl) rfl mzcR_115_3) (g_iconst mzi_1 (g_aald4 (m := 126) (mz_at hS (Nat.le_of_ble_eq_true rfl) mzcS_124) (mz_ibd (by decide)) (mz_rb hR (Nat.le_of_ble_eq_true rfl) rfl mzcRr_124_1) (g_iload rfl (g_iconst mzi_0 ?_))))))
    obtain ⟨h4, hp⟩ := hp
    refine g_iast (mz_at hS (Nat.le_of_ble_eq_true rfl) mzcS_126) h4 (g_aload_n rfl (g_getR (mz_at hS (Nat.le_of_ble_eq_true rfl) mzcS_115) mzcf_2_3 (mz_rb hR (Nat.le_of_ble_eq_true rfl) rfl mzcR_115_3) (g_iconst mzi_3 (g_aald4 (m := 128) (mz_at hS (Nat.le_of_ble_eq_true rfl) mzcS_124) (mz_ibd (by decide)) (mz_rb hR (Nat.le_of_ble_eq_true rfl) rfl mzcRr_124_3) (g_iload rfl (g_iconst mzi_0 ?_))))))
    obtain ⟨h5, hp⟩ := hp
    refine g_iast (mz_at hS (Nat.le_of_ble_eq_true rfl) mzcS_128) h5 ?_
    refine g_weak ?_ (g_cl (cg_206_78 hd hS hR (mz_wI (mz_wI (mz_wI N 127 v4 ((mz_gI N 127 v4) - 1)) 126 v4 0) 128 v4 0) hr hp hC))
    exact trivial
  · have hp := hp.2 h1
    refine g_weak ?_ (g_cl (cg_206_78 hd hS hR N hr hp hC))
    exact trivial
theorem cg_206_0 (hd : 0 ≤ d) (hS : mz_extR S 232) (hR : mz_rok R 232)  (v1 : Int32) (v2 : Int32) (N : mz_N) {C0 : (mz_N) → Prop} (hr : ∀ (N2 : mz_N), C0 N2 → Q (.inl none) (mz_k S R N2 b t)) (hp : cp_206_0 v1 v2 N) (hC : C0 (cf_206_0 v1 v2 N)) : mz_G (d, mz_X0 L xs, none, [], mk_206, 5, Q) 0 mk_206 [(0, .ref 115), (1, .int v1), (2, .int v2), (3, .ref 208)] [] true (mz_k S R N b t) := by
  unfold cf_206_0 at hC
  unfold cp_206_0 at hp
  refine g_aload_n rfl (g_getR (mz_at hS (Nat.le_of_ble_eq_true rfl) mzcS_115) mzcf_2_7 (mz_rb hR (Nat.le_of_ble_eq_true rfl) rfl mzcR_115_7) (g_iload_n rfl (g_dup2 rfl rfl ?_)))
  obtain ⟨h1, hp⟩ := hp
  refine g_iald hS.1 (mz_at hS (Nat.le_of_ble_eq_true rfl) mzcS_134) h1 (g_iconst mzi_1 (g_iadd ?_))
  obtain ⟨h2, hp⟩ := hp
  refine g_iast (mz_at hS (Nat.le_of_ble_eq_true rfl) mzcS_134) h2 (g_aload_n rfl (g_getR (mz_at hS (Nat.le_of_ble_eq_true rfl) mzcS_115) mzcf_2_1 (mz_rb hR (Nat.le_of_ble_eq_true rfl) rfl mzcR_115_1) (g_iload_n rfl (g_iconst mzi_0 ?_))))
  obtain ⟨h3, hp⟩ := hp
  refine g_iast (mz_at hS (Nat.le_of_ble_eq_true rfl) mzcS_123) h3 (g_aload_n rfl (g_dup rfl (g_getI (mz_at hS (Nat.le_of_ble_eq_true rfl) mzcS_208) mzcf_1_4 (g_sipush mzs_500 (g_iadd (g_putI (mz_at hS (Nat.le_of_ble_eq_true rfl) mzcS_208) mzcf_1_4 (g_aload_n rfl ?_)))))))
  refine g_getR (mz_at hS (Nat.le_of_ble_eq_true rfl) mzcS_115) mzcf_2_0 (mz_rb hR (Nat.le_of_ble_eq_true rfl) rfl mzcR_115_0) (g_iconst mzi_3 (g_aald4 (m := 120) (mz_at hS (Nat.le_of_ble_eq_true rfl) mzcS_116) (mz_ibd (by decide)) (mz_rb hR (Nat.le_of_ble_eq_true rfl) rfl mzcRr_116_3) (g_iload_n rfl ?_)))
  obtain ⟨h4, hp⟩ := hp
  refine g_iald hS.1 (mz_at hS (Nat.le_of_ble_eq_true rfl) mzcS_120) h4 (g_istore (Nat.le_of_ble_eq_true rfl) rfl ?_)
  refine g_weak ?_ (g_cl (cg_206_39 hd hS hR (mz_gI (mz_pI (mz_wI (mz_wI N 134 v1 ((mz_gI N 134 v1) + 1)) 123 v2 0) 208 4 (((mz_wI (mz_wI N 134 v1 ((mz_gI N 134 v1) + 1)) 123 v2 0).1 208 4) + 500)) 120 v2) (mz_pI (mz_wI (mz_wI N 134 v1 ((mz_gI N 134 v1) + 1)) 123 v2 0) 208 4 (((mz_wI (mz_wI N 134 v1 ((mz_gI N 134 v1) + 1)) 123 v2 0).1 208 4) + 500)) hr hp hC))
  exact ⟨rfl, rfl, trivial⟩
theorem cs_206 (hd : 1 ≤ d) (hS : mz_extR S 232) (hR : mz_rok R 232)  (v1 : Int32) (v2 : Int32) (N : mz_N) (hp : cp_206_0 v1 v2 N) (hq : Q (.inl none) (mz_k S R (cf_206_0 v1 v2 N) b t)) : mz_Ed (mz_X0 L xs) d 206 [.ref 115, .int v1, .int v2, .ref 208] (mz_k S R N b t) Q :=
  by
  refine g_in mzq_206 (Nat.le_of_ble_eq_true rfl) (Nat.le_of_ble_eq_true rfl) (Nat.le_trans (Nat.le_of_ble_eq_true rfl) hd) ?_
  refine g_weak ?_ (cg_206_0 (d := d - 1) (by omega) hS hR v1 v2 N (C0 := fun z => Q (.inl none) (mz_k S R z b t)) (fun _ h => h) hp hq)
  exact ⟨rfl, rfl, rfl, rfl, trivial⟩
end Fn8
