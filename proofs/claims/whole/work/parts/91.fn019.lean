/-! THE FUNCTIONS: written by program: each method comes to its function. -/
section Fn19
variable {L : Nat} {xs : Nat → Int32} {d : Nat} {S : mz_S} {R : Nat → Nat → Option Nat} {Q : mz_Q} {N : mz_N} {b : Bool} {t : Nat}
/-! 387 KeptHouse$Keeper.isWithinBounds ()Z -/
theorem ms_387_0 : mz_sf mk_387 0 = mk_387 := mz_sf_zero _
theorem ms_387_2 : mz_sf mk_387 2 = mt_387_2 := mz_sf_add ms_387_0 (t := 2) rfl rfl
theorem ms_387_41 : mz_sf mk_387 41 = mt_387_41 := mz_sf_add ms_387_2 (t := 39) rfl rfl
theorem ms_387_43 : mz_sf mk_387 43 = mt_387_43 := mz_sf_add ms_387_41 (t := 2) rfl rfl
theorem ms_387_49 : mz_sf mk_387 49 = mt_387_49 := mz_sf_add ms_387_43 (t := 6) rfl rfl
theorem ms_387_80 : mz_sf mk_387 80 = mt_387_80 := mz_sf_add ms_387_49 (t := 31) rfl rfl
theorem ms_387_111 : mz_sf mk_387 111 = mt_387_111 := mz_sf_add ms_387_80 (t := 31) rfl rfl
theorem ms_387_112 : mz_sf mk_387 112 = mt_387_112 := mz_sf_add ms_387_111 (t := 1) rfl rfl
set_option maxRecDepth 100000 in
theorem mzq_387 : mz_PG0 387 = some (4, ⟨"KeptHouse$Keeper", "isWithinBounds", "()Z"⟩, prog_6_method_14_code, 2, some .boolean, [], mk_387, []) := rfl
theorem cg_387_43 (hd : 5 ≤ d) (hS : mz_ext S 232) (hR : mz_rok R 232)  (v1 : Int32) (N : mz_N) (b : Bool) {C0 : (Bool × mz_N) → Prop} (hr : ∀ (w : Bool) (N2 : mz_N), C0 (w, N2) → Q (.inl (some (.int (mz_b01 w)))) (mz_k S R N2 b t)) {C1 : ((Int32) ⊕ (Bool × mz_N)) → Prop} (hc1 : ∀ s2, C1 (.inl s2) → mz_G (d, mz_X0 L xs, some .boolean, [], mk_387, 2, Q) 2 mt_387_2 [(0, .ref 1), (1, .int s2)] [] false (mz_k S R N b t)) (hx1 : ∀ z, C1 (.inr z) → C0 z) (hp : cp_387_43 v1 N b) (hC : C1 (cf_387_43 v1 N b)) : mz_G (d, mz_X0 L xs, some .boolean, [], mk_387, 2, Q) 43 mt_387_43 [(0, .ref 1), (1, .int v1)] [] false (mz_k S R N b t) := by
  unfold cf_387_43 at hC
  unfold cp_387_43 at hp
  refine g_iinc rfl mzi_1 (Nat.le_of_ble_eq_true rfl) rfl (g_goto (tg := 2) rfl ms_387_2 ?_)
  refine g_weak ?_ (g_cl (hc1 ((v1 + 1)) hC))
  exact ⟨rfl, rfl, trivial⟩
theorem cg_387_111 (hd : 5 ≤ d) (hS : mz_ext S 232) (hR : mz_rok R 232)  (N : mz_N) (b : Bool) {C0 : (Bool × mz_N) → Prop} (hr : ∀ (w : Bool) (N2 : mz_N), C0 (w, N2) → Q (.inl (some (.int (mz_b01 w)))) (mz_k S R N2 b t)) (hp : cp_387_111 N b) (hC : C0 (cf_387_111 N b)) : mz_G (d, mz_X0 L xs, some .boolean, [], mk_387, 2, Q) 111 mt_387_111 [] [] false (mz_k S R N b t) := by
  unfold cf_387_111 at hC
  unfold cp_387_111 at hp
  refine g_iconst mzi_0 ?_
  exact g_zret (z := false) rfl (hr _ _ hC)
theorem cb_387_2 (hd : 5 ≤ d) (hS : mz_ext S 232) (hR : mz_rok R 232)  (N : mz_N) (b : Bool) (s : Int32) {C0 : (Bool × mz_N) → Prop} (hr : ∀ (w : Bool) (N2 : mz_N), C0 (w, N2) → Q (.inl (some (.int (mz_b01 w)))) (mz_k S R N2 b t)) {C1 : ((Int32) ⊕ (Bool × mz_N)) → Prop} (hc1 : ∀ s2, C1 (.inl s2) → mz_G (d, mz_X0 L xs, some .boolean, [], mk_387, 2, Q) 2 mt_387_2 [(0, .ref 1), (1, .int s2)] [] false (mz_k S R N b t)) (hx1 : ∀ z, C1 (.inr z) → C0 z) (hp : cd_387_2 N b s) (hC : C1 (cq_387_2 N b s)) : mz_G (d, mz_X0 L xs, some .boolean, [], mk_387, 2, Q) 2 mt_387_2 [(0, .ref 1), (1, .int s)] [] false (mz_k S R N b t) := by
  unfold cq_387_2 at hC
  unfold cd_387_2 at hp
  refine g_iload_n rfl (g_sipush mzs_135 ?_)
  refine g_icge (tg := 49) rfl ms_387_49 hC (fun h1 hC => ?_) (fun h1 hC => ?_)
  · have hp := hp.1 h1
    refine g_aload_n rfl (g_getR (mz_at hS (Nat.le_of_ble_eq_true rfl) mzcS_1) mzcf_4_14 (mz_rb hR (Nat.le_of_ble_eq_true rfl) rfl mzcR_1_14) (g_iload_n rfl ?_))
    obtain ⟨h2, hp⟩ := hp
    refine g_iald hS.1 (mz_at hS (Nat.le_of_ble_eq_true rfl) mzcS_231) h2 (g_iconst mzi_1 ?_)
    refine g_icne (tg := 43) rfl ms_387_43 hC (fun h3 hC => ?_) (fun h3 hC => ?_)
    · have hp := hp.1 h3
      refine g_iload_n rfl ?_
      obtain ⟨h4, hp⟩ := hp
      refine g_s1v (Nat.le_of_ble_eq_true rfl) (fun _ hq => cs_55 (Nat.le_trans (Nat.le_of_ble_eq_true rfl) hd) (hS.le (Nat.le_of_ble_eq_true rfl)) (hR.le (Nat.le_of_ble_eq_true rfl))  s h4 hq) (g_iload_n rfl ?_)
      obtain ⟨h5, hp⟩ := hp
      refine g_s1v (Nat.le_of_ble_eq_true rfl) (fun _ hq => cs_56 (Nat.le_trans (Nat.le_of_ble_eq_true rfl) hd) (hS.le (Nat.le_of_ble_eq_true rfl)) (hR.le (Nat.le_of_ble_eq_true rfl))  s h5 hq) (g_aload_n rfl (g_getR (mz_at hS (Nat.le_of_ble_eq_true rfl) mzcS_1) mzcf_4_13 (mz_rb hR (Nat.le_of_ble_eq_true rfl) rfl mzcR_1_13) (g_iload_n rfl (g_bipush mzb_28 (g_imul ?_)))))
      obtain ⟨h6, hp⟩ := hp
      refine g_s4v (Nat.le_of_ble_eq_true rfl) (fun _ hq => cs_388 (Nat.le_trans (Nat.le_of_ble_eq_true rfl) hd) (hS.le (Nat.le_of_ble_eq_true rfl)) (hR.le (Nat.le_of_ble_eq_true rfl))  (cf_55_0 s) (cf_56_0 s) (s * 28) N h6 hq) ?_
      refine g_zne (tg := 43) rfl ms_387_43 hC (fun h7 hC => ?_) (fun h7 hC => ?_)
      · have hp := hp.1 h7
        refine g_weak ?_ (g_cl (cg_387_43 hd hS hR s N b hr hc1 hx1 hp hC))
        exact ⟨rfl, rfl, trivial⟩
      · have hp := hp.2 h7
        refine g_iconst mzi_0 ?_
        exact g_zret (z := false) rfl (hr _ _ (hx1 _ hC))
    · have hp := hp.2 h3
      refine g_weak ?_ (g_cl (cg_387_43 hd hS hR s N b hr hc1 hx1 hp hC))
      exact ⟨rfl, rfl, trivial⟩
  · have hp := hp.2 h1
    refine g_aload_n rfl ?_
    obtain ⟨h8, hp⟩ := hp
    refine g_v1v (Nat.le_of_ble_eq_true rfl) (mz_at hS (Nat.le_of_ble_eq_true rfl) mzcS_1) (fun _ hq => cs_404 (Nat.le_trans (Nat.le_of_ble_eq_true rfl) hd) (hS.le (Nat.le_of_ble_eq_true rfl)) (hR.le (Nat.le_of_ble_eq_true rfl))  N h8 hq) ?_
    refine g_zeq (tg := 111) rfl ms_387_111 hC (fun h9 hC => ?_) (fun h9 hC => ?_)
    · have hp := hp.1 h9
      refine g_aload_n rfl ?_
      obtain ⟨h10, hp⟩ := hp
      refine g_v1v (Nat.le_of_ble_eq_true rfl) (mz_at hS (Nat.le_of_ble_eq_true rfl) mzcS_1) (fun _ hq => cs_405 (Nat.le_trans (Nat.le_of_ble_eq_true rfl) hd) (hS.le (Nat.le_of_ble_eq_true rfl)) (hR.le (Nat.le_of_ble_eq_true rfl))  ((cf_404_0 N).2) h10 hq) ?_
      refine g_zeq (tg := 111) rfl ms_387_111 hC (fun h11 hC => ?_) (fun h11 hC => ?_)
      · have hp := hp.1 h11
        refine g_aload_n rfl (g_getR (mz_at hS (Nat.le_of_ble_eq_true rfl) mzcS_1) mzcf_4_1 (mz_rb hR (Nat.le_of_ble_eq_true rfl) rfl mzcR_1_1) (g_aload_n rfl (g_getR (mz_at hS (Nat.le_of_ble_eq_true rfl) mzcS_1) mzcf_4_13 (mz_rb hR (Nat.le_of_ble_eq_true rfl) rfl mzcR_1_13) (g_sipush mzs_728 ?_))))
        obtain ⟨h12, hp⟩ := hp
        refine g_v3v (Nat.le_of_ble_eq_true rfl) (mz_at hS (Nat.le_of_ble_eq_true rfl) mzcS_41) (fun _ hq => cs_74 (Nat.le_trans (Nat.le_of_ble_eq_true rfl) hd) (hS.le (Nat.le_of_ble_eq_true rfl)) (hR.le (Nat.le_of_ble_eq_true rfl)) 230 (mz_at hS (Nat.le_of_ble_eq_true rfl) mzcS_230) 728 ((cf_404_0 N).2) h12 hq) ?_
        refine g_zeq (tg := 111) rfl ms_387_111 hC (fun h13 hC => ?_) (fun h13 hC => ?_)
        · have hp := hp.1 h13
          refine g_aload_n rfl (g_getR (mz_at hS (Nat.le_of_ble_eq_true rfl) mzcS_1) mzcf_4_1 (mz_rb hR (Nat.le_of_ble_eq_true rfl) rfl mzcR_1_1) (g_getR (mz_at hS (Nat.le_of_ble_eq_true rfl) mzcS_41) mzcf_6_3 (mz_rb_ot b R) (g_aload_n rfl (g_getR (mz_at hS (Nat.le_of_ble_eq_true rfl) mzcS_1) mzcf_4_1 (mz_rb hR (Nat.le_of_ble_eq_true rfl) rfl mzcR_1_1) (g_getR (mz_at hS (Nat.le_of_ble_eq_true rfl) mzcS_41) mzcf_6_8 (mz_rb hR (Nat.le_of_ble_eq_true rfl) rfl mzcR_41_8) (g_aload_n rfl (g_getR (mz_at hS (Nat.le_of_ble_eq_true rfl) mzcS_1) mzcf_4_1 (mz_rb hR (Nat.le_of_ble_eq_true rfl) rfl mzcR_1_1) ?_)))))))
          refine g_getI (mz_at hS (Nat.le_of_ble_eq_true rfl) mzcS_41) mzcf_6_9 ?_
          obtain ⟨h14, hp⟩ := hp
          refine g_v3v (Nat.le_of_ble_eq_true rfl) (mz_at hS (mz_oL0 (mz_ot_or b) (Nat.le_of_ble_eq_true rfl)) (mz_oA0 (mz_ot_or b))) (fun _ hq => cs_23 (Nat.le_trans (Nat.le_of_ble_eq_true rfl) hd) (hS.le (Nat.le_of_ble_eq_true rfl)) (hR.le (Nat.le_of_ble_eq_true rfl)) (mz_ot b) 55 (mz_ot_or b) (mz_at hS (Nat.le_of_ble_eq_true rfl) mzcS_55) (((cf_74_0 230 728 ((cf_404_0 N).2)).2).1 41 9) ((cf_74_0 230 728 ((cf_404_0 N).2)).2) h14 hq) ?_
          refine g_zeq (tg := 111) rfl ms_387_111 hC (fun h15 hC => ?_) (fun h15 hC => ?_)
          · have hp := hp.1 h15
            refine g_iconst mzi_1 (g_goto (tg := 112) rfl ms_387_112 ?_)
            exact g_zret (z := true) rfl (hr _ _ (hx1 _ hC))
          · have hp := hp.2 h15
            refine g_weak ?_ (g_cl (cg_387_111 hd hS hR ((cf_23_0 (mz_ot b) 55 (((cf_74_0 230 728 ((cf_404_0 N).2)).2).1 41 9) ((cf_74_0 230 728 ((cf_404_0 N).2)).2)).2) b hr hp (hx1 _ hC)))
            exact trivial
        · have hp := hp.2 h13
          refine g_weak ?_ (g_cl (cg_387_111 hd hS hR ((cf_74_0 230 728 ((cf_404_0 N).2)).2) b hr hp (hx1 _ hC)))
          exact trivial
      · have hp := hp.2 h11
        refine g_weak ?_ (g_cl (cg_387_111 hd hS hR ((cf_404_0 N).2) b hr hp (hx1 _ hC)))
        exact trivial
    · have hp := hp.2 h9
      refine g_weak ?_ (g_cl (cg_387_111 hd hS hR ((cf_404_0 N).2) b hr hp (hx1 _ hC)))
      exact trivial
theorem cg_387_2 (hd : 5 ≤ d) (hS : mz_ext S 232) (hR : mz_rok R 232)  (v1 : Int32) (N : mz_N) (b : Bool) {C0 : (Bool × mz_N) → Prop} (hr : ∀ (w : Bool) (N2 : mz_N), C0 (w, N2) → Q (.inl (some (.int (mz_b01 w)))) (mz_k S R N2 b t)) (hp : cp_387_2 v1 N b) (hC : C0 (cf_387_2 v1 N b)) : mz_G (d, mz_X0 L xs, some .boolean, [], mk_387, 2, Q) 2 mt_387_2 [(0, .ref 1), (1, .int v1)] [] false (mz_k S R N b t) := by
  obtain ⟨n, hn⟩ := hp
  exact g_loop (G := fun s => mz_G (d, mz_X0 L xs, some .boolean, [], mk_387, 2, Q) 2 mt_387_2 [(0, .ref 1), (1, .int s)] [] false (mz_k S R N b t)) (C := C0) (fun C2 hc hx s hP hC => cb_387_2 hd hS hR N b s hr hc hx hP hC) n (v1) hn hC
theorem cg_387_0 (hd : 5 ≤ d) (hS : mz_ext S 232) (hR : mz_rok R 232)  (N : mz_N) (b : Bool) {C0 : (Bool × mz_N) → Prop} (hr : ∀ (w : Bool) (N2 : mz_N), C0 (w, N2) → Q (.inl (some (.int (mz_b01 w)))) (mz_k S R N2 b t)) (hp : cp_387_0 N b) (hC : C0 (cf_387_0 N b)) : mz_G (d, mz_X0 L xs, some .boolean, [], mk_387, 2, Q) 0 mk_387 [(0, .ref 1)] [] true (mz_k S R N b t) := by
  unfold cf_387_0 at hC
  unfold cp_387_0 at hp
  refine g_iconst mzi_0 (g_istore_n (Nat.le_of_ble_eq_true rfl) rfl ?_)
  refine g_weak ?_ (g_cl (cg_387_2 hd hS hR 0 N b hr hp hC))
  exact ⟨rfl, rfl, trivial⟩
theorem cs_387 (hd : 6 ≤ d) (hS : mz_ext S 232) (hR : mz_rok R 232)  (N : mz_N) (b : Bool) (hp : cp_387_0 N b) (hq : Q (.inl (some (.int (mz_b01 ((cf_387_0 N b).1))))) (mz_k S R ((cf_387_0 N b).2) b t)) : mz_Ed (mz_X0 L xs) d 387 [.ref 1] (mz_k S R N b t) Q :=
  by
  refine g_in mzq_387 (Nat.le_of_ble_eq_true rfl) (Nat.le_of_ble_eq_true rfl) (Nat.le_trans (Nat.le_of_ble_eq_true rfl) hd) ?_
  refine g_weak ?_ (cg_387_0 (d := d - 1) (by omega) hS hR N b (C0 := fun z => Q (.inl (some (.int (mz_b01 z.1)))) (mz_k S R z.2 b t)) (fun _ _ h => h) hp hq)
  exact ⟨rfl, trivial⟩
/-! 385 KeptHouse$Keeper.judgeReel ()I -/
theorem ms_385_0 : mz_sf mk_385 0 = mk_385 := mz_sf_zero _
theorem ms_385_10 : mz_sf mk_385 10 = mt_385_10 := mz_sf_add ms_385_0 (t := 10) rfl rfl
theorem ms_385_28 : mz_sf mk_385 28 = mt_385_28 := mz_sf_add ms_385_10 (t := 18) rfl rfl
theorem ms_385_44 : mz_sf mk_385 44 = mt_385_44 := mz_sf_add ms_385_28 (t := 16) rfl rfl
theorem ms_385_76 : mz_sf mk_385 76 = mt_385_76 := mz_sf_add ms_385_44 (t := 32) rfl rfl
theorem ms_385_78 : mz_sf mk_385 78 = mt_385_78 := mz_sf_add ms_385_76 (t := 2) rfl rfl
theorem ms_385_88 : mz_sf mk_385 88 = mt_385_88 := mz_sf_add ms_385_78 (t := 10) rfl rfl
theorem ms_385_99 : mz_sf mk_385 99 = mt_385_99 := mz_sf_add ms_385_88 (t := 11) rfl rfl
theorem ms_385_100 : mz_sf mk_385 100 = mt_385_100 := mz_sf_add ms_385_99 (t := 1) rfl rfl
set_option maxRecDepth 100000 in
theorem mzq_385 : mz_PG0 385 = some (4, ⟨"KeptHouse$Keeper", "judgeReel", "()I"⟩, prog_6_method_12_code, 2, some .int, [], mk_385, []) := rfl
theorem cg_385_99 (hd : 6 ≤ d) (hS : mz_ext S 232) (hR : mz_rok R 232)  (N : mz_N) (b : Bool) {C0 : (Int32 × mz_N) → Prop} (hr : ∀ (w : Int32) (N2 : mz_N), C0 (w, N2) → Q (.inl (some (.int w))) (mz_k S R N2 b t)) (hp : cp_385_99 N b) (hC : C0 (cf_385_99 N b)) : mz_G (d, mz_X0 L xs, some .int, [], mk_385, 2, Q) 99 mt_385_99 [] [] false (mz_k S R N b t) := by
  unfold cf_385_99 at hC
  unfold cp_385_99 at hp
  refine g_iconst mzi_4 ?_
  exact g_iret rfl (hr _ _ hC)
theorem cg_385_0 (hd : 6 ≤ d) (hS : mz_ext S 232) (hR : mz_rok R 232)  (N : mz_N) (b : Bool) {C0 : (Int32 × mz_N) → Prop} (hr : ∀ (w : Int32) (N2 : mz_N), C0 (w, N2) → Q (.inl (some (.int w))) (mz_k S R N2 b t)) (hp : cp_385_0 N b) (hC : C0 (cf_385_0 N b)) : mz_G (d, mz_X0 L xs, some .int, [], mk_385, 2, Q) 0 mk_385 [(0, .ref 1)] [] true (mz_k S R N b t) := by
  unfold cf_385_0 at hC
  unfold cp_385_0 at hp
  refine g_aload_n rfl (g_getI (mz_at hS (Nat.le_of_ble_eq_true rfl) mzcS_1) mzcf_4_12 (g_iconst mzi_2 ?_))
  refine g_icge (tg := 10) rfl ms_385_10 hC (fun h1 hC => ?_) (fun h1 hC => ?_)
  · have hp := hp.1 h1
    refine g_iconst mzi_1 ?_
    exact g_iret rfl (hr _ _ hC)
  · have hp := hp.2 h1
    refine g_aload_n rfl (g_getR (mz_at hS (Nat.le_of_ble_eq_true rfl) mzcS_1) mzcf_4_11 (mz_rb hR (Nat.le_of_ble_eq_true rfl) rfl mzcR_1_11) (g_iconst mzi_0 (g_iald hS.1 (mz_at hS (Nat.le_of_ble_eq_true rfl) mzcS_229) (mz_ibd (by decide)) (g_sipush mzs_256 (g_aload_n rfl (g_getR (mz_at hS (Nat.le_of_ble_eq_true rfl) mzcS_1) mzcf_4_11 (mz_rb hR (Nat.le_of_ble_eq_true rfl) rfl mzcR_1_11) (g_iconst mzi_1 ?_)))))))
    refine g_iald hS.1 (mz_at hS (Nat.le_of_ble_eq_true rfl) mzcS_229) (mz_ibd (by decide)) (g_imul (g_iadd (g_istore_n (Nat.le_of_ble_eq_true rfl) rfl (g_aload_n rfl (g_getI (mz_at hS (Nat.le_of_ble_eq_true rfl) mzcS_1) mzcf_4_12 (g_bipush mzb_6 (g_iload_n rfl ?_)))))))
    refine g_bipush mzb_30 (g_imul (g_iadd ?_))
    refine g_iceq (tg := 44) rfl ms_385_44 hC (fun h2 hC => ?_) (fun h2 hC => ?_)
    · have hp := hp.1 h2
      refine g_aload_n rfl (g_getR (mz_at hS (Nat.le_of_ble_eq_true rfl) mzcS_1) mzcf_4_11 (mz_rb hR (Nat.le_of_ble_eq_true rfl) rfl mzcR_1_11) (g_iconst mzi_0 (g_aload_n rfl (g_getI (mz_at hS (Nat.le_of_ble_eq_true rfl) mzcS_1) mzcf_4_12 (g_iconst mzi_4 (g_isub ?_))))))
      obtain ⟨h3, hp⟩ := hp
      refine g_s3v (Nat.le_of_ble_eq_true rfl) (fun _ hq => cs_16 (Nat.le_trans (Nat.le_of_ble_eq_true rfl) hd) (hS.le (Nat.le_of_ble_eq_true rfl)) (hR.le (Nat.le_of_ble_eq_true rfl)) 229 4100 (mz_at hS (Nat.le_of_ble_eq_true rfl) mzcS_229) 0 ((N.1 1 12) - 4) N h3 hq) (g_aload_n rfl (g_getR (mz_at hS (Nat.le_of_ble_eq_true rfl) mzcS_1) mzcf_4_11 (mz_rb hR (Nat.le_of_ble_eq_true rfl) rfl mzcR_1_11) (g_aload_n rfl (g_getI (mz_at hS (Nat.le_of_ble_eq_true rfl) mzcS_1) mzcf_4_12 (g_iconst mzi_4 (g_isub (g_iconst mzi_4 ?_)))))))
      obtain ⟨h4, hp⟩ := hp
      refine g_s3v (Nat.le_of_ble_eq_true rfl) (fun _ hq => cs_61 (Nat.le_trans (Nat.le_of_ble_eq_true rfl) hd) (hS.le (Nat.le_of_ble_eq_true rfl)) (hR.le (Nat.le_of_ble_eq_true rfl)) 229 4100 (mz_at hS (Nat.le_of_ble_eq_true rfl) mzcS_229) ((N.1 1 12) - 4) 4 N h4 hq) (g_l2i ?_)
      refine g_iceq (tg := 78) rfl ms_385_78 hC (fun h5 hC => ?_) (fun h5 hC => ?_)
      · have hp := hp.1 h5
        refine g_aload_n rfl (g_iload_n rfl ?_)
        obtain ⟨h6, hp⟩ := hp
        refine g_v2v (Nat.le_of_ble_eq_true rfl) (mz_at hS (Nat.le_of_ble_eq_true rfl) mzcS_1) (fun _ hq => cs_386 (Nat.le_trans (Nat.le_of_ble_eq_true rfl) hd) (hS.le (Nat.le_of_ble_eq_true rfl)) (hR.le (Nat.le_of_ble_eq_true rfl))  ((mz_gI N 229 0) + (256 * (mz_gI N 229 1))) N h6 hq) ?_
        refine g_zne (tg := 88) rfl ms_385_88 hC (fun h7 hC => ?_) (fun h7 hC => ?_)
        · have hp := hp.1 h7
          refine g_aload_n rfl ?_
          obtain ⟨h8, hp⟩ := hp
          refine g_v1v (Nat.le_of_ble_eq_true rfl) (mz_at hS (Nat.le_of_ble_eq_true rfl) mzcS_1) (fun _ hq => cs_387 (Nat.le_trans (Nat.le_of_ble_eq_true rfl) hd) (hS.le (Nat.le_of_ble_eq_true rfl)) (hR.le (Nat.le_of_ble_eq_true rfl))  ((cf_386_0 ((mz_gI N 229 0) + (256 * (mz_gI N 229 1))) N).2) b h8 hq) ?_
          refine g_zeq (tg := 99) rfl ms_385_99 hC (fun h9 hC => ?_) (fun h9 hC => ?_)
          · have hp := hp.1 h9
            refine g_iconst mzi_0 (g_goto (tg := 100) rfl ms_385_100 ?_)
            exact g_iret rfl (hr _ _ hC)
          · have hp := hp.2 h9
            refine g_weak ?_ (g_cl (cg_385_99 hd hS hR ((cf_387_0 ((cf_386_0 ((mz_gI N 229 0) + (256 * (mz_gI N 229 1))) N).2) b).2) b hr hp hC))
            exact trivial
        · have hp := hp.2 h7
          refine g_iconst mzi_3 ?_
          exact g_iret rfl (hr _ _ hC)
      · have hp := hp.2 h5
        refine g_iconst mzi_2 ?_
        exact g_iret rfl (hr _ _ hC)
    · have hp := hp.2 h2
      refine g_iconst mzi_1 ?_
      exact g_iret rfl (hr _ _ hC)
theorem cs_385 (hd : 7 ≤ d) (hS : mz_ext S 232) (hR : mz_rok R 232)  (N : mz_N) (b : Bool) (hp : cp_385_0 N b) (hq : Q (.inl (some (.int ((cf_385_0 N b).1)))) (mz_k S R ((cf_385_0 N b).2) b t)) : mz_Ed (mz_X0 L xs) d 385 [.ref 1] (mz_k S R N b t) Q :=
  by
  refine g_in mzq_385 (Nat.le_of_ble_eq_true rfl) (Nat.le_of_ble_eq_true rfl) (Nat.le_trans (Nat.le_of_ble_eq_true rfl) hd) ?_
  refine g_weak ?_ (cg_385_0 (d := d - 1) (by omega) hS hR N b (C0 := fun z => Q (.inl (some (.int z.1))) (mz_k S R z.2 b t)) (fun _ _ h => h) hp hq)
  exact ⟨rfl, trivial⟩
/-! 407 KeptHouse$Store.replaceKeys ([I[I)V -/
theorem ms_407_0 : mz_sf mk_407 0 = mk_407 := mz_sf_zero _
theorem ms_407_26 : mz_sf mk_407 26 = mt_407_26 := mz_sf_add ms_407_0 (t := 26) rfl rfl
set_option maxRecDepth 100000 in
theorem mzq_407 : mz_PG0 407 = some (8, ⟨"KeptHouse$Store", "replaceKeys", "([I[I)V"⟩, prog_10_method_17_code, 3, none, [], mk_407, []) := rfl
theorem cg_407_0 (hd : 0 ≤ d) (hS : mz_ext S 232) (hR : mz_rok R 232)  (N : mz_N) {C0 : (mz_N) → Prop} (hr : ∀ (N2 : mz_N), C0 N2 → Q (.inl none) (mz_k S R N2 b t)) (hp : cp_407_0 N) (hC : C0 (cf_407_0 N)) : mz_G (d, mz_X0 L xs, none, [], mk_407, 3, Q) 0 mk_407 [(0, .ref 219), (1, .ref 230), (2, .ref 231)] [] true (mz_k S R N b t) := by
  unfold cf_407_0 at hC
  unfold cp_407_0 at hp
  refine g_aload_n rfl (g_iconst mzi_0 (g_aload_n rfl (g_getR (mz_at hS (Nat.le_of_ble_eq_true rfl) mzcS_219) mzcf_8_1 (mz_rb hR (Nat.le_of_ble_eq_true rfl) rfl mzcR_219_1) (g_iconst mzi_0 (g_sipush mzs_3780 (g_cpI (Nat.le_of_ble_eq_true rfl) (mz_at hS (Nat.le_of_ble_eq_true rfl) mzcS_230) (mz_at hS (Nat.le_of_ble_eq_true rfl) mzcS_223) (mz_cpd (by decide)) (g_aload_n rfl ?_)))))))
  refine g_iconst mzi_0 (g_aload_n rfl (g_getR (mz_at hS (Nat.le_of_ble_eq_true rfl) mzcS_219) mzcf_8_2 (mz_rb hR (Nat.le_of_ble_eq_true rfl) rfl mzcR_219_2) (g_iconst mzi_0 (g_sipush mzs_135 (g_cpI (Nat.le_of_ble_eq_true rfl) (mz_at hS (Nat.le_of_ble_eq_true rfl) mzcS_231) (mz_at hS (Nat.le_of_ble_eq_true rfl) mzcS_224) (mz_cpd (by decide)) ?_)))))
  exact g_vret rfl (hr _ hC)
theorem cs_407 (hd : 1 ≤ d) (hS : mz_ext S 232) (hR : mz_rok R 232)  (N : mz_N) (hp : cp_407_0 N) (hq : Q (.inl none) (mz_k S R (cf_407_0 N) b t)) : mz_Ed (mz_X0 L xs) d 407 [.ref 219, .ref 230, .ref 231] (mz_k S R N b t) Q :=
  by
  refine g_in mzq_407 (Nat.le_of_ble_eq_true rfl) (Nat.le_of_ble_eq_true rfl) (Nat.le_trans (Nat.le_of_ble_eq_true rfl) hd) ?_
  refine g_weak ?_ (cg_407_0 (d := d - 1) (by omega) hS hR N (C0 := fun z => Q (.inl none) (mz_k S R z b t)) (fun _ h => h) hp hq)
  exact ⟨rfl, rfl, rfl, trivial⟩
/-! 406 KeptHouse$Keeper.takeReel ()Z -/
theorem ms_406_0 : mz_sf mk_406 0 = mk_406 := mz_sf_zero _
theorem ms_406_20 : mz_sf mk_406 20 = mt_406_20 := mz_sf_add ms_406_0 (t := 20) rfl rfl
set_option maxRecDepth 100000 in
theorem mzq_406 : mz_PG0 406 = some (4, ⟨"KeptHouse$Keeper", "takeReel", "()Z"⟩, prog_6_method_17_code, 1, some .boolean, [], mk_406, []) := rfl
theorem cg_406_0 (hd : 3 ≤ d) (hS : mz_ext S 232) (hR : mz_rok R 232)  (N : mz_N) {C0 : (Bool × mz_N) → Prop} (hr : ∀ (w : Bool) (N2 : mz_N), C0 (w, N2) → Q (.inl (some (.int (mz_b01 w)))) (mz_k S R N2 b t)) (hp : cp_406_0 N) (hC : C0 (cf_406_0 N)) : mz_G (d, mz_X0 L xs, some .boolean, [], mk_406, 1, Q) 0 mk_406 [(0, .ref 1)] [] true (mz_k S R N b t) := by
  unfold cf_406_0 at hC
  unfold cp_406_0 at hp
  refine g_aload_n rfl (g_getR (mz_at hS (Nat.le_of_ble_eq_true rfl) mzcS_1) mzcf_4_8 (mz_rb hR (Nat.le_of_ble_eq_true rfl) rfl mzcR_1_8) (g_aload_n rfl (g_getR (mz_at hS (Nat.le_of_ble_eq_true rfl) mzcS_1) mzcf_4_13 (mz_rb hR (Nat.le_of_ble_eq_true rfl) rfl mzcR_1_13) (g_aload_n rfl (g_getR (mz_at hS (Nat.le_of_ble_eq_true rfl) mzcS_1) mzcf_4_14 (mz_rb hR (Nat.le_of_ble_eq_true rfl) rfl mzcR_1_14) ?_)))))
  have h1 := hp
  refine g_v3v (Nat.le_of_ble_eq_true rfl) (mz_at hS (Nat.le_of_ble_eq_true rfl) mzcS_219) (fun _ hq => cs_137 (Nat.le_trans (Nat.le_of_ble_eq_true rfl) hd) (hS.le (Nat.le_of_ble_eq_true rfl)) (hR.le (Nat.le_of_ble_eq_true rfl)) 230 231 (mz_at hS (Nat.le_of_ble_eq_true rfl) mzcS_230) (mz_at hS (Nat.le_of_ble_eq_true rfl) mzcS_231) N h1 hq) ?_
  refine g_zne (tg := 20) rfl ms_406_20 hC (fun h2 hC => ?_) (fun h2 hC => ?_)
  · refine g_aload_n rfl (g_getR (mz_at hS (Nat.le_of_ble_eq_true rfl) mzcS_1) mzcf_4_8 (mz_rb hR (Nat.le_of_ble_eq_true rfl) rfl mzcR_1_8) (g_aload_n rfl (g_getR (mz_at hS (Nat.le_of_ble_eq_true rfl) mzcS_1) mzcf_4_13 (mz_rb hR (Nat.le_of_ble_eq_true rfl) rfl mzcR_1_13) (g_aload_n rfl (g_getR (mz_at hS (Nat.le_of_ble_eq_true rfl) mzcS_1) mzcf_4_14 (mz_rb hR (Nat.le_of_ble_eq_true rfl) rfl mzcR_1_14) ?_)))))
    refine g_v3n (Nat.le_of_ble_eq_true rfl) (mz_at hS (Nat.le_of_ble_eq_true rfl) mzcS_219) (fun _ hq => cs_407 (Nat.le_trans (Nat.le_of_ble_eq_true rfl) hd) (hS.le (Nat.le_of_ble_eq_true rfl)) (hR.le (Nat.le_of_ble_eq_true rfl))  ((cf_137_0 230 231 N).2) trivial hq) (g_iconst mzi_1 ?_)
    exact g_zret (z := true) rfl (hr _ _ hC)
  · refine g_iconst mzi_0 ?_
    exact g_zret (z := false) rfl (hr _ _ hC)
theorem cs_406 (hd : 4 ≤ d) (hS : mz_ext S 232) (hR : mz_rok R 232)  (N : mz_N) (hp : cp_406_0 N) (hq : Q (.inl (some (.int (mz_b01 ((cf_406_0 N).1))))) (mz_k S R ((cf_406_0 N).2) b t)) : mz_Ed (mz_X0 L xs) d 406 [.ref 1] (mz_k S R N b t) Q :=
  by
  refine g_in mzq_406 (Nat.le_of_ble_eq_true rfl) (Nat.le_of_ble_eq_true rfl) (Nat.le_trans (Nat.le_of_ble_eq_true rfl) hd) ?_
  refine g_weak ?_ (cg_406_0 (d := d - 1) (by omega) hS hR N (C0 := fun z => Q (.inl (some (.int (mz_b01 z.1)))) (mz_k S R z.2 b t)) (fun _ _ h => h) hp hq)
  exact ⟨rfl, trivial⟩
/-! 410 KeptHouseModel.set (IIJ)V -/
theorem ms_410_0 : mz_sf mk_410 0 = mk_410 := mz_sf_zero _
theorem ms_410_3 : mz_sf mk_410 3 = mt_410_3 := mz_sf_add ms_410_0 (t := 3) rfl rfl
theorem ms_410_27 : mz_sf mk_410 27 = mt_410_27 := mz_sf_add ms_410_3 (t := 24) rfl rfl
theorem ms_410_33 : mz_sf mk_410 33 = mt_410_33 := mz_sf_add ms_410_27 (t := 6) rfl rfl
set_option maxRecDepth 100000 in
theorem mzq_410 : mz_PG0 410 = some (12, ⟨"KeptHouseModel", "set", "(IIJ)V"⟩, prog_14_method_165_code, 6, none, [], mk_410, []) := rfl
theorem cg_410_27 (hd : 0 ≤ d) (hS : mz_ext S 342) (hR : mz_rok R 342)  (v1 : Int32) (v2 : Int32) (v3 : Int64) (v5 : Int32) (N : mz_N) {C0 : (mz_N) → Prop} (hr : ∀ (N2 : mz_N), C0 N2 → Q (.inl none) (mz_k S R N2 b t)) {C1 : ((Int32 × mz_N) ⊕ (mz_N)) → Prop} (hc1 : ∀ s2, C1 (.inl s2) → mz_G (d, mz_X0 L xs, none, [], mk_410, 6, Q) 3 mt_410_3 [(0, .ref 232), (1, .int v1), (2, .int v2), (3, .long v3), (5, .int s2.1)] [] false (mz_k S R s2.2 b t)) (hx1 : ∀ z, C1 (.inr z) → C0 z) (hp : cp_410_27 v1 v2 v3 v5 N) (hC : C1 (cf_410_27 v1 v2 v3 v5 N)) : mz_G (d, mz_X0 L xs, none, [], mk_410, 6, Q) 27 mt_410_27 [(0, .ref 232), (1, .int v1), (2, .int v2), (3, .long v3), (5, .int v5)] [] false (mz_k S R N b t) := by
  unfold cf_410_27 at hC
  unfold cp_410_27 at hp
  refine g_iinc rfl mzi_1 (Nat.le_of_ble_eq_true rfl) rfl (g_goto (tg := 3) rfl ms_410_3 ?_)
  refine g_weak ?_ (g_cl (hc1 ((v5 + 1), N) hC))
  exact ⟨rfl, rfl, rfl, rfl, rfl, trivial⟩
theorem cb_410_3 (hd : 0 ≤ d) (hS : mz_ext S 342) (hR : mz_rok R 342)  (v1 : Int32) (v2 : Int32) (v3 : Int64) (s : Int32 × mz_N) {C0 : (mz_N) → Prop} (hr : ∀ (N2 : mz_N), C0 N2 → Q (.inl none) (mz_k S R N2 b t)) {C1 : ((Int32 × mz_N) ⊕ (mz_N)) → Prop} (hc1 : ∀ s2, C1 (.inl s2) → mz_G (d, mz_X0 L xs, none, [], mk_410, 6, Q) 3 mt_410_3 [(0, .ref 232), (1, .int v1), (2, .int v2), (3, .long v3), (5, .int s2.1)] [] false (mz_k S R s2.2 b t)) (hx1 : ∀ z, C1 (.inr z) → C0 z) (hp : cd_410_3 v1 v2 v3 s) (hC : C1 (cq_410_3 v1 v2 v3 s)) : mz_G (d, mz_X0 L xs, none, [], mk_410, 6, Q) 3 mt_410_3 [(0, .ref 232), (1, .int v1), (2, .int v2), (3, .long v3), (5, .int s.1)] [] false (mz_k S R s.2 b t) := by
  unfold cq_410_3 at hC
  unfold cd_410_3 at hp
  refine g_iload rfl (g_iload_n rfl ?_)
  refine g_icge (tg := 33) rfl ms_410_33 hC (fun h1 hC => ?_) (fun h1 hC => ?_)
  · have hp := hp.1 h1
    refine g_aload_n rfl (g_getR (mz_at hS (Nat.le_of_ble_eq_true rfl) mzcS_232) mzcf_12_132 (mz_rb hR (Nat.le_of_ble_eq_true rfl) rfl mzcR_232_132) (g_iload_n rfl (g_iload rfl (g_iadd (g_lload_n rfl (g_bipush mzb_8 (g_iload rfl ?_)))))))
    refine g_imul (g_lshr (g_l2i (g_i2b ?_)))
    obtain ⟨h2, hp⟩ := hp
    refine g_bast (mz_at hS (Nat.le_of_ble_eq_true rfl) mzcS_332) h2 ?_
    refine g_weak ?_ (g_cl (cg_410_27 hd hS hR v1 v2 v3 s.1 (mz_wI s.2 332 (v1 + s.1) (mz_nb (mz_i2b ((mz_lshr v3 (8 * s.1)).toInt32)))) hr hc1 hx1 hp hC))
    exact ⟨rfl, rfl, rfl, rfl, rfl, trivial⟩
  · have hp := hp.2 h1
    exact g_vret rfl (hr _ (hx1 _ hC))
theorem cg_410_3 (hd : 0 ≤ d) (hS : mz_ext S 342) (hR : mz_rok R 342)  (v1 : Int32) (v2 : Int32) (v3 : Int64) (v5 : Int32) (N : mz_N) {C0 : (mz_N) → Prop} (hr : ∀ (N2 : mz_N), C0 N2 → Q (.inl none) (mz_k S R N2 b t)) (hp : cp_410_3 v1 v2 v3 v5 N) (hC : C0 (cf_410_3 v1 v2 v3 v5 N)) : mz_G (d, mz_X0 L xs, none, [], mk_410, 6, Q) 3 mt_410_3 [(0, .ref 232), (1, .int v1), (2, .int v2), (3, .long v3), (5, .int v5)] [] false (mz_k S R N b t) := by
  obtain ⟨n, hn⟩ := hp
  exact g_loop (G := fun s => mz_G (d, mz_X0 L xs, none, [], mk_410, 6, Q) 3 mt_410_3 [(0, .ref 232), (1, .int v1), (2, .int v2), (3, .long v3), (5, .int s.1)] [] false (mz_k S R s.2 b t)) (C := C0) (fun C2 hc hx s hP hC => cb_410_3 hd hS hR v1 v2 v3 s hr hc hx hP hC) n (v5, N) hn hC
theorem cg_410_0 (hd : 0 ≤ d) (hS : mz_ext S 342) (hR : mz_rok R 342)  (v1 : Int32) (v2 : Int32) (v3 : Int64) (N : mz_N) {C0 : (mz_N) → Prop} (hr : ∀ (N2 : mz_N), C0 N2 → Q (.inl none) (mz_k S R N2 b t)) (hp : cp_410_0 v1 v2 v3 N) (hC : C0 (cf_410_0 v1 v2 v3 N)) : mz_G (d, mz_X0 L xs, none, [], mk_410, 6, Q) 0 mk_410 [(0, .ref 232), (1, .int v1), (2, .int v2), (3, .long v3)] [] true (mz_k S R N b t) := by
  unfold cf_410_0 at hC
  unfold cp_410_0 at hp
  refine g_iconst mzi_0 (g_istore (Nat.le_of_ble_eq_true rfl) rfl ?_)
  refine g_weak ?_ (g_cl (cg_410_3 hd hS hR v1 v2 v3 0 N hr hp hC))
  exact ⟨rfl, rfl, rfl, rfl, rfl, trivial⟩
theorem cs_410 (hd : 1 ≤ d) (hS : mz_ext S 342) (hR : mz_rok R 342)  (v1 : Int32) (v2 : Int32) (v3 : Int64) (N : mz_N) (hp : cp_410_0 v1 v2 v3 N) (hq : Q (.inl none) (mz_k S R (cf_410_0 v1 v2 v3 N) b t)) : mz_Ed (mz_X0 L xs) d 410 [.ref 232, .int v1, .int v2, .long v3] (mz_k S R N b t) Q :=
  by
  refine g_in mzq_410 (Nat.le_of_ble_eq_true rfl) (Nat.le_of_ble_eq_true rfl) (Nat.le_trans (Nat.le_of_ble_eq_true rfl) hd) ?_
  refine g_weak ?_ (cg_410_0 (d := d - 1) (by omega) hS hR v1 v2 v3 N (C0 := fun z => Q (.inl none) (mz_k S R z b t)) (fun _ h => h) hp hq)
  exact ⟨rfl, rfl, rfl, rfl, trivial⟩
/-! 412 KeptHouseModel.setIn ([BIIJ)V -/
theorem ms_412_0 : mz_sf mk_412 0 = mk_412 := mz_sf_zero _
theorem ms_412_3 : mz_sf mk_412 3 = mt_412_3 := mz_sf_add ms_412_0 (t := 3) rfl rfl
theorem ms_412_24 : mz_sf mk_412 24 = mt_412_24 := mz_sf_add ms_412_3 (t := 21) rfl rfl
theorem ms_412_30 : mz_sf mk_412 30 = mt_412_30 := mz_sf_add ms_412_24 (t := 6) rfl rfl
set_option maxRecDepth 100000 in
theorem mzq_412 : mz_PG0 412 = some (12, ⟨"KeptHouseModel", "setIn", "([BIIJ)V"⟩, prog_14_method_170_code, 6, none, [], mk_412, []) := rfl
theorem cg_412_24 (hd : 0 ≤ d) (hS : mz_ext S 342) (hR : mz_rok R 342) (a0 : Nat) (n0 : Nat) (hs0 : S[a0]? = some (2, n0, [])) (v1 : Int32) (v2 : Int32) (v3 : Int64) (v5 : Int32) (N : mz_N) {C0 : (mz_N) → Prop} (hr : ∀ (N2 : mz_N), C0 N2 → Q (.inl none) (mz_k S R N2 b t)) {C1 : ((Int32 × mz_N) ⊕ (mz_N)) → Prop} (hc1 : ∀ s2, C1 (.inl s2) → mz_G (d, mz_X0 L xs, none, [], mk_412, 6, Q) 3 mt_412_3 [(0, .ref a0), (1, .int v1), (2, .int v2), (3, .long v3), (5, .int s2.1)] [] false (mz_k S R s2.2 b t)) (hx1 : ∀ z, C1 (.inr z) → C0 z) (hp : cp_412_24 a0 n0 v1 v2 v3 v5 N) (hC : C1 (cf_412_24 a0 n0 v1 v2 v3 v5 N)) : mz_G (d, mz_X0 L xs, none, [], mk_412, 6, Q) 24 mt_412_24 [(0, .ref a0), (1, .int v1), (2, .int v2), (3, .long v3), (5, .int v5)] [] false (mz_k S R N b t) := by
  unfold cf_412_24 at hC
  unfold cp_412_24 at hp
  refine g_iinc rfl mzi_1 (Nat.le_of_ble_eq_true rfl) rfl (g_goto (tg := 3) rfl ms_412_3 ?_)
  refine g_weak ?_ (g_cl (hc1 ((v5 + 1), N) hC))
  exact ⟨rfl, rfl, rfl, rfl, rfl, trivial⟩
theorem cb_412_3 (hd : 0 ≤ d) (hS : mz_ext S 342) (hR : mz_rok R 342) (a0 : Nat) (n0 : Nat) (hs0 : S[a0]? = some (2, n0, [])) (v1 : Int32) (v2 : Int32) (v3 : Int64) (s : Int32 × mz_N) {C0 : (mz_N) → Prop} (hr : ∀ (N2 : mz_N), C0 N2 → Q (.inl none) (mz_k S R N2 b t)) {C1 : ((Int32 × mz_N) ⊕ (mz_N)) → Prop} (hc1 : ∀ s2, C1 (.inl s2) → mz_G (d, mz_X0 L xs, none, [], mk_412, 6, Q) 3 mt_412_3 [(0, .ref a0), (1, .int v1), (2, .int v2), (3, .long v3), (5, .int s2.1)] [] false (mz_k S R s2.2 b t)) (hx1 : ∀ z, C1 (.inr z) → C0 z) (hp : cd_412_3 a0 n0 v1 v2 v3 s) (hC : C1 (cq_412_3 a0 n0 v1 v2 v3 s)) : mz_G (d, mz_X0 L xs, none, [], mk_412, 6, Q) 3 mt_412_3 [(0, .ref a0), (1, .int v1), (2, .int v2), (3, .long v3), (5, .int s.1)] [] false (mz_k S R s.2 b t) := by
  unfold cq_412_3 at hC
  unfold cd_412_3 at hp
  refine g_iload rfl (g_iload_n rfl ?_)
  refine g_icge (tg := 30) rfl ms_412_30 hC (fun h1 hC => ?_) (fun h1 hC => ?_)
  · have hp := hp.1 h1
    refine g_aload_n rfl (g_iload_n rfl (g_iload rfl (g_iadd (g_lload_n rfl (g_bipush mzb_8 (g_iload rfl (g_imul ?_)))))))
    refine g_lshr (g_l2i (g_i2b ?_))
    obtain ⟨h2, hp⟩ := hp
    refine g_bast hs0 h2 ?_
    refine g_weak ?_ (g_cl (cg_412_24 hd hS hR a0 n0 hs0 v1 v2 v3 s.1 (mz_wI s.2 a0 (v1 + s.1) (mz_nb (mz_i2b ((mz_lshr v3 (8 * s.1)).toInt32)))) hr hc1 hx1 hp hC))
    exact ⟨rfl, rfl, rfl, rfl, rfl, trivial⟩
  · have hp := hp.2 h1
    exact g_vret rfl (hr _ (hx1 _ hC))
theorem cg_412_3 (hd : 0 ≤ d) (hS : mz_ext S 342) (hR : mz_rok R 342) (a0 : Nat) (n0 : Nat) (hs0 : S[a0]? = some (2, n0, [])) (v1 : Int32) (v2 : Int32) (v3 : Int64) (v5 : Int32) (N : mz_N) {C0 : (mz_N) → Prop} (hr : ∀ (N2 : mz_N), C0 N2 → Q (.inl none) (mz_k S R N2 b t)) (hp : cp_412_3 a0 n0 v1 v2 v3 v5 N) (hC : C0 (cf_412_3 a0 n0 v1 v2 v3 v5 N)) : mz_G (d, mz_X0 L xs, none, [], mk_412, 6, Q) 3 mt_412_3 [(0, .ref a0), (1, .int v1), (2, .int v2), (3, .long v3), (5, .int v5)] [] false (mz_k S R N b t) := by
  obtain ⟨n, hn⟩ := hp
  exact g_loop (G := fun s => mz_G (d, mz_X0 L xs, none, [], mk_412, 6, Q) 3 mt_412_3 [(0, .ref a0), (1, .int v1), (2, .int v2), (3, .long v3), (5, .int s.1)] [] false (mz_k S R s.2 b t)) (C := C0) (fun C2 hc hx s hP hC => cb_412_3 hd hS hR a0 n0 hs0 v1 v2 v3 s hr hc hx hP hC) n (v5, N) hn hC
theorem cg_412_0 (hd : 0 ≤ d) (hS : mz_ext S 342) (hR : mz_rok R 342) (a0 : Nat) (n0 : Nat) (hs0 : S[a0]? = some (2, n0, [])) (v1 : Int32) (v2 : Int32) (v3 : Int64) (N : mz_N) {C0 : (mz_N) → Prop} (hr : ∀ (N2 : mz_N), C0 N2 → Q (.inl none) (mz_k S R N2 b t)) (hp : cp_412_0 a0 n0 v1 v2 v3 N) (hC : C0 (cf_412_0 a0 n0 v1 v2 v3 N)) : mz_G (d, mz_X0 L xs, none, [], mk_412, 6, Q) 0 mk_412 [(0, .ref a0), (1, .int v1), (2, .int v2), (3, .long v3)] [] true (mz_k S R N b t) := by
  unfold cf_412_0 at hC
  unfold cp_412_0 at hp
  refine g_iconst mzi_0 (g_istore (Nat.le_of_ble_eq_true rfl) rfl ?_)
  refine g_weak ?_ (g_cl (cg_412_3 hd hS hR a0 n0 hs0 v1 v2 v3 0 N hr hp hC))
  exact ⟨rfl, rfl, rfl, rfl, rfl, trivial⟩
theorem cs_412 (hd : 1 ≤ d) (hS : mz_ext S 342) (hR : mz_rok R 342) (a0 : Nat) (n0 : Nat) (hs0 : S[a0]? = some (2, n0, [])) (v1 : Int32) (v2 : Int32) (v3 : Int64) (N : mz_N) (hp : cp_412_0 a0 n0 v1 v2 v3 N) (hq : Q (.inl none) (mz_k S R (cf_412_0 a0 n0 v1 v2 v3 N) b t)) : mz_Ed (mz_X0 L xs) d 412 [.ref a0, .int v1, .int v2, .long v3] (mz_k S R N b t) Q :=
  by
  refine g_in mzq_412 (Nat.le_of_ble_eq_true rfl) (Nat.le_of_ble_eq_true rfl) (Nat.le_trans (Nat.le_of_ble_eq_true rfl) hd) ?_
  refine g_weak ?_ (cg_412_0 (d := d - 1) (by omega) hS hR a0 n0 hs0 v1 v2 v3 N (C0 := fun z => Q (.inl none) (mz_k S R z b t)) (fun _ h => h) hp hq)
  exact ⟨rfl, rfl, rfl, rfl, trivial⟩
/-! 413 KeptHouseModel.crcOf ([BII)I -/
theorem ms_413_0 : mz_sf mk_413 0 = mk_413 := mz_sf_zero _
theorem ms_413_5 : mz_sf mk_413 5 = mt_413_5 := mz_sf_add ms_413_0 (t := 5) rfl rfl
theorem ms_413_24 : mz_sf mk_413 24 = mt_413_24 := mz_sf_add ms_413_5 (t := 19) rfl rfl
theorem ms_413_27 : mz_sf mk_413 27 = mt_413_27 := mz_sf_add ms_413_24 (t := 3) rfl rfl
theorem ms_413_51 : mz_sf mk_413 51 = mt_413_51 := mz_sf_add ms_413_27 (t := 24) rfl rfl
theorem ms_413_54 : mz_sf mk_413 54 = mt_413_54 := mz_sf_add ms_413_51 (t := 3) rfl rfl
theorem ms_413_61 : mz_sf mk_413 61 = mt_413_61 := mz_sf_add ms_413_54 (t := 7) rfl rfl
theorem ms_413_67 : mz_sf mk_413 67 = mt_413_67 := mz_sf_add ms_413_61 (t := 6) rfl rfl
set_option maxRecDepth 100000 in
theorem mzq_413 : mz_PG0 413 = some (12, ⟨"KeptHouseModel", "crcOf", "([BII)I"⟩, prog_14_method_168_code, 6, some .int, [], mk_413, []) := rfl
theorem cg_413_54 (hd : 0 ≤ d) (hS : mz_ext S 342) (hR : mz_rok R 342) (a0 : Nat) (n0 : Nat) (hs0 : S[a0]? = some (2, n0, [])) (s0 : Int32) (v1 : Int32) (v2 : Int32) (v4 : Int32) (v5 : Int32) (N : mz_N) {C0 : (Int32) → Prop} (hr : ∀ (w : Int32), C0 w → Q (.inl (some (.int w))) (mz_k S R N b t)) {C1 : ((Int32 × Int32) ⊕ (Int32)) → Prop} (hc1 : ∀ s2, C1 (.inl s2) → mz_G (d, mz_X0 L xs, some .int, [], mk_413, 6, Q) 5 mt_413_5 [(0, .ref a0), (1, .int v1), (2, .int v2), (3, .int s2.1), (4, .int s2.2)] [] false (mz_k S R N b t)) (hx1 : ∀ z, C1 (.inr z) → C0 z) {C2 : ((Int32 × Int32) ⊕ ((Int32 × Int32) ⊕ (Int32))) → Prop} (hc2 : ∀ s2, C2 (.inl s2) → mz_G (d, mz_X0 L xs, some .int, [], mk_413, 6, Q) 27 mt_413_27 [(0, .ref a0), (1, .int v1), (2, .int v2), (3, .int s2.1), (4, .int v4), (5, .int s2.2)] [] false (mz_k S R N b t)) (hx2 : ∀ z, C2 (.inr z) → C1 z) (hp : cp_413_54 a0 n0 s0 v1 v2 v4 v5 N) (hC : C2 (cf_413_54 a0 n0 s0 v1 v2 v4 v5 N)) : mz_G (d, mz_X0 L xs, some .int, [], mk_413, 6, Q) 54 mt_413_54 [(0, .ref a0), (1, .int v1), (2, .int v2), (4, .int v4), (5, .int v5)] [.int s0] false (mz_k S R N b t) := by
  unfold cf_413_54 at hC
  unfold cp_413_54 at hp
  refine g_istore_n (Nat.le_of_ble_eq_true rfl) rfl (g_iinc rfl mzi_1 (Nat.le_of_ble_eq_true rfl) rfl (g_goto (tg := 27) rfl ms_413_27 ?_))
  refine g_weak ?_ (g_cl (hc2 (s0, (v5 + 1)) hC))
  exact ⟨rfl, rfl, rfl, rfl, rfl, rfl, trivial⟩
theorem cb_413_27 (hd : 0 ≤ d) (hS : mz_ext S 342) (hR : mz_rok R 342) (a0 : Nat) (n0 : Nat) (hs0 : S[a0]? = some (2, n0, [])) (v1 : Int32) (v2 : Int32) (v4 : Int32) (N : mz_N) (s : Int32 × Int32) {C0 : (Int32) → Prop} (hr : ∀ (w : Int32), C0 w → Q (.inl (some (.int w))) (mz_k S R N b t)) {C1 : ((Int32 × Int32) ⊕ (Int32)) → Prop} (hc1 : ∀ s2, C1 (.inl s2) → mz_G (d, mz_X0 L xs, some .int, [], mk_413, 6, Q) 5 mt_413_5 [(0, .ref a0), (1, .int v1), (2, .int v2), (3, .int s2.1), (4, .int s2.2)] [] false (mz_k S R N b t)) (hx1 : ∀ z, C1 (.inr z) → C0 z) {C2 : ((Int32 × Int32) ⊕ ((Int32 × Int32) ⊕ (Int32))) → Prop} (hc2 : ∀ s2, C2 (.inl s2) → mz_G (d, mz_X0 L xs, some .int, [], mk_413, 6, Q) 27 mt_413_27 [(0, .ref a0), (1, .int v1), (2, .int v2), (3, .int s2.1), (4, .int v4), (5, .int s2.2)] [] false (mz_k S R N b t)) (hx2 : ∀ z, C2 (.inr z) → C1 z) (hp : cd_413_27 a0 n0 v1 v2 v4 N s) (hC : C2 (cq_413_27 a0 n0 v1 v2 v4 N s)) : mz_G (d, mz_X0 L xs, some .int, [], mk_413, 6, Q) 27 mt_413_27 [(0, .ref a0), (1, .int v1), (2, .int v2), (3, .int s.1), (4, .int v4), (5, .int s.2)] [] false (mz_k S R N b t) := by
  unfold cq_413_27 at hC
  unfold cd_413_27 at hp
  refine g_iload rfl (g_bipush mzb_8 ?_)
  refine g_icge (tg := 61) rfl ms_413_61 hC (fun h1 hC => ?_) (fun h1 hC => ?_)
  · have hp := hp.1 h1
    refine g_iload_n rfl (g_iconst mzi_1 (g_iand (g_iconst mzi_1 ?_)))
    refine g_icne (tg := 51) rfl ms_413_51 hC (fun h2 hC => ?_) (fun h2 hC => ?_)
    · have hp := hp.1 h2
      refine g_iload_n rfl (g_iconst mzi_1 (g_iushr (g_con3 (g_ixor (g_goto (tg := 54) rfl ms_413_54 ?_)))))
      refine g_weak ?_ (g_cl (cg_413_54 hd hS hR a0 n0 hs0 ((mz_iushr s.1 1) ^^^ (-306674912)) v1 v2 v4 s.2 N hr hc1 hx1 hc2 hx2 hp hC))
      exact ⟨rfl, rfl, rfl, rfl, rfl, trivial⟩
    · have hp := hp.2 h2
      refine g_iload_n rfl (g_iconst mzi_1 (g_iushr ?_))
      refine g_weak ?_ (g_cl (cg_413_54 hd hS hR a0 n0 hs0 (mz_iushr s.1 1) v1 v2 v4 s.2 N hr hc1 hx1 hc2 hx2 hp hC))
      exact ⟨rfl, rfl, rfl, rfl, rfl, trivial⟩
  · have hp := hp.2 h1
    refine g_iinc rfl mzi_1 (Nat.le_of_ble_eq_true rfl) rfl (g_goto (tg := 5) rfl ms_413_5 ?_)
    refine g_weak ?_ (g_cl (hc1 (s.1, (v4 + 1)) (hx2 _ hC)))
    exact ⟨rfl, rfl, rfl, rfl, rfl, trivial⟩
theorem cg_413_27 (hd : 0 ≤ d) (hS : mz_ext S 342) (hR : mz_rok R 342) (a0 : Nat) (n0 : Nat) (hs0 : S[a0]? = some (2, n0, [])) (v1 : Int32) (v2 : Int32) (v3 : Int32) (v4 : Int32) (v5 : Int32) (N : mz_N) {C0 : (Int32) → Prop} (hr : ∀ (w : Int32), C0 w → Q (.inl (some (.int w))) (mz_k S R N b t)) {C1 : ((Int32 × Int32) ⊕ (Int32)) → Prop} (hc1 : ∀ s2, C1 (.inl s2) → mz_G (d, mz_X0 L xs, some .int, [], mk_413, 6, Q) 5 mt_413_5 [(0, .ref a0), (1, .int v1), (2, .int v2), (3, .int s2.1), (4, .int s2.2)] [] false (mz_k S R N b t)) (hx1 : ∀ z, C1 (.inr z) → C0 z) (hp : cp_413_27 a0 n0 v1 v2 v3 v4 v5 N) (hC : C1 (cf_413_27 a0 n0 v1 v2 v3 v4 v5 N)) : mz_G (d, mz_X0 L xs, some .int, [], mk_413, 6, Q) 27 mt_413_27 [(0, .ref a0), (1, .int v1), (2, .int v2), (3, .int v3), (4, .int v4), (5, .int v5)] [] false (mz_k S R N b t) := by
  obtain ⟨n, hn⟩ := hp
  exact g_loop (G := fun s => mz_G (d, mz_X0 L xs, some .int, [], mk_413, 6, Q) 27 mt_413_27 [(0, .ref a0), (1, .int v1), (2, .int v2), (3, .int s.1), (4, .int v4), (5, .int s.2)] [] false (mz_k S R N b t)) (C := C1) (fun C2 hc hx s hP hC => cb_413_27 hd hS hR a0 n0 hs0 v1 v2 v4 N s hr hc1 hx1 hc hx hP hC) n (v3, v5) hn hC
theorem cb_413_5 (hd : 0 ≤ d) (hS : mz_ext S 342) (hR : mz_rok R 342) (a0 : Nat) (n0 : Nat) (hs0 : S[a0]? = some (2, n0, [])) (v1 : Int32) (v2 : Int32) (N : mz_N) (s : Int32 × Int32) {C0 : (Int32) → Prop} (hr : ∀ (w : Int32), C0 w → Q (.inl (some (.int w))) (mz_k S R N b t)) {C1 : ((Int32 × Int32) ⊕ (Int32)) → Prop} (hc1 : ∀ s2, C1 (.inl s2) → mz_G (d, mz_X0 L xs, some .int, [], mk_413, 6, Q) 5 mt_413_5 [(0, .ref a0), (1, .int v1), (2, .int v2), (3, .int s2.1), (4, .int s2.2)] [] false (mz_k S R N b t)) (hx1 : ∀ z, C1 (.inr z) → C0 z) (hp : cd_413_5 a0 n0 v1 v2 N s) (hC : C1 (cq_413_5 a0 n0 v1 v2 N s)) : mz_G (d, mz_X0 L xs, some .int, [], mk_413, 6, Q) 5 mt_413_5 [(0, .ref a0), (1, .int v1), (2, .int v2), (3, .int s.1), (4, .int s.2)] [] false (mz_k S R N b t) := by
  unfold cq_413_5 at hC
  unfold cd_413_5 at hp
  refine g_iload rfl (g_iload_n rfl ?_)
  refine g_icge (tg := 67) rfl ms_413_67 hC (fun h1 hC => ?_) (fun h1 hC => ?_)
  · have hp := hp.1 h1
    refine g_iload_n rfl (g_aload_n rfl (g_iload_n rfl (g_iload rfl (g_iadd ?_))))
    obtain ⟨h2, hp⟩ := hp
    refine g_bald hs0 h2 (g_sipush mzs_255 (g_iand (g_ixor (g_istore_n (Nat.le_of_ble_eq_true rfl) rfl (g_iconst mzi_0 (g_istore (Nat.le_of_ble_eq_true rfl) rfl ?_))))))
    refine g_weak ?_ (g_cl (cg_413_27 hd hS hR a0 n0 hs0 v1 v2 (s.1 ^^^ ((mz_gI N a0 (v1 + s.2)) &&& 255)) s.2 0 N hr hc1 hx1 hp hC))
    exact ⟨rfl, rfl, rfl, rfl, rfl, rfl, trivial⟩
  · have hp := hp.2 h1
    refine g_iload_n rfl (g_iconst mzi_m1 (g_ixor ?_))
    exact g_iret rfl (hr _ (hx1 _ hC))
theorem cg_413_5 (hd : 0 ≤ d) (hS : mz_ext S 342) (hR : mz_rok R 342) (a0 : Nat) (n0 : Nat) (hs0 : S[a0]? = some (2, n0, [])) (v1 : Int32) (v2 : Int32) (v3 : Int32) (v4 : Int32) (N : mz_N) {C0 : (Int32) → Prop} (hr : ∀ (w : Int32), C0 w → Q (.inl (some (.int w))) (mz_k S R N b t)) (hp : cp_413_5 a0 n0 v1 v2 v3 v4 N) (hC : C0 (cf_413_5 a0 n0 v1 v2 v3 v4 N)) : mz_G (d, mz_X0 L xs, some .int, [], mk_413, 6, Q) 5 mt_413_5 [(0, .ref a0), (1, .int v1), (2, .int v2), (3, .int v3), (4, .int v4)] [] false (mz_k S R N b t) := by
  obtain ⟨n, hn⟩ := hp
  exact g_loop (G := fun s => mz_G (d, mz_X0 L xs, some .int, [], mk_413, 6, Q) 5 mt_413_5 [(0, .ref a0), (1, .int v1), (2, .int v2), (3, .int s.1), (4, .int s.2)] [] false (mz_k S R N b t)) (C := C0) (fun C2 hc hx s hP hC => cb_413_5 hd hS hR a0 n0 hs0 v1 v2 N s hr hc hx hP hC) n (v3, v4) hn hC
theorem cg_413_0 (hd : 0 ≤ d) (hS : mz_ext S 342) (hR : mz_rok R 342) (a0 : Nat) (n0 : Nat) (hs0 : S[a0]? = some (2, n0, [])) (v1 : Int32) (v2 : Int32) (N : mz_N) {C0 : (Int32) → Prop} (hr : ∀ (w : Int32), C0 w → Q (.inl (some (.int w))) (mz_k S R N b t)) (hp : cp_413_0 a0 n0 v1 v2 N) (hC : C0 (cf_413_0 a0 n0 v1 v2 N)) : mz_G (d, mz_X0 L xs, some .int, [], mk_413, 6, Q) 0 mk_413 [(0, .ref a0), (1, .int v1), (2, .int v2)] [] true (mz_k S R N b t) := by
  unfold cf_413_0 at hC
  unfold cp_413_0 at hp
  refine g_iconst mzi_m1 (g_istore_n (Nat.le_of_ble_eq_true rfl) rfl (g_iconst mzi_0 (g_istore (Nat.le_of_ble_eq_true rfl) rfl ?_)))
  refine g_weak ?_ (g_cl (cg_413_5 hd hS hR a0 n0 hs0 v1 v2 (-1) 0 N hr hp hC))
  exact ⟨rfl, rfl, rfl, rfl, rfl, trivial⟩
theorem cs_413 (hd : 1 ≤ d) (hS : mz_ext S 342) (hR : mz_rok R 342) (a0 : Nat) (n0 : Nat) (hs0 : S[a0]? = some (2, n0, [])) (v1 : Int32) (v2 : Int32) (N : mz_N) (hp : cp_413_0 a0 n0 v1 v2 N) (hq : Q (.inl (some (.int (cf_413_0 a0 n0 v1 v2 N)))) (mz_k S R N b t)) : mz_Ed (mz_X0 L xs) d 413 [.ref a0, .int v1, .int v2] (mz_k S R N b t) Q :=
  by
  refine g_in mzq_413 (Nat.le_of_ble_eq_true rfl) (Nat.le_of_ble_eq_true rfl) (Nat.le_trans (Nat.le_of_ble_eq_true rfl) hd) ?_
  refine g_weak ?_ (cg_413_0 (d := d - 1) (by omega) hS hR a0 n0 hs0 v1 v2 N (C0 := fun z => Q (.inl (some (.int z))) (mz_k S R N b t)) (fun _ h => h) hp hq)
  exact ⟨rfl, rfl, rfl, trivial⟩
/-! 411 KeptHouseModel.writeRow (IIIIZJ)Z -/
theorem ms_411_0 : mz_sf mk_411 0 = mk_411 := mz_sf_zero _
theorem ms_411_3 : mz_sf mk_411 3 = mt_411_3 := mz_sf_add ms_411_0 (t := 3) rfl rfl
theorem ms_411_43 : mz_sf mk_411 43 = mt_411_43 := mz_sf_add ms_411_3 (t := 40) rfl rfl
theorem ms_411_44 : mz_sf mk_411 44 = mt_411_44 := mz_sf_add ms_411_43 (t := 1) rfl rfl
theorem ms_411_51 : mz_sf mk_411 51 = mt_411_51 := mz_sf_add ms_411_44 (t := 7) rfl rfl
theorem ms_411_68 : mz_sf mk_411 68 = mt_411_68 := mz_sf_add ms_411_51 (t := 17) rfl rfl
theorem ms_411_82 : mz_sf mk_411 82 = mt_411_82 := mz_sf_add ms_411_68 (t := 14) rfl rfl
theorem ms_411_83 : mz_sf mk_411 83 = mt_411_83 := mz_sf_add ms_411_82 (t := 1) rfl rfl
theorem ms_411_107 : mz_sf mk_411 107 = mt_411_107 := mz_sf_add ms_411_83 (t := 24) rfl rfl
theorem ms_411_135 : mz_sf mk_411 135 = mt_411_135 := mz_sf_add ms_411_107 (t := 28) rfl rfl
theorem ms_411_139 : mz_sf mk_411 139 = mt_411_139 := mz_sf_add ms_411_135 (t := 4) rfl rfl
theorem ms_411_140 : mz_sf mk_411 140 = mt_411_140 := mz_sf_add ms_411_139 (t := 1) rfl rfl
theorem ms_411_157 : mz_sf mk_411 157 = mt_411_157 := mz_sf_add ms_411_140 (t := 17) rfl rfl
theorem ms_411_169 : mz_sf mk_411 169 = mt_411_169 := mz_sf_add ms_411_157 (t := 12) rfl rfl
theorem ms_411_171 : mz_sf mk_411 171 = mt_411_171 := mz_sf_add ms_411_169 (t := 2) rfl rfl
theorem ms_411_194 : mz_sf mk_411 194 = mt_411_194 := mz_sf_add ms_411_171 (t := 23) rfl rfl
theorem ms_411_197 : mz_sf mk_411 197 = mt_411_197 := mz_sf_add ms_411_194 (t := 3) rfl rfl
theorem ms_411_214 : mz_sf mk_411 214 = mt_411_214 := mz_sf_add ms_411_197 (t := 17) rfl rfl
theorem ms_411_215 : mz_sf mk_411 215 = mt_411_215 := mz_sf_add ms_411_214 (t := 1) rfl rfl
theorem ms_411_232 : mz_sf mk_411 232 = mt_411_232 := mz_sf_add ms_411_215 (t := 17) rfl rfl
theorem ms_411_233 : mz_sf mk_411 233 = mt_411_233 := mz_sf_add ms_411_232 (t := 1) rfl rfl
theorem ms_411_250 : mz_sf mk_411 250 = mt_411_250 := mz_sf_add ms_411_233 (t := 17) rfl rfl
theorem ms_411_254 : mz_sf mk_411 254 = mt_411_254 := mz_sf_add ms_411_250 (t := 4) rfl rfl
theorem ms_411_255 : mz_sf mk_411 255 = mt_411_255 := mz_sf_add ms_411_254 (t := 1) rfl rfl
set_option maxRecDepth 100000 in
theorem mzq_411 : mz_PG0 411 = some (12, ⟨"KeptHouseModel", "writeRow", "(IIIIZJ)Z"⟩, prog_14_method_171_code, 11, some .boolean, [], mk_411, []) := rfl
theorem cg_411_44 (hd : 1 ≤ d) (hS : mz_ext S 342) (hR : mz_rok R 342)  (s1 : Int32) (s2 : Int32) (v1 : Int32) (v2 : Int32) (v3 : Int32) (v4 : Int32) (v5 : Bool) (v6 : Int64) (v8 : Int32) (N : mz_N) {C0 : (Bool × mz_N) → Prop} (hr : ∀ (w : Bool) (N2 : mz_N), C0 (w, N2) → Q (.inl (some (.int (mz_b01 w)))) (mz_k S R N2 b t)) {C1 : ((Int32 × mz_N) ⊕ (Bool × mz_N)) → Prop} (hc1 : ∀ s2, C1 (.inl s2) → mz_G (d, mz_X0 L xs, some .boolean, [], mk_411, 11, Q) 3 mt_411_3 [(0, .ref 232), (1, .int v1), (2, .int v2), (3, .int v3), (4, .int v4), (5, .int (mz_b01 v5)), (6, .long v6), (8, .int s2.1)] [] false (mz_k S R s2.2 b t)) (hx1 : ∀ z, C1 (.inr z) → C0 z) (hp : cp_411_44 s1 s2 v1 v2 v3 v4 v5 v6 v8 N) (hC : C1 (cf_411_44 s1 s2 v1 v2 v3 v4 v5 v6 v8 N)) : mz_G (d, mz_X0 L xs, some .boolean, [], mk_411, 11, Q) 44 mt_411_44 [(0, .ref 232), (1, .int v1), (2, .int v2), (3, .int v3), (4, .int v4), (5, .int (mz_b01 v5)), (6, .long v6), (8, .int v8)] [.int s2, .int s1, .ref 341] false (mz_k S R N b t) := by
  unfold cf_411_44 at hC
  unfold cp_411_44 at hp
  have h1 := hp
  refine g_bast (mz_at hS (Nat.le_of_ble_eq_true rfl) mzcS_341) h1 (g_iinc rfl mzi_1 (Nat.le_of_ble_eq_true rfl) rfl (g_goto (tg := 3) rfl ms_411_3 ?_))
  refine g_weak ?_ (g_cl (hc1 ((v8 + 1), mz_wI N 341 s1 (mz_nb s2)) hC))
  exact ⟨rfl, rfl, rfl, rfl, rfl, rfl, rfl, rfl, trivial⟩
theorem cg_411_43 (hd : 1 ≤ d) (hS : mz_ext S 342) (hR : mz_rok R 342)  (s1 : Int32) (v1 : Int32) (v2 : Int32) (v3 : Int32) (v4 : Int32) (v5 : Bool) (v6 : Int64) (v8 : Int32) (N : mz_N) {C0 : (Bool × mz_N) → Prop} (hr : ∀ (w : Bool) (N2 : mz_N), C0 (w, N2) → Q (.inl (some (.int (mz_b01 w)))) (mz_k S R N2 b t)) {C1 : ((Int32 × mz_N) ⊕ (Bool × mz_N)) → Prop} (hc1 : ∀ s2, C1 (.inl s2) → mz_G (d, mz_X0 L xs, some .boolean, [], mk_411, 11, Q) 3 mt_411_3 [(0, .ref 232), (1, .int v1), (2, .int v2), (3, .int v3), (4, .int v4), (5, .int (mz_b01 v5)), (6, .long v6), (8, .int s2.1)] [] false (mz_k S R s2.2 b t)) (hx1 : ∀ z, C1 (.inr z) → C0 z) (hp : cp_411_43 s1 v1 v2 v3 v4 v5 v6 v8 N) (hC : C1 (cf_411_43 s1 v1 v2 v3 v4 v5 v6 v8 N)) : mz_G (d, mz_X0 L xs, some .boolean, [], mk_411, 11, Q) 43 mt_411_43 [(0, .ref 232), (1, .int v1), (2, .int v2), (3, .int v3), (4, .int v4), (5, .int (mz_b01 v5)), (6, .long v6), (8, .int v8)] [.int s1, .ref 341] false (mz_k S R N b t) := by
  unfold cf_411_43 at hC
  unfold cp_411_43 at hp
  refine g_iconst mzi_0 ?_
  refine g_weak ?_ (g_cl (cg_411_44 hd hS hR s1 0 v1 v2 v3 v4 v5 v6 v8 N hr hc1 hx1 hp hC))
  exact ⟨rfl, rfl, rfl, rfl, rfl, rfl, rfl, rfl, trivial⟩
theorem cg_411_255 (hd : 1 ≤ d) (hS : mz_ext S 342) (hR : mz_rok R 342)  (s1 : Bool) (v8 : Bool) (N : mz_N) {C0 : (Bool × mz_N) → Prop} (hr : ∀ (w : Bool) (N2 : mz_N), C0 (w, N2) → Q (.inl (some (.int (mz_b01 w)))) (mz_k S R N2 b t)) (hp : cp_411_255 s1 v8 N) (hC : C0 (cf_411_255 s1 v8 N)) : mz_G (d, mz_X0 L xs, some .boolean, [], mk_411, 11, Q) 255 mt_411_255 [(8, .int (mz_b01 v8))] [.int (mz_b01 s1), .ref 232] false (mz_k S R N b t) := by
  unfold cf_411_255 at hC
  unfold cp_411_255 at hp
  refine g_putZ (z := s1) (mz_at hS (Nat.le_of_ble_eq_true rfl) mzcS_232) mzcf_12_137 (g_iload rfl ?_)
  exact g_zret (z := v8) rfl (hr _ _ hC)
theorem cg_411_250 (hd : 1 ≤ d) (hS : mz_ext S 342) (hR : mz_rok R 342)  (v8 : Bool) (N : mz_N) {C0 : (Bool × mz_N) → Prop} (hr : ∀ (w : Bool) (N2 : mz_N), C0 (w, N2) → Q (.inl (some (.int (mz_b01 w)))) (mz_k S R N2 b t)) (hp : cp_411_250 v8 N) (hC : C0 (cf_411_250 v8 N)) : mz_G (d, mz_X0 L xs, some .boolean, [], mk_411, 11, Q) 250 mt_411_250 [(8, .int (mz_b01 v8))] [.ref 232] false (mz_k S R N b t) := by
  unfold cf_411_250 at hC
  unfold cp_411_250 at hp
  refine g_iconst mzi_1 (g_goto (tg := 255) rfl ms_411_255 ?_)
  refine g_weak ?_ (g_cl (cg_411_255 hd hS hR true v8 N hr hp hC))
  exact ⟨rfl, trivial⟩
theorem cg_411_233 (hd : 1 ≤ d) (hS : mz_ext S 342) (hR : mz_rok R 342)  (s1 : Int32) (s2 : Bool) (v8 : Bool) (N : mz_N) {C0 : (Bool × mz_N) → Prop} (hr : ∀ (w : Bool) (N2 : mz_N), C0 (w, N2) → Q (.inl (some (.int (mz_b01 w)))) (mz_k S R N2 b t)) (hp : cp_411_233 s1 s2 v8 N) (hC : C0 (cf_411_233 s1 s2 v8 N)) : mz_G (d, mz_X0 L xs, some .boolean, [], mk_411, 11, Q) 233 mt_411_233 [(0, .ref 232), (8, .int (mz_b01 v8))] [.int (mz_b01 s2), .int s1, .ref 232] false (mz_k S R N b t) := by
  unfold cf_411_233 at hC
  unfold cp_411_233 at hp
  refine g_isub (g_putI (mz_at hS (Nat.le_of_ble_eq_true rfl) mzcS_232) mzcf_12_136 (g_aload_n rfl (g_aload_n rfl ?_)))
  obtain ⟨h1, hp⟩ := hp
  refine g_getZ (mz_at hS (Nat.le_of_ble_eq_true rfl) mzcS_232) mzcf_12_137 h1 ?_
  refine g_zne (tg := 250) rfl ms_411_250 hC (fun h2 hC => ?_) (fun h2 hC => ?_)
  · have hp := hp.1 h2
    refine g_weak ?_ (g_cl (cg_411_250 hd hS hR v8 (mz_pI N 232 136 (s1 - (mz_b01 s2))) hr hp hC))
    exact ⟨rfl, trivial⟩
  · have hp := hp.2 h2
    refine g_iload rfl ?_
    refine g_zne (tg := 254) rfl ms_411_254 hC (fun h3 hC => ?_) (fun h3 hC => ?_)
    · have hp := hp.1 h3
      refine g_iconst mzi_0 ?_
      refine g_weak ?_ (g_cl (cg_411_255 hd hS hR false v8 (mz_pI N 232 136 (s1 - (mz_b01 s2))) hr hp hC))
      exact ⟨rfl, trivial⟩
    · have hp := hp.2 h3
      refine g_weak ?_ (g_cl (cg_411_250 hd hS hR v8 (mz_pI N 232 136 (s1 - (mz_b01 s2))) hr hp hC))
      exact ⟨rfl, trivial⟩
theorem cg_411_215 (hd : 1 ≤ d) (hS : mz_ext S 342) (hR : mz_rok R 342)  (s1 : Int32) (s2 : Bool) (v8 : Bool) (N : mz_N) {C0 : (Bool × mz_N) → Prop} (hr : ∀ (w : Bool) (N2 : mz_N), C0 (w, N2) → Q (.inl (some (.int (mz_b01 w)))) (mz_k S R N2 b t)) (hp : cp_411_215 s1 s2 v8 N) (hC : C0 (cf_411_215 s1 s2 v8 N)) : mz_G (d, mz_X0 L xs, some .boolean, [], mk_411, 11, Q) 215 mt_411_215 [(0, .ref 232), (8, .int (mz_b01 v8))] [.int (mz_b01 s2), .int s1, .ref 329] false (mz_k S R N b t) := by
  unfold cf_411_215 at hC
  unfold cp_411_215 at hp
  obtain ⟨h1, hp⟩ := hp
  refine g_bast (mz_at hS (Nat.le_of_ble_eq_true rfl) mzcS_329) h1 (g_aload_n rfl (g_dup rfl (g_getI (mz_at hS (Nat.le_of_ble_eq_true rfl) mzcS_232) mzcf_12_136 (g_aload_n rfl (g_getI (mz_at hS (Nat.le_of_ble_eq_true rfl) mzcS_232) mzcf_12_136 ?_)))))
  refine g_ifle (tg := 232) rfl ms_411_232 hC (fun h2 hC => ?_) (fun h2 hC => ?_)
  · have hp := hp.1 h2
    refine g_iconst mzi_1 (g_goto (tg := 233) rfl ms_411_233 ?_)
    refine g_weak ?_ (g_cl (cg_411_233 hd hS hR ((mz_wI N 329 s1 (mz_nb (mz_b01 s2))).1 232 136) true v8 (mz_wI N 329 s1 (mz_nb (mz_b01 s2))) hr hp hC))
    exact ⟨rfl, rfl, trivial⟩
  · have hp := hp.2 h2
    refine g_iconst mzi_0 ?_
    refine g_weak ?_ (g_cl (cg_411_233 hd hS hR ((mz_wI N 329 s1 (mz_nb (mz_b01 s2))).1 232 136) false v8 (mz_wI N 329 s1 (mz_nb (mz_b01 s2))) hr hp hC))
    exact ⟨rfl, rfl, trivial⟩
theorem cg_411_171 (hd : 1 ≤ d) (hS : mz_ext S 342) (hR : mz_rok R 342)  (s0 : Int32) (s1 : Int32) (v8 : Bool) (v9 : Int32) (v10 : Int32) (N : mz_N) {C0 : (Bool × mz_N) → Prop} (hr : ∀ (w : Bool) (N2 : mz_N), C0 (w, N2) → Q (.inl (some (.int (mz_b01 w)))) (mz_k S R N2 b t)) {C1 : ((Int32 × mz_N) ⊕ (Bool × mz_N)) → Prop} (hc1 : ∀ s2, C1 (.inl s2) → mz_G (d, mz_X0 L xs, some .boolean, [], mk_411, 11, Q) 157 mt_411_157 [(0, .ref 232), (8, .int (mz_b01 v8)), (9, .int v9), (10, .int s2.1)] [] false (mz_k S R s2.2 b t)) (hx1 : ∀ z, C1 (.inr z) → C0 z) (hp : cp_411_171 s0 s1 v8 v9 v10 N) (hC : C1 (cf_411_171 s0 s1 v8 v9 v10 N)) : mz_G (d, mz_X0 L xs, some .boolean, [], mk_411, 11, Q) 171 mt_411_171 [(0, .ref 232), (8, .int (mz_b01 v8)), (9, .int v9), (10, .int v10)] [.int s1, .int s0] false (mz_k S R N b t) := by
  unfold cf_411_171 at hC
  unfold cp_411_171 at hp
  refine g_icge (tg := 197) rfl ms_411_197 hC (fun h1 hC => ?_) (fun h1 hC => ?_)
  · have hp := hp.1 h1
    refine g_aload_n rfl (g_getR (mz_at hS (Nat.le_of_ble_eq_true rfl) mzcS_232) mzcf_12_129 (mz_rb hR (Nat.le_of_ble_eq_true rfl) rfl mzcR_232_129) (g_iload rfl (g_iload rfl (g_iadd (g_aload_n rfl (g_getR (mz_at hS (Nat.le_of_ble_eq_true rfl) mzcS_232) mzcf_12_159 (mz_rb hR (Nat.le_of_ble_eq_true rfl) rfl mzcR_232_159) (g_iload rfl ?_)))))))
    obtain ⟨h2, hp⟩ := hp
    refine g_bald (mz_at hS (Nat.le_of_ble_eq_true rfl) mzcS_341) h2 ?_
    have h3 := hp
    refine g_bast (mz_at hS (Nat.le_of_ble_eq_true rfl) mzcS_329) h3 (g_iinc rfl mzi_1 (Nat.le_of_ble_eq_true rfl) rfl (g_goto (tg := 157) rfl ms_411_157 ?_))
    refine g_weak ?_ (g_cl (hc1 ((v10 + 1), mz_wI N 329 (v9 + v10) (mz_nb (mz_gI N 341 v10))) hC))
    exact ⟨rfl, rfl, rfl, rfl, trivial⟩
  · have hp := hp.2 h1
    refine g_aload_n rfl (g_getR (mz_at hS (Nat.le_of_ble_eq_true rfl) mzcS_232) mzcf_12_129 (mz_rb hR (Nat.le_of_ble_eq_true rfl) rfl mzcR_232_129) (g_iload rfl (g_iconst mzi_3 (g_iadd (g_iload rfl ?_)))))
    refine g_zeq (tg := 214) rfl ms_411_214 hC (fun h4 hC => ?_) (fun h4 hC => ?_)
    · have hp := hp.1 h4
      refine g_iconst mzi_0 (g_goto (tg := 215) rfl ms_411_215 ?_)
      refine g_weak ?_ (g_cl (cg_411_215 hd hS hR (v9 + 3) false v8 N hr hp (hx1 _ hC)))
      exact ⟨rfl, rfl, trivial⟩
    · have hp := hp.2 h4
      refine g_iconst mzi_1 ?_
      refine g_weak ?_ (g_cl (cg_411_215 hd hS hR (v9 + 3) true v8 N hr hp (hx1 _ hC)))
      exact ⟨rfl, rfl, trivial⟩
theorem cb_411_157 (hd : 1 ≤ d) (hS : mz_ext S 342) (hR : mz_rok R 342)  (v8 : Bool) (v9 : Int32) (s : Int32 × mz_N) {C0 : (Bool × mz_N) → Prop} (hr : ∀ (w : Bool) (N2 : mz_N), C0 (w, N2) → Q (.inl (some (.int (mz_b01 w)))) (mz_k S R N2 b t)) {C1 : ((Int32 × mz_N) ⊕ (Bool × mz_N)) → Prop} (hc1 : ∀ s2, C1 (.inl s2) → mz_G (d, mz_X0 L xs, some .boolean, [], mk_411, 11, Q) 157 mt_411_157 [(0, .ref 232), (8, .int (mz_b01 v8)), (9, .int v9), (10, .int s2.1)] [] false (mz_k S R s2.2 b t)) (hx1 : ∀ z, C1 (.inr z) → C0 z) (hp : cd_411_157 v8 v9 s) (hC : C1 (cq_411_157 v8 v9 s)) : mz_G (d, mz_X0 L xs, some .boolean, [], mk_411, 11, Q) 157 mt_411_157 [(0, .ref 232), (8, .int (mz_b01 v8)), (9, .int v9), (10, .int s.1)] [] false (mz_k S R s.2 b t) := by
  unfold cq_411_157 at hC
  unfold cd_411_157 at hp
  refine g_iload rfl (g_iload rfl ?_)
  refine g_zeq (tg := 169) rfl ms_411_169 hC (fun h1 hC => ?_) (fun h1 hC => ?_)
  · have hp := hp.1 h1
    refine g_bipush mzb_48 (g_goto (tg := 171) rfl ms_411_171 ?_)
    refine g_weak ?_ (g_cl (cg_411_171 hd hS hR s.1 48 v8 v9 s.1 s.2 hr hc1 hx1 hp hC))
    exact ⟨rfl, rfl, rfl, rfl, trivial⟩
  · have hp := hp.2 h1
    refine g_bipush mzb_24 ?_
    refine g_weak ?_ (g_cl (cg_411_171 hd hS hR s.1 24 v8 v9 s.1 s.2 hr hc1 hx1 hp hC))
    exact ⟨rfl, rfl, rfl, rfl, trivial⟩
theorem cg_411_157 (hd : 1 ≤ d) (hS : mz_ext S 342) (hR : mz_rok R 342)  (v8 : Bool) (v9 : Int32) (v10 : Int32) (N : mz_N) {C0 : (Bool × mz_N) → Prop} (hr : ∀ (w : Bool) (N2 : mz_N), C0 (w, N2) → Q (.inl (some (.int (mz_b01 w)))) (mz_k S R N2 b t)) (hp : cp_411_157 v8 v9 v10 N) (hC : C0 (cf_411_157 v8 v9 v10 N)) : mz_G (d, mz_X0 L xs, some .boolean, [], mk_411, 11, Q) 157 mt_411_157 [(0, .ref 232), (8, .int (mz_b01 v8)), (9, .int v9), (10, .int v10)] [] false (mz_k S R N b t) := by
  obtain ⟨n, hn⟩ := hp
  exact g_loop (G := fun s => mz_G (d, mz_X0 L xs, some .boolean, [], mk_411, 11, Q) 157 mt_411_157 [(0, .ref 232), (8, .int (mz_b01 v8)), (9, .int v9), (10, .int s.1)] [] false (mz_k S R s.2 b t)) (C := C0) (fun C2 hc hx s hP hC => cb_411_157 hd hS hR v8 v9 s hr hc hx hP hC) n (v10, N) hn hC
theorem cg_411_140 (hd : 1 ≤ d) (hS : mz_ext S 342) (hR : mz_rok R 342)  (s0 : Bool) (v1 : Int32) (v2 : Int32) (N : mz_N) {C0 : (Bool × mz_N) → Prop} (hr : ∀ (w : Bool) (N2 : mz_N), C0 (w, N2) → Q (.inl (some (.int (mz_b01 w)))) (mz_k S R N2 b t)) (hp : cp_411_140 s0 v1 v2 N) (hC : C0 (cf_411_140 s0 v1 v2 N)) : mz_G (d, mz_X0 L xs, some .boolean, [], mk_411, 11, Q) 140 mt_411_140 [(0, .ref 232), (1, .int v1), (2, .int v2)] [.int (mz_b01 s0)] false (mz_k S R N b t) := by
  unfold cf_411_140 at hC
  unfold cp_411_140 at hp
  refine g_istore (Nat.le_of_ble_eq_true rfl) rfl (g_sipush mzs_9600 (g_iload_n rfl (g_imul (g_bipush mzb_48 (g_iload_n rfl (g_imul (g_iadd ?_)))))))
  refine g_istore (Nat.le_of_ble_eq_true rfl) rfl (g_iconst mzi_0 (g_istore (Nat.le_of_ble_eq_true rfl) rfl ?_))
  refine g_weak ?_ (g_cl (cg_411_157 hd hS hR s0 ((9600 * v1) + (48 * v2)) 0 N hr hp hC))
  exact ⟨rfl, rfl, rfl, rfl, trivial⟩
theorem cg_411_107 (hd : 1 ≤ d) (hS : mz_ext S 342) (hR : mz_rok R 342)  (v1 : Int32) (v2 : Int32) (N : mz_N) {C0 : (Bool × mz_N) → Prop} (hr : ∀ (w : Bool) (N2 : mz_N), C0 (w, N2) → Q (.inl (some (.int (mz_b01 w)))) (mz_k S R N2 b t)) (hp : cp_411_107 v1 v2 N) (hC : C0 (cf_411_107 v1 v2 N)) : mz_G (d, mz_X0 L xs, some .boolean, [], mk_411, 11, Q) 107 mt_411_107 [(0, .ref 232), (1, .int v1), (2, .int v2)] [] false (mz_k S R N b t) := by
  unfold cf_411_107 at hC
  unfold cp_411_107 at hp
  refine g_aload_n rfl (g_getR (mz_at hS (Nat.le_of_ble_eq_true rfl) mzcS_232) mzcf_12_159 (mz_rb hR (Nat.le_of_ble_eq_true rfl) rfl mzcR_232_159) (g_bipush mzb_44 (g_iconst mzi_4 (g_aload_n rfl (g_getR (mz_at hS (Nat.le_of_ble_eq_true rfl) mzcS_232) mzcf_12_159 (mz_rb hR (Nat.le_of_ble_eq_true rfl) rfl mzcR_232_159) (g_iconst mzi_0 (g_bipush mzb_44 ?_)))))))
  obtain ⟨h1, hp⟩ := hp
  refine g_s3v (Nat.le_of_ble_eq_true rfl) (fun _ hq => cs_413 (Nat.le_trans (Nat.le_of_ble_eq_true rfl) hd) (hS.le (Nat.le_of_ble_eq_true rfl)) (hR.le (Nat.le_of_ble_eq_true rfl)) 341 48 (mz_at hS (Nat.le_of_ble_eq_true rfl) mzcS_341) 0 44 N h1 hq) (g_i2l ?_)
  obtain ⟨h2, hp⟩ := hp
  refine g_s4n (Nat.le_of_ble_eq_true rfl) (fun _ hq => cs_412 (Nat.le_trans (Nat.le_of_ble_eq_true rfl) hd) (hS.le (Nat.le_of_ble_eq_true rfl)) (hR.le (Nat.le_of_ble_eq_true rfl)) 341 48 (mz_at hS (Nat.le_of_ble_eq_true rfl) mzcS_341) 44 4 ((cf_413_0 341 48 0 44 N).toInt64) N h2 hq) (g_aload_n rfl (g_getI (mz_at hS (Nat.le_of_ble_eq_true rfl) mzcS_232) mzcf_12_136 ?_))
  refine g_ifeq (tg := 139) rfl ms_411_139 hC (fun h3 hC => ?_) (fun h3 hC => ?_)
  · have hp := hp.1 h3
    refine g_iconst mzi_0 ?_
    refine g_weak ?_ (g_cl (cg_411_140 hd hS hR false v1 v2 (cf_412_0 341 48 44 4 ((cf_413_0 341 48 0 44 N).toInt64) N) hr hp hC))
    exact ⟨rfl, rfl, rfl, trivial⟩
  · have hp := hp.2 h3
    refine g_iconst mzi_1 (g_goto (tg := 140) rfl ms_411_140 ?_)
    refine g_weak ?_ (g_cl (cg_411_140 hd hS hR true v1 v2 (cf_412_0 341 48 44 4 ((cf_413_0 341 48 0 44 N).toInt64) N) hr hp hC))
    exact ⟨rfl, rfl, rfl, trivial⟩
theorem cg_411_83 (hd : 1 ≤ d) (hS : mz_ext S 342) (hR : mz_rok R 342)  (s1 : Int32) (s2 : Bool) (v1 : Int32) (v2 : Int32) (v6 : Int64) (N : mz_N) {C0 : (Bool × mz_N) → Prop} (hr : ∀ (w : Bool) (N2 : mz_N), C0 (w, N2) → Q (.inl (some (.int (mz_b01 w)))) (mz_k S R N2 b t)) (hp : cp_411_83 s1 s2 v1 v2 v6 N) (hC : C0 (cf_411_83 s1 s2 v1 v2 v6 N)) : mz_G (d, mz_X0 L xs, some .boolean, [], mk_411, 11, Q) 83 mt_411_83 [(0, .ref 232), (1, .int v1), (2, .int v2), (6, .long v6)] [.int (mz_b01 s2), .int s1, .ref 341] false (mz_k S R N b t) := by
  unfold cf_411_83 at hC
  unfold cp_411_83 at hp
  obtain ⟨h1, hp⟩ := hp
  refine g_bast (mz_at hS (Nat.le_of_ble_eq_true rfl) mzcS_341) h1 (g_aload_n rfl (g_getR (mz_at hS (Nat.le_of_ble_eq_true rfl) mzcS_232) mzcf_12_159 (mz_rb hR (Nat.le_of_ble_eq_true rfl) rfl mzcR_232_159) (g_iconst mzi_4 (g_iconst mzi_4 (g_iload_n rfl (g_i2l ?_))))))
  obtain ⟨h2, hp⟩ := hp
  refine g_s4n (Nat.le_of_ble_eq_true rfl) (fun _ hq => cs_412 (Nat.le_trans (Nat.le_of_ble_eq_true rfl) hd) (hS.le (Nat.le_of_ble_eq_true rfl)) (hR.le (Nat.le_of_ble_eq_true rfl)) 341 48 (mz_at hS (Nat.le_of_ble_eq_true rfl) mzcS_341) 4 4 v2.toInt64 (mz_wI N 341 s1 (mz_nb (mz_b01 s2))) h2 hq) (g_aload_n rfl (g_getR (mz_at hS (Nat.le_of_ble_eq_true rfl) mzcS_232) mzcf_12_159 (mz_rb hR (Nat.le_of_ble_eq_true rfl) rfl mzcR_232_159) (g_bipush mzb_8 (g_iconst mzi_4 (g_lload rfl ?_)))))
  obtain ⟨h3, hp⟩ := hp
  refine g_s4n (Nat.le_of_ble_eq_true rfl) (fun _ hq => cs_412 (Nat.le_trans (Nat.le_of_ble_eq_true rfl) hd) (hS.le (Nat.le_of_ble_eq_true rfl)) (hR.le (Nat.le_of_ble_eq_true rfl)) 341 48 (mz_at hS (Nat.le_of_ble_eq_true rfl) mzcS_341) 8 4 v6 (cf_412_0 341 48 4 4 v2.toInt64 (mz_wI N 341 s1 (mz_nb (mz_b01 s2)))) h3 hq) ?_
  refine g_weak ?_ (g_cl (cg_411_107 hd hS hR v1 v2 (cf_412_0 341 48 8 4 v6 (cf_412_0 341 48 4 4 v2.toInt64 (mz_wI N 341 s1 (mz_nb (mz_b01 s2))))) hr hp hC))
  exact ⟨rfl, rfl, rfl, trivial⟩
theorem cb_411_3 (hd : 1 ≤ d) (hS : mz_ext S 342) (hR : mz_rok R 342)  (v1 : Int32) (v2 : Int32) (v3 : Int32) (v4 : Int32) (v5 : Bool) (v6 : Int64) (s : Int32 × mz_N) {C0 : (Bool × mz_N) → Prop} (hr : ∀ (w : Bool) (N2 : mz_N), C0 (w, N2) → Q (.inl (some (.int (mz_b01 w)))) (mz_k S R N2 b t)) {C1 : ((Int32 × mz_N) ⊕ (Bool × mz_N)) → Prop} (hc1 : ∀ s2, C1 (.inl s2) → mz_G (d, mz_X0 L xs, some .boolean, [], mk_411, 11, Q) 3 mt_411_3 [(0, .ref 232), (1, .int v1), (2, .int v2), (3, .int v3), (4, .int v4), (5, .int (mz_b01 v5)), (6, .long v6), (8, .int s2.1)] [] false (mz_k S R s2.2 b t)) (hx1 : ∀ z, C1 (.inr z) → C0 z) (hp : cd_411_3 v1 v2 v3 v4 v5 v6 s) (hC : C1 (cq_411_3 v1 v2 v3 v4 v5 v6 s)) : mz_G (d, mz_X0 L xs, some .boolean, [], mk_411, 11, Q) 3 mt_411_3 [(0, .ref 232), (1, .int v1), (2, .int v2), (3, .int v3), (4, .int v4), (5, .int (mz_b01 v5)), (6, .long v6), (8, .int s.1)] [] false (mz_k S R s.2 b t) := by
  unfold cq_411_3 at hC
  unfold cd_411_3 at hp
  refine g_iload rfl (g_bipush mzb_48 ?_)
  refine g_icge (tg := 51) rfl ms_411_51 hC (fun h1 hC => ?_) (fun h1 hC => ?_)
  · have hp := hp.1 h1
    refine g_aload_n rfl (g_getR (mz_at hS (Nat.le_of_ble_eq_true rfl) mzcS_232) mzcf_12_159 (mz_rb hR (Nat.le_of_ble_eq_true rfl) rfl mzcR_232_159) (g_iload rfl (g_iload rfl (g_bipush mzb_12 ?_))))
    refine g_iclt (tg := 43) rfl ms_411_43 hC (fun h2 hC => ?_) (fun h2 hC => ?_)
    · have hp := hp.1 h2
      refine g_weak ?_ (g_cl (cg_411_43 hd hS hR s.1 v1 v2 v3 v4 v5 v6 s.1 s.2 hr hc1 hx1 hp hC))
      exact ⟨rfl, rfl, rfl, rfl, rfl, rfl, rfl, rfl, trivial⟩
    · have hp := hp.2 h2
      refine g_iload rfl (g_bipush mzb_40 ?_)
      refine g_icge (tg := 43) rfl ms_411_43 hC (fun h3 hC => ?_) (fun h3 hC => ?_)
      · have hp := hp.1 h3
        refine g_aload_n rfl (g_getR (mz_at hS (Nat.le_of_ble_eq_true rfl) mzcS_232) mzcf_12_132 (mz_rb hR (Nat.le_of_ble_eq_true rfl) rfl mzcR_232_132) (g_iload rfl (g_bipush mzb_12 (g_isub ?_))))
        obtain ⟨h4, hp⟩ := hp
        refine g_bald (mz_at hS (Nat.le_of_ble_eq_true rfl) mzcS_332) h4 (g_goto (tg := 44) rfl ms_411_44 ?_)
        refine g_weak ?_ (g_cl (cg_411_44 hd hS hR s.1 (mz_gI s.2 332 (s.1 - 12)) v1 v2 v3 v4 v5 v6 s.1 s.2 hr hc1 hx1 hp hC))
        exact ⟨rfl, rfl, rfl, rfl, rfl, rfl, rfl, rfl, trivial⟩
      · have hp := hp.2 h3
        refine g_weak ?_ (g_cl (cg_411_43 hd hS hR s.1 v1 v2 v3 v4 v5 v6 s.1 s.2 hr hc1 hx1 hp hC))
        exact ⟨rfl, rfl, rfl, rfl, rfl, rfl, rfl, rfl, trivial⟩
  · have hp := hp.2 h1
    refine g_aload_n rfl (g_getR (mz_at hS (Nat.le_of_ble_eq_true rfl) mzcS_232) mzcf_12_159 (mz_rb hR (Nat.le_of_ble_eq_true rfl) rfl mzcR_232_159) (g_iconst mzi_0 (g_iload_n rfl (g_i2b (g_bast (mz_at hS (Nat.le_of_ble_eq_true rfl) mzcS_341) (mz_ibd (by decide)) (g_aload_n rfl (g_getR (mz_at hS (Nat.le_of_ble_eq_true rfl) mzcS_232) mzcf_12_159 (mz_rb hR (Nat.le_of_ble_eq_true rfl) rfl mzcR_232_159) ?_)))))))
    refine g_iconst mzi_1 (g_iload rfl (g_i2b (g_bast (mz_at hS (Nat.le_of_ble_eq_true rfl) mzcS_341) (mz_ibd (by decide)) (g_aload_n rfl (g_getR (mz_at hS (Nat.le_of_ble_eq_true rfl) mzcS_232) mzcf_12_159 (mz_rb hR (Nat.le_of_ble_eq_true rfl) rfl mzcR_232_159) (g_iconst mzi_2 (g_iload rfl ?_)))))))
    refine g_zeq (tg := 82) rfl ms_411_82 hC (fun h5 hC => ?_) (fun h5 hC => ?_)
    · have hp := hp.1 h5
      refine g_iconst mzi_1 (g_goto (tg := 83) rfl ms_411_83 ?_)
      refine g_weak ?_ (g_cl (cg_411_83 hd hS hR 2 true v1 v2 v6 (mz_wI (mz_wI s.2 341 0 (mz_nb (mz_i2b v3))) 341 1 (mz_nb (mz_i2b v4))) hr hp (hx1 _ hC)))
      exact ⟨rfl, rfl, rfl, rfl, trivial⟩
    · have hp := hp.2 h5
      refine g_iconst mzi_0 ?_
      refine g_weak ?_ (g_cl (cg_411_83 hd hS hR 2 false v1 v2 v6 (mz_wI (mz_wI s.2 341 0 (mz_nb (mz_i2b v3))) 341 1 (mz_nb (mz_i2b v4))) hr hp (hx1 _ hC)))
      exact ⟨rfl, rfl, rfl, rfl, trivial⟩
theorem cg_411_3 (hd : 1 ≤ d) (hS : mz_ext S 342) (hR : mz_rok R 342)  (v1 : Int32) (v2 : Int32) (v3 : Int32) (v4 : Int32) (v5 : Bool) (v6 : Int64) (v8 : Int32) (N : mz_N) {C0 : (Bool × mz_N) → Prop} (hr : ∀ (w : Bool) (N2 : mz_N), C0 (w, N2) → Q (.inl (some (.int (mz_b01 w)))) (mz_k S R N2 b t)) (hp : cp_411_3 v1 v2 v3 v4 v5 v6 v8 N) (hC : C0 (cf_411_3 v1 v2 v3 v4 v5 v6 v8 N)) : mz_G (d, mz_X0 L xs, some .boolean, [], mk_411, 11, Q) 3 mt_411_3 [(0, .ref 232), (1, .int v1), (2, .int v2), (3, .int v3), (4, .int v4), (5, .int (mz_b01 v5)), (6, .long v6), (8, .int v8)] [] false (mz_k S R N b t) := by
  obtain ⟨n, hn⟩ := hp
  exact g_loop (G := fun s => mz_G (d, mz_X0 L xs, some .boolean, [], mk_411, 11, Q) 3 mt_411_3 [(0, .ref 232), (1, .int v1), (2, .int v2), (3, .int v3), (4, .int v4), (5, .int (mz_b01 v5)), (6, .long v6), (8, .int s.1)] [] false (mz_k S R s.2 b t)) (C := C0) (fun C2 hc hx s hP hC => cb_411_3 hd hS hR v1 v2 v3 v4 v5 v6 s hr hc hx hP hC) n (v8, N) hn hC
theorem cg_411_0 (hd : 1 ≤ d) (hS : mz_ext S 342) (hR : mz_rok R 342)  (v1 : Int32) (v2 : Int32) (v3 : Int32) (v4 : Int32) (v5 : Bool) (v6 : Int64) (N : mz_N) {C0 : (Bool × mz_N) → Prop} (hr : ∀ (w : Bool) (N2 : mz_N), C0 (w, N2) → Q (.inl (some (.int (mz_b01 w)))) (mz_k S R N2 b t)) (hp : cp_411_0 v1 v2 v3 v4 v5 v6 N) (hC : C0 (cf_411_0 v1 v2 v3 v4 v5 v6 N)) : mz_G (d, mz_X0 L xs, some .boolean, [], mk_411, 11, Q) 0 mk_411 [(0, .ref 232), (1, .int v1), (2, .int v2), (3, .int v3), (4, .int v4), (5, .int (mz_b01 v5)), (6, .long v6)] [] true (mz_k S R N b t) := by
  unfold cf_411_0 at hC
  unfold cp_411_0 at hp
  refine g_iconst mzi_0 (g_istore (Nat.le_of_ble_eq_true rfl) rfl ?_)
  refine g_weak ?_ (g_cl (cg_411_3 hd hS hR v1 v2 v3 v4 v5 v6 0 N hr hp hC))
  exact ⟨rfl, rfl, rfl, rfl, rfl, rfl, rfl, rfl, trivial⟩
theorem cs_411 (hd : 2 ≤ d) (hS : mz_ext S 342) (hR : mz_rok R 342)  (v1 : Int32) (v2 : Int32) (v3 : Int32) (v4 : Int32) (v5 : Bool) (v6 : Int64) (N : mz_N) (hp : cp_411_0 v1 v2 v3 v4 v5 v6 N) (hq : Q (.inl (some (.int (mz_b01 ((cf_411_0 v1 v2 v3 v4 v5 v6 N).1))))) (mz_k S R ((cf_411_0 v1 v2 v3 v4 v5 v6 N).2) b t)) : mz_Ed (mz_X0 L xs) d 411 [.ref 232, .int v1, .int v2, .int v3, .int v4, .int (mz_b01 v5), .long v6] (mz_k S R N b t) Q :=
  by
  refine g_in mzq_411 (Nat.le_of_ble_eq_true rfl) (Nat.le_of_ble_eq_true rfl) (Nat.le_trans (Nat.le_of_ble_eq_true rfl) hd) ?_
  refine g_weak ?_ (cg_411_0 (d := d - 1) (by omega) hS hR v1 v2 v3 v4 v5 v6 N (C0 := fun z => Q (.inl (some (.int (mz_b01 z.1)))) (mz_k S R z.2 b t)) (fun _ _ h => h) hp hq)
  exact ⟨rfl, rfl, rfl, rfl, rfl, rfl, rfl, trivial⟩
/-! 409 KeptHouseModel.writeHead (IJJ)Z -/
theorem ms_409_0 : mz_sf mk_409 0 = mk_409 := mz_sf_zero _
theorem ms_409_3 : mz_sf mk_409 3 = mt_409_3 := mz_sf_add ms_409_0 (t := 3) rfl rfl
theorem ms_409_24 : mz_sf mk_409 24 = mt_409_24 := mz_sf_add ms_409_3 (t := 21) rfl rfl
set_option maxRecDepth 100000 in
theorem mzq_409 : mz_PG0 409 = some (12, ⟨"KeptHouseModel", "writeHead", "(IJJ)Z"⟩, prog_14_method_172_code, 7, some .boolean, [], mk_409, []) := rfl
theorem cb_409_3 (hd : 2 ≤ d) (hS : mz_ext S 342) (hR : mz_rok R 342)  (v1 : Int32) (v2 : Int64) (v4 : Int64) (s : Int32 × mz_N) {C0 : (Bool × mz_N) → Prop} (hr : ∀ (w : Bool) (N2 : mz_N), C0 (w, N2) → Q (.inl (some (.int (mz_b01 w)))) (mz_k S R N2 b t)) {C1 : ((Int32 × mz_N) ⊕ (Bool × mz_N)) → Prop} (hc1 : ∀ s2, C1 (.inl s2) → mz_G (d, mz_X0 L xs, some .boolean, [], mk_409, 7, Q) 3 mt_409_3 [(0, .ref 232), (1, .int v1), (2, .long v2), (4, .long v4), (6, .int s2.1)] [] false (mz_k S R s2.2 b t)) (hx1 : ∀ z, C1 (.inr z) → C0 z) (hp : cd_409_3 v1 v2 v4 s) (hC : C1 (cq_409_3 v1 v2 v4 s)) : mz_G (d, mz_X0 L xs, some .boolean, [], mk_409, 7, Q) 3 mt_409_3 [(0, .ref 232), (1, .int v1), (2, .long v2), (4, .long v4), (6, .int s.1)] [] false (mz_k S R s.2 b t) := by
  unfold cq_409_3 at hC
  unfold cd_409_3 at hp
  refine g_iload rfl (g_bipush mzb_28 ?_)
  refine g_icge (tg := 24) rfl ms_409_24 hC (fun h1 hC => ?_) (fun h1 hC => ?_)
  · have hp := hp.1 h1
    refine g_aload_n rfl (g_getR (mz_at hS (Nat.le_of_ble_eq_true rfl) mzcS_232) mzcf_12_132 (mz_rb hR (Nat.le_of_ble_eq_true rfl) rfl mzcR_232_132) (g_iload rfl (g_iconst mzi_0 ?_)))
    have h2 := hp
    refine g_bast (mz_at hS (Nat.le_of_ble_eq_true rfl) mzcS_332) h2 (g_iinc rfl mzi_1 (Nat.le_of_ble_eq_true rfl) rfl (g_goto (tg := 3) rfl ms_409_3 ?_))
    refine g_weak ?_ (g_cl (hc1 ((s.1 + 1), mz_wI s.2 332 s.1 (mz_nb 0)) hC))
    exact ⟨rfl, rfl, rfl, rfl, rfl, trivial⟩
  · have hp := hp.2 h1
    refine g_aload_n rfl (g_iconst mzi_0 (g_iconst mzi_4 (g_lload_n rfl ?_)))
    obtain ⟨h3, hp⟩ := hp
    refine g_v4n (Nat.le_of_ble_eq_true rfl) (mz_at hS (Nat.le_of_ble_eq_true rfl) mzcS_232) (fun _ hq => cs_410 (Nat.le_trans (Nat.le_of_ble_eq_true rfl) hd) (hS.le (Nat.le_of_ble_eq_true rfl)) (hR.le (Nat.le_of_ble_eq_true rfl))  0 4 v2 s.2 h3 hq) (g_aload_n rfl (g_iload_n rfl (g_iconst mzi_0 (g_iconst mzi_0 (g_iconst mzi_0 (g_iconst mzi_1 (g_lload rfl ?_)))))))
    have h4 := hp
    refine g_v7v (Nat.le_of_ble_eq_true rfl) (mz_at hS (Nat.le_of_ble_eq_true rfl) mzcS_232) (fun _ hq => cs_411 (Nat.le_trans (Nat.le_of_ble_eq_true rfl) hd) (hS.le (Nat.le_of_ble_eq_true rfl)) (hR.le (Nat.le_of_ble_eq_true rfl))  v1 0 0 0 true v4 (cf_410_0 0 4 v2 s.2) h4 hq) ?_
    exact g_zret (z := ((cf_411_0 v1 0 0 0 true v4 (cf_410_0 0 4 v2 s.2)).1)) rfl (hr _ _ (hx1 _ hC))
theorem cg_409_3 (hd : 2 ≤ d) (hS : mz_ext S 342) (hR : mz_rok R 342)  (v1 : Int32) (v2 : Int64) (v4 : Int64) (v6 : Int32) (N : mz_N) {C0 : (Bool × mz_N) → Prop} (hr : ∀ (w : Bool) (N2 : mz_N), C0 (w, N2) → Q (.inl (some (.int (mz_b01 w)))) (mz_k S R N2 b t)) (hp : cp_409_3 v1 v2 v4 v6 N) (hC : C0 (cf_409_3 v1 v2 v4 v6 N)) : mz_G (d, mz_X0 L xs, some .boolean, [], mk_409, 7, Q) 3 mt_409_3 [(0, .ref 232), (1, .int v1), (2, .long v2), (4, .long v4), (6, .int v6)] [] false (mz_k S R N b t) := by
  obtain ⟨n, hn⟩ := hp
  exact g_loop (G := fun s => mz_G (d, mz_X0 L xs, some .boolean, [], mk_409, 7, Q) 3 mt_409_3 [(0, .ref 232), (1, .int v1), (2, .long v2), (4, .long v4), (6, .int s.1)] [] false (mz_k S R s.2 b t)) (C := C0) (fun C2 hc hx s hP hC => cb_409_3 hd hS hR v1 v2 v4 s hr hc hx hP hC) n (v6, N) hn hC
theorem cg_409_0 (hd : 2 ≤ d) (hS : mz_ext S 342) (hR : mz_rok R 342)  (v1 : Int32) (v2 : Int64) (v4 : Int64) (N : mz_N) {C0 : (Bool × mz_N) → Prop} (hr : ∀ (w : Bool) (N2 : mz_N), C0 (w, N2) → Q (.inl (some (.int (mz_b01 w)))) (mz_k S R N2 b t)) (hp : cp_409_0 v1 v2 v4 N) (hC : C0 (cf_409_0 v1 v2 v4 N)) : mz_G (d, mz_X0 L xs, some .boolean, [], mk_409, 7, Q) 0 mk_409 [(0, .ref 232), (1, .int v1), (2, .long v2), (4, .long v4)] [] true (mz_k S R N b t) := by
  unfold cf_409_0 at hC
  unfold cp_409_0 at hp
  refine g_iconst mzi_0 (g_istore (Nat.le_of_ble_eq_true rfl) rfl ?_)
  refine g_weak ?_ (g_cl (cg_409_3 hd hS hR v1 v2 v4 0 N hr hp hC))
  exact ⟨rfl, rfl, rfl, rfl, rfl, trivial⟩
theorem cs_409 (hd : 3 ≤ d) (hS : mz_ext S 342) (hR : mz_rok R 342)  (v1 : Int32) (v2 : Int64) (v4 : Int64) (N : mz_N) (hp : cp_409_0 v1 v2 v4 N) (hq : Q (.inl (some (.int (mz_b01 ((cf_409_0 v1 v2 v4 N).1))))) (mz_k S R ((cf_409_0 v1 v2 v4 N).2) b t)) : mz_Ed (mz_X0 L xs) d 409 [.ref 232, .int v1, .long v2, .long v4] (mz_k S R N b t) Q :=
  by
  refine g_in mzq_409 (Nat.le_of_ble_eq_true rfl) (Nat.le_of_ble_eq_true rfl) (Nat.le_trans (Nat.le_of_ble_eq_true rfl) hd) ?_
  refine g_weak ?_ (cg_409_0 (d := d - 1) (by omega) hS hR v1 v2 v4 N (C0 := fun z => Q (.inl (some (.int (mz_b01 z.1)))) (mz_k S R z.2 b t)) (fun _ _ h => h) hp hq)
  exact ⟨rfl, rfl, rfl, rfl, trivial⟩
/-! 417 KeptHouseModel.isBorder (I)Z -/
theorem ms_417_0 : mz_sf mk_417 0 = mk_417 := mz_sf_zero _
theorem ms_417_22 : mz_sf mk_417 22 = mt_417_22 := mz_sf_add ms_417_0 (t := 22) rfl rfl
theorem ms_417_26 : mz_sf mk_417 26 = mt_417_26 := mz_sf_add ms_417_22 (t := 4) rfl rfl
theorem ms_417_30 : mz_sf mk_417 30 = mt_417_30 := mz_sf_add ms_417_26 (t := 4) rfl rfl
theorem ms_417_42 : mz_sf mk_417 42 = mt_417_42 := mz_sf_add ms_417_30 (t := 12) rfl rfl
theorem ms_417_46 : mz_sf mk_417 46 = mt_417_46 := mz_sf_add ms_417_42 (t := 4) rfl rfl
theorem ms_417_47 : mz_sf mk_417 47 = mt_417_47 := mz_sf_add ms_417_46 (t := 1) rfl rfl
set_option maxRecDepth 100000 in
theorem mzq_417 : mz_PG0 417 = some (12, ⟨"KeptHouseModel", "isBorder", "(I)Z"⟩, prog_14_method_7_code, 1, some .boolean, [], mk_417, []) := rfl
theorem cg_417_0 (hd : 0 ≤ d) (hS : mz_ext S 342) (hR : mz_rok R 342)  (v0 : Int32) {C0 : (Bool) → Prop} (hr : ∀ (w : Bool), C0 w → Q (.inl (some (.int (mz_b01 w)))) (mz_k S R N b t)) (hp : cp_417_0 v0) (hC : C0 (cf_417_0 v0)) : mz_G (d, mz_X0 L xs, some .boolean, [], mk_417, 1, Q) 0 mk_417 [(0, .int v0)] [] true (mz_k S R N b t) := by
  unfold cf_417_0 at hC
  unfold cp_417_0 at hp
  refine g_iload_n rfl (g_bipush mzb_54 ?_)
  refine g_icge (tg := 30) rfl ms_417_30 hC (fun h1 hC => ?_) (fun h1 hC => ?_)
  · refine g_iload_n rfl (g_bipush mzb_9 (g_irem (by decide) ?_))
    refine g_ifeq (tg := 22) rfl ms_417_22 hC (fun h2 hC => ?_) (fun h2 hC => ?_)
    · refine g_iconst mzi_1 (g_goto (tg := 47) rfl ms_417_47 ?_)
      exact g_zret (z := true) rfl (hr _ hC)
    · refine g_iload_n rfl (g_bipush mzb_9 (g_irem (by decide) (g_bipush mzb_8 ?_)))
      refine g_icne (tg := 26) rfl ms_417_26 hC (fun h3 hC => ?_) (fun h3 hC => ?_)
      · refine g_iconst mzi_1 (g_goto (tg := 47) rfl ms_417_47 ?_)
        exact g_zret (z := true) rfl (hr _ hC)
      · refine g_iconst mzi_0 (g_goto (tg := 47) rfl ms_417_47 ?_)
        exact g_zret (z := false) rfl (hr _ hC)
  · refine g_iload_n rfl (g_bipush mzb_62 ?_)
    refine g_iclt (tg := 42) rfl ms_417_42 hC (fun h4 hC => ?_) (fun h4 hC => ?_)
    · refine g_iconst mzi_1 (g_goto (tg := 47) rfl ms_417_47 ?_)
      exact g_zret (z := true) rfl (hr _ hC)
    · refine g_iload_n rfl (g_bipush mzb_101 ?_)
      refine g_icle (tg := 46) rfl ms_417_46 hC (fun h5 hC => ?_) (fun h5 hC => ?_)
      · refine g_iconst mzi_1 (g_goto (tg := 47) rfl ms_417_47 ?_)
        exact g_zret (z := true) rfl (hr _ hC)
      · refine g_iconst mzi_0 ?_
        exact g_zret (z := false) rfl (hr _ hC)
theorem cs_417 (hd : 1 ≤ d) (hS : mz_ext S 342) (hR : mz_rok R 342)  (v0 : Int32) (hp : cp_417_0 v0) (hq : Q (.inl (some (.int (mz_b01 (cf_417_0 v0))))) (mz_k S R N b t)) : mz_Ed (mz_X0 L xs) d 417 [.int v0] (mz_k S R N b t) Q :=
  by
  refine g_in mzq_417 (Nat.le_of_ble_eq_true rfl) (Nat.le_of_ble_eq_true rfl) (Nat.le_trans (Nat.le_of_ble_eq_true rfl) hd) ?_
  refine g_weak ?_ (cg_417_0 (d := d - 1) (by omega) hS hR v0 (C0 := fun z => Q (.inl (some (.int (mz_b01 z)))) (mz_k S R N b t)) (fun _ h => h) hp hq)
  exact ⟨rfl, trivial⟩
/-! 416 KeptHouseModel.firstPlan (I)V -/
theorem ms_416_0 : mz_sf mk_416 0 = mk_416 := mz_sf_zero _
theorem ms_416_2 : mz_sf mk_416 2 = mt_416_2 := mz_sf_add ms_416_0 (t := 2) rfl rfl
theorem ms_416_34 : mz_sf mk_416 34 = mt_416_34 := mz_sf_add ms_416_2 (t := 32) rfl rfl
theorem ms_416_35 : mz_sf mk_416 35 = mt_416_35 := mz_sf_add ms_416_34 (t := 1) rfl rfl
theorem ms_416_42 : mz_sf mk_416 42 = mt_416_42 := mz_sf_add ms_416_35 (t := 7) rfl rfl
set_option maxRecDepth 100000 in
theorem mzq_416 : mz_PG0 416 = some (12, ⟨"KeptHouseModel", "firstPlan", "(I)V"⟩, prog_14_method_187_code, 3, none, [], mk_416, []) := rfl
theorem cg_416_35 (hd : 1 ≤ d) (hS : mz_ext S 342) (hR : mz_rok R 342)  (s1 : Int32) (s2 : Int32) (v1 : Int32) (v2 : Int32) (N : mz_N) {C0 : (mz_N) → Prop} (hr : ∀ (N2 : mz_N), C0 N2 → Q (.inl none) (mz_k S R N2 b t)) {C1 : ((Int32 × mz_N) ⊕ (mz_N)) → Prop} (hc1 : ∀ s2, C1 (.inl s2) → mz_G (d, mz_X0 L xs, none, [], mk_416, 3, Q) 2 mt_416_2 [(0, .ref 232), (1, .int v1), (2, .int s2.1)] [] false (mz_k S R s2.2 b t)) (hx1 : ∀ z, C1 (.inr z) → C0 z) (hp : cp_416_35 s1 s2 v1 v2 N) (hC : C1 (cf_416_35 s1 s2 v1 v2 N)) : mz_G (d, mz_X0 L xs, none, [], mk_416, 3, Q) 35 mt_416_35 [(0, .ref 232), (1, .int v1), (2, .int v2)] [.int s2, .int s1, .ref 233] false (mz_k S R N b t) := by
  unfold cf_416_35 at hC
  unfold cp_416_35 at hp
  have h1 := hp
  refine g_iast (mz_at hS (Nat.le_of_ble_eq_true rfl) mzcS_233) h1 (g_iinc rfl mzi_1 (Nat.le_of_ble_eq_true rfl) rfl (g_goto (tg := 2) rfl ms_416_2 ?_))
  refine g_weak ?_ (g_cl (hc1 ((v2 + 1), mz_wI N 233 s1 s2) hC))
  exact ⟨rfl, rfl, rfl, trivial⟩
theorem cb_416_2 (hd : 1 ≤ d) (hS : mz_ext S 342) (hR : mz_rok R 342)  (v1 : Int32) (s : Int32 × mz_N) {C0 : (mz_N) → Prop} (hr : ∀ (N2 : mz_N), C0 N2 → Q (.inl none) (mz_k S R N2 b t)) {C1 : ((Int32 × mz_N) ⊕ (mz_N)) → Prop} (hc1 : ∀ s2, C1 (.inl s2) → mz_G (d, mz_X0 L xs, none, [], mk_416, 3, Q) 2 mt_416_2 [(0, .ref 232), (1, .int v1), (2, .int s2.1)] [] false (mz_k S R s2.2 b t)) (hx1 : ∀ z, C1 (.inr z) → C0 z) (hp : cd_416_2 v1 s) (hC : C1 (cq_416_2 v1 s)) : mz_G (d, mz_X0 L xs, none, [], mk_416, 3, Q) 2 mt_416_2 [(0, .ref 232), (1, .int v1), (2, .int s.1)] [] false (mz_k S R s.2 b t) := by
  unfold cq_416_2 at hC
  unfold cd_416_2 at hp
  refine g_iload_n rfl (g_sipush mzs_550 ?_)
  refine g_icge (tg := 42) rfl ms_416_42 hC (fun h1 hC => ?_) (fun h1 hC => ?_)
  · have hp := hp.1 h1
    refine g_aload_n rfl (g_getR (mz_at hS (Nat.le_of_ble_eq_true rfl) mzcS_232) mzcf_12_3 (mz_rb hR (Nat.le_of_ble_eq_true rfl) rfl mzcR_232_3) (g_sipush mzs_550 (g_iload_n rfl (g_imul (g_iload_n rfl (g_iadd (g_iload_n rfl ?_)))))))
    refine g_bipush mzb_110 (g_irem (by decide) ?_)
    refine g_s1v (Nat.le_of_ble_eq_true rfl) (fun _ hq => cs_417 (Nat.le_trans (Nat.le_of_ble_eq_true rfl) hd) (hS.le (Nat.le_of_ble_eq_true rfl)) (hR.le (Nat.le_of_ble_eq_true rfl))  (mz_irem s.1 110) trivial hq) ?_
    refine g_zeq (tg := 34) rfl ms_416_34 hC (fun h3 hC => ?_) (fun h3 hC => ?_)
    · have hp := hp.1 h3
      refine g_iconst mzi_2 (g_goto (tg := 35) rfl ms_416_35 ?_)
      refine g_weak ?_ (g_cl (cg_416_35 hd hS hR ((550 * v1) + s.1) 2 v1 s.1 s.2 hr hc1 hx1 hp hC))
      exact ⟨rfl, rfl, rfl, trivial⟩
    · have hp := hp.2 h3
      refine g_iconst mzi_0 ?_
      refine g_weak ?_ (g_cl (cg_416_35 hd hS hR ((550 * v1) + s.1) 0 v1 s.1 s.2 hr hc1 hx1 hp hC))
      exact ⟨rfl, rfl, rfl, trivial⟩
  · have hp := hp.2 h1
    exact g_vret rfl (hr _ (hx1 _ hC))
theorem cg_416_2 (hd : 1 ≤ d) (hS : mz_ext S 342) (hR : mz_rok R 342)  (v1 : Int32) (v2 : Int32) (N : mz_N) {C0 : (mz_N) → Prop} (hr : ∀ (N2 : mz_N), C0 N2 → Q (.inl none) (mz_k S R N2 b t)) (hp : cp_416_2 v1 v2 N) (hC : C0 (cf_416_2 v1 v2 N)) : mz_G (d, mz_X0 L xs, none, [], mk_416, 3, Q) 2 mt_416_2 [(0, .ref 232), (1, .int v1), (2, .int v2)] [] false (mz_k S R N b t) := by
  obtain ⟨n, hn⟩ := hp
  exact g_loop (G := fun s => mz_G (d, mz_X0 L xs, none, [], mk_416, 3, Q) 2 mt_416_2 [(0, .ref 232), (1, .int v1), (2, .int s.1)] [] false (mz_k S R s.2 b t)) (C := C0) (fun C2 hc hx s hP hC => cb_416_2 hd hS hR v1 s hr hc hx hP hC) n (v2, N) hn hC
theorem cg_416_0 (hd : 1 ≤ d) (hS : mz_ext S 342) (hR : mz_rok R 342)  (v1 : Int32) (N : mz_N) {C0 : (mz_N) → Prop} (hr : ∀ (N2 : mz_N), C0 N2 → Q (.inl none) (mz_k S R N2 b t)) (hp : cp_416_0 v1 N) (hC : C0 (cf_416_0 v1 N)) : mz_G (d, mz_X0 L xs, none, [], mk_416, 3, Q) 0 mk_416 [(0, .ref 232), (1, .int v1)] [] true (mz_k S R N b t) := by
  unfold cf_416_0 at hC
  unfold cp_416_0 at hp
  refine g_iconst mzi_0 (g_istore_n (Nat.le_of_ble_eq_true rfl) rfl ?_)
  refine g_weak ?_ (g_cl (cg_416_2 hd hS hR v1 0 N hr hp hC))
  exact ⟨rfl, rfl, rfl, trivial⟩
theorem cs_416 (hd : 2 ≤ d) (hS : mz_ext S 342) (hR : mz_rok R 342)  (v1 : Int32) (N : mz_N) (hp : cp_416_0 v1 N) (hq : Q (.inl none) (mz_k S R (cf_416_0 v1 N) b t)) : mz_Ed (mz_X0 L xs) d 416 [.ref 232, .int v1] (mz_k S R N b t) Q :=
  by
  refine g_in mzq_416 (Nat.le_of_ble_eq_true rfl) (Nat.le_of_ble_eq_true rfl) (Nat.le_trans (Nat.le_of_ble_eq_true rfl) hd) ?_
  refine g_weak ?_ (cg_416_0 (d := d - 1) (by omega) hS hR v1 N (C0 := fun z => Q (.inl none) (mz_k S R z b t)) (fun _ h => h) hp hq)
  exact ⟨rfl, rfl, trivial⟩
/-! 418 KeptHouseModel.firstNumbers ()V -/
theorem ms_418_0 : mz_sf mk_418 0 = mk_418 := mz_sf_zero _
theorem ms_418_20 : mz_sf mk_418 20 = mt_418_20 := mz_sf_add ms_418_0 (t := 20) rfl rfl
theorem ms_418_43 : mz_sf mk_418 43 = mt_418_43 := mz_sf_add ms_418_20 (t := 23) rfl rfl
theorem ms_418_69 : mz_sf mk_418 69 = mt_418_69 := mz_sf_add ms_418_43 (t := 26) rfl rfl
theorem ms_418_89 : mz_sf mk_418 89 = mt_418_89 := mz_sf_add ms_418_69 (t := 20) rfl rfl
theorem ms_418_109 : mz_sf mk_418 109 = mt_418_109 := mz_sf_add ms_418_89 (t := 20) rfl rfl
theorem ms_418_126 : mz_sf mk_418 126 = mt_418_126 := mz_sf_add ms_418_109 (t := 17) rfl rfl
theorem ms_418_145 : mz_sf mk_418 145 = mt_418_145 := mz_sf_add ms_418_126 (t := 19) rfl rfl
theorem ms_418_147 : mz_sf mk_418 147 = mt_418_147 := mz_sf_add ms_418_145 (t := 2) rfl rfl
theorem ms_418_167 : mz_sf mk_418 167 = mt_418_167 := mz_sf_add ms_418_147 (t := 20) rfl rfl
theorem ms_418_173 : mz_sf mk_418 173 = mt_418_173 := mz_sf_add ms_418_167 (t := 6) rfl rfl
theorem ms_418_175 : mz_sf mk_418 175 = mt_418_175 := mz_sf_add ms_418_173 (t := 2) rfl rfl
theorem ms_418_194 : mz_sf mk_418 194 = mt_418_194 := mz_sf_add ms_418_175 (t := 19) rfl rfl
theorem ms_418_196 : mz_sf mk_418 196 = mt_418_196 := mz_sf_add ms_418_194 (t := 2) rfl rfl
theorem ms_418_215 : mz_sf mk_418 215 = mt_418_215 := mz_sf_add ms_418_196 (t := 19) rfl rfl
theorem ms_418_217 : mz_sf mk_418 217 = mt_418_217 := mz_sf_add ms_418_215 (t := 2) rfl rfl
theorem ms_418_237 : mz_sf mk_418 237 = mt_418_237 := mz_sf_add ms_418_217 (t := 20) rfl rfl
theorem ms_418_243 : mz_sf mk_418 243 = mt_418_243 := mz_sf_add ms_418_237 (t := 6) rfl rfl
theorem ms_418_245 : mz_sf mk_418 245 = mt_418_245 := mz_sf_add ms_418_243 (t := 2) rfl rfl
theorem ms_418_266 : mz_sf mk_418 266 = mt_418_266 := mz_sf_add ms_418_245 (t := 21) rfl rfl
theorem ms_418_279 : mz_sf mk_418 279 = mt_418_279 := mz_sf_add ms_418_266 (t := 13) rfl rfl
set_option maxRecDepth 100000 in
theorem mzq_418 : mz_PG0 418 = some (12, ⟨"KeptHouseModel", "firstNumbers", "()V"⟩, prog_14_method_189_code, 2, none, [], mk_418, []) := rfl
theorem cb_418_245 (hd : 0 ≤ d) (hS : mz_ext S 342) (hR : mz_rok R 342)   (s : Int32 × mz_N) {C0 : (mz_N) → Prop} (hr : ∀ (N2 : mz_N), C0 N2 → Q (.inl none) (mz_k S R N2 b t)) {C1 : ((Int32 × mz_N) ⊕ (mz_N)) → Prop} (hc1 : ∀ s2, C1 (.inl s2) → mz_G (d, mz_X0 L xs, none, [], mk_418, 2, Q) 245 mt_418_245 [(0, .ref 232), (1, .int s2.1)] [] false (mz_k S R s2.2 b t)) (hx1 : ∀ z, C1 (.inr z) → C0 z) (hp : cd_418_245  s) (hC : C1 (cq_418_245  s)) : mz_G (d, mz_X0 L xs, none, [], mk_418, 2, Q) 245 mt_418_245 [(0, .ref 232), (1, .int s.1)] [] false (mz_k S R s.2 b t) := by
  unfold cq_418_245 at hC
  unfold cd_418_245 at hp
  refine g_iload_n rfl (g_iconst mzi_2 ?_)
  refine g_icge (tg := 279) rfl ms_418_279 hC (fun h1 hC => ?_) (fun h1 hC => ?_)
  · have hp := hp.1 h1
    refine g_aload_n rfl (g_getR (mz_at hS (Nat.le_of_ble_eq_true rfl) mzcS_232) mzcf_12_92 (mz_rb hR (Nat.le_of_ble_eq_true rfl) rfl mzcR_232_92) (g_iload_n rfl (g_con3 ?_)))
    obtain ⟨h2, hp⟩ := hp
    refine g_last (mz_at hS (Nat.le_of_ble_eq_true rfl) mzcS_298) h2 (g_aload_n rfl (g_getR (mz_at hS (Nat.le_of_ble_eq_true rfl) mzcS_232) mzcf_12_90 (mz_rb hR (Nat.le_of_ble_eq_true rfl) rfl mzcR_232_90) (g_iload_n rfl (g_iconst mzi_0 ?_))))
    obtain ⟨h3, hp⟩ := hp
    refine g_iast (mz_at hS (Nat.le_of_ble_eq_true rfl) mzcS_296) h3 (g_aload_n rfl (g_getR (mz_at hS (Nat.le_of_ble_eq_true rfl) mzcS_232) mzcf_12_91 (mz_rb hR (Nat.le_of_ble_eq_true rfl) rfl mzcR_232_91) (g_iload_n rfl (g_iconst mzi_0 ?_))))
    have h4 := hp
    refine g_iast (mz_at hS (Nat.le_of_ble_eq_true rfl) mzcS_297) h4 (g_iinc rfl mzi_1 (Nat.le_of_ble_eq_true rfl) rfl (g_goto (tg := 245) rfl ms_418_245 ?_))
    refine g_weak ?_ (g_cl (hc1 ((s.1 + 1), mz_wI (mz_wI (mz_wL s.2 298 s.1 (-1)) 296 s.1 0) 297 s.1 0) hC))
    exact ⟨rfl, rfl, trivial⟩
  · have hp := hp.2 h1
    exact g_vret rfl (hr _ (hx1 _ hC))
theorem cg_418_245 (hd : 0 ≤ d) (hS : mz_ext S 342) (hR : mz_rok R 342)  (v1 : Int32) (N : mz_N) {C0 : (mz_N) → Prop} (hr : ∀ (N2 : mz_N), C0 N2 → Q (.inl none) (mz_k S R N2 b t)) (hp : cp_418_245 v1 N) (hC : C0 (cf_418_245 v1 N)) : mz_G (d, mz_X0 L xs, none, [], mk_418, 2, Q) 245 mt_418_245 [(0, .ref 232), (1, .int v1)] [] false (mz_k S R N b t) := by
  obtain ⟨n, hn⟩ := hp
  exact g_loop (G := fun s => mz_G (d, mz_X0 L xs, none, [], mk_418, 2, Q) 245 mt_418_245 [(0, .ref 232), (1, .int s.1)] [] false (mz_k S R s.2 b t)) (C := C0) (fun C2 hc hx s hP hC => cb_418_245 hd hS hR  s hr hc hx hP hC) n (v1, N) hn hC
theorem cb_418_217 (hd : 0 ≤ d) (hS : mz_ext S 342) (hR : mz_rok R 342)   (s : Int32 × mz_N) {C0 : (mz_N) → Prop} (hr : ∀ (N2 : mz_N), C0 N2 → Q (.inl none) (mz_k S R N2 b t)) {C1 : ((Int32 × mz_N) ⊕ (mz_N)) → Prop} (hc1 : ∀ s2, C1 (.inl s2) → mz_G (d, mz_X0 L xs, none, [], mk_418, 2, Q) 217 mt_418_217 [(0, .ref 232), (1, .int s2.1)] [] false (mz_k S R s2.2 b t)) (hx1 : ∀ z, C1 (.inr z) → C0 z) (hp : cd_418_217  s) (hC : C1 (cq_418_217  s)) : mz_G (d, mz_X0 L xs, none, [], mk_418, 2, Q) 217 mt_418_217 [(0, .ref 232), (1, .int s.1)] [] false (mz_k S R s.2 b t) := by
  unfold cq_418_217 at hC
  unfold cd_418_217 at hp
  refine g_iload_n rfl (g_bipush mzb_40 ?_)
  refine g_icge (tg := 243) rfl ms_418_243 hC (fun h1 hC => ?_) (fun h1 hC => ?_)
  · have hp := hp.1 h1
    refine g_aload_n rfl (g_getR (mz_at hS (Nat.le_of_ble_eq_true rfl) mzcS_232) mzcf_12_106 (mz_rb hR (Nat.le_of_ble_eq_true rfl) rfl mzcR_232_106) (g_iload_n rfl (g_iconst mzi_0 ?_)))
    obtain ⟨h2, hp⟩ := hp
    refine g_zast (z := false) (mz_at hS (Nat.le_of_ble_eq_true rfl) mzcS_311) h2 (g_aload_n rfl (g_getR (mz_at hS (Nat.le_of_ble_eq_true rfl) mzcS_232) mzcf_12_111 (mz_rb hR (Nat.le_of_ble_eq_true rfl) rfl mzcR_232_111) (g_iload_n rfl (g_iconst mzi_m1 ?_))))
    have h3 := hp
    refine g_iast (mz_at hS (Nat.le_of_ble_eq_true rfl) mzcS_316) h3 (g_iinc rfl mzi_1 (Nat.le_of_ble_eq_true rfl) rfl (g_goto (tg := 217) rfl ms_418_217 ?_))
    refine g_weak ?_ (g_cl (hc1 ((s.1 + 1), mz_wI (mz_wI s.2 311 s.1 (mz_b01 false)) 316 s.1 (-1)) hC))
    exact ⟨rfl, rfl, trivial⟩
  · have hp := hp.2 h1
    refine g_iconst mzi_0 (g_istore_n (Nat.le_of_ble_eq_true rfl) rfl ?_)
    refine g_weak ?_ (g_cl (cg_418_245 hd hS hR 0 s.2 hr hp (hx1 _ hC)))
    exact ⟨rfl, rfl, trivial⟩
theorem cg_418_217 (hd : 0 ≤ d) (hS : mz_ext S 342) (hR : mz_rok R 342)  (v1 : Int32) (N : mz_N) {C0 : (mz_N) → Prop} (hr : ∀ (N2 : mz_N), C0 N2 → Q (.inl none) (mz_k S R N2 b t)) (hp : cp_418_217 v1 N) (hC : C0 (cf_418_217 v1 N)) : mz_G (d, mz_X0 L xs, none, [], mk_418, 2, Q) 217 mt_418_217 [(0, .ref 232), (1, .int v1)] [] false (mz_k S R N b t) := by
  obtain ⟨n, hn⟩ := hp
  exact g_loop (G := fun s => mz_G (d, mz_X0 L xs, none, [], mk_418, 2, Q) 217 mt_418_217 [(0, .ref 232), (1, .int s.1)] [] false (mz_k S R s.2 b t)) (C := C0) (fun C2 hc hx s hP hC => cb_418_217 hd hS hR  s hr hc hx hP hC) n (v1, N) hn hC
theorem cb_418_196 (hd : 0 ≤ d) (hS : mz_ext S 342) (hR : mz_rok R 342)   (s : Int32 × mz_N) {C0 : (mz_N) → Prop} (hr : ∀ (N2 : mz_N), C0 N2 → Q (.inl none) (mz_k S R N2 b t)) {C1 : ((Int32 × mz_N) ⊕ (mz_N)) → Prop} (hc1 : ∀ s2, C1 (.inl s2) → mz_G (d, mz_X0 L xs, none, [], mk_418, 2, Q) 196 mt_418_196 [(0, .ref 232), (1, .int s2.1)] [] false (mz_k S R s2.2 b t)) (hx1 : ∀ z, C1 (.inr z) → C0 z) (hp : cd_418_196  s) (hC : C1 (cq_418_196  s)) : mz_G (d, mz_X0 L xs, none, [], mk_418, 2, Q) 196 mt_418_196 [(0, .ref 232), (1, .int s.1)] [] false (mz_k S R s.2 b t) := by
  unfold cq_418_196 at hC
  unfold cd_418_196 at hp
  refine g_iload_n rfl (g_bipush mzb_20 ?_)
  refine g_icge (tg := 215) rfl ms_418_215 hC (fun h1 hC => ?_) (fun h1 hC => ?_)
  · have hp := hp.1 h1
    refine g_aload_n rfl (g_getR (mz_at hS (Nat.le_of_ble_eq_true rfl) mzcS_232) mzcf_12_103 (mz_rb hR (Nat.le_of_ble_eq_true rfl) rfl mzcR_232_103) (g_iload_n rfl (g_iconst mzi_0 ?_)))
    have h2 := hp
    refine g_zast (z := false) (mz_at hS (Nat.le_of_ble_eq_true rfl) mzcS_308) h2 (g_iinc rfl mzi_1 (Nat.le_of_ble_eq_true rfl) rfl (g_goto (tg := 196) rfl ms_418_196 ?_))
    refine g_weak ?_ (g_cl (hc1 ((s.1 + 1), mz_wI s.2 308 s.1 (mz_b01 false)) hC))
    exact ⟨rfl, rfl, trivial⟩
  · have hp := hp.2 h1
    refine g_iconst mzi_0 (g_istore_n (Nat.le_of_ble_eq_true rfl) rfl ?_)
    refine g_weak ?_ (g_cl (cg_418_217 hd hS hR 0 s.2 hr hp (hx1 _ hC)))
    exact ⟨rfl, rfl, trivial⟩
theorem cg_418_196 (hd : 0 ≤ d) (hS : mz_ext S 342) (hR : mz_rok R 342)  (v1 : Int32) (N : mz_N) {C0 : (mz_N) → Prop} (hr : ∀ (N2 : mz_N), C0 N2 → Q (.inl none) (mz_k S R N2 b t)) (hp : cp_418_196 v1 N) (hC : C0 (cf_418_196 v1 N)) : mz_G (d, mz_X0 L xs, none, [], mk_418, 2, Q) 196 mt_418_196 [(0, .ref 232), (1, .int v1)] [] false (mz_k S R N b t) := by
  obtain ⟨n, hn⟩ := hp
  exact g_loop (G := fun s => mz_G (d, mz_X0 L xs, none, [], mk_418, 2, Q) 196 mt_418_196 [(0, .ref 232), (1, .int s.1)] [] false (mz_k S R s.2 b t)) (C := C0) (fun C2 hc hx s hP hC => cb_418_196 hd hS hR  s hr hc hx hP hC) n (v1, N) hn hC
theorem cb_418_175 (hd : 0 ≤ d) (hS : mz_ext S 342) (hR : mz_rok R 342)   (s : Int32 × mz_N) {C0 : (mz_N) → Prop} (hr : ∀ (N2 : mz_N), C0 N2 → Q (.inl none) (mz_k S R N2 b t)) {C1 : ((Int32 × mz_N) ⊕ (mz_N)) → Prop} (hc1 : ∀ s2, C1 (.inl s2) → mz_G (d, mz_X0 L xs, none, [], mk_418, 2, Q) 175 mt_418_175 [(0, .ref 232), (1, .int s2.1)] [] false (mz_k S R s2.2 b t)) (hx1 : ∀ z, C1 (.inr z) → C0 z) (hp : cd_418_175  s) (hC : C1 (cq_418_175  s)) : mz_G (d, mz_X0 L xs, none, [], mk_418, 2, Q) 175 mt_418_175 [(0, .ref 232), (1, .int s.1)] [] false (mz_k S R s.2 b t) := by
  unfold cq_418_175 at hC
  unfold cd_418_175 at hp
  refine g_iload_n rfl (g_bipush mzb_16 ?_)
  refine g_icge (tg := 194) rfl ms_418_194 hC (fun h1 hC => ?_) (fun h1 hC => ?_)
  · have hp := hp.1 h1
    refine g_aload_n rfl (g_getR (mz_at hS (Nat.le_of_ble_eq_true rfl) mzcS_232) mzcf_12_80 (mz_rb hR (Nat.le_of_ble_eq_true rfl) rfl mzcR_232_80) (g_iload_n rfl (g_iconst mzi_0 ?_)))
    have h2 := hp
    refine g_zast (z := false) (mz_at hS (Nat.le_of_ble_eq_true rfl) mzcS_287) h2 (g_iinc rfl mzi_1 (Nat.le_of_ble_eq_true rfl) rfl (g_goto (tg := 175) rfl ms_418_175 ?_))
    refine g_weak ?_ (g_cl (hc1 ((s.1 + 1), mz_wI s.2 287 s.1 (mz_b01 false)) hC))
    exact ⟨rfl, rfl, trivial⟩
  · have hp := hp.2 h1
    refine g_iconst mzi_0 (g_istore_n (Nat.le_of_ble_eq_true rfl) rfl ?_)
    refine g_weak ?_ (g_cl (cg_418_196 hd hS hR 0 s.2 hr hp (hx1 _ hC)))
    exact ⟨rfl, rfl, trivial⟩
theorem cg_418_175 (hd : 0 ≤ d) (hS : mz_ext S 342) (hR : mz_rok R 342)  (v1 : Int32) (N : mz_N) {C0 : (mz_N) → Prop} (hr : ∀ (N2 : mz_N), C0 N2 → Q (.inl none) (mz_k S R N2 b t)) (hp : cp_418_175 v1 N) (hC : C0 (cf_418_175 v1 N)) : mz_G (d, mz_X0 L xs, none, [], mk_418, 2, Q) 175 mt_418_175 [(0, .ref 232), (1, .int v1)] [] false (mz_k S R N b t) := by
  obtain ⟨n, hn⟩ := hp
  exact g_loop (G := fun s => mz_G (d, mz_X0 L xs, none, [], mk_418, 2, Q) 175 mt_418_175 [(0, .ref 232), (1, .int s.1)] [] false (mz_k S R s.2 b t)) (C := C0) (fun C2 hc hx s hP hC => cb_418_175 hd hS hR  s hr hc hx hP hC) n (v1, N) hn hC
theorem cb_418_147 (hd : 0 ≤ d) (hS : mz_ext S 342) (hR : mz_rok R 342)   (s : Int32 × mz_N) {C0 : (mz_N) → Prop} (hr : ∀ (N2 : mz_N), C0 N2 → Q (.inl none) (mz_k S R N2 b t)) {C1 : ((Int32 × mz_N) ⊕ (mz_N)) → Prop} (hc1 : ∀ s2, C1 (.inl s2) → mz_G (d, mz_X0 L xs, none, [], mk_418, 2, Q) 147 mt_418_147 [(0, .ref 232), (1, .int s2.1)] [] false (mz_k S R s2.2 b t)) (hx1 : ∀ z, C1 (.inr z) → C0 z) (hp : cd_418_147  s) (hC : C1 (cq_418_147  s)) : mz_G (d, mz_X0 L xs, none, [], mk_418, 2, Q) 147 mt_418_147 [(0, .ref 232), (1, .int s.1)] [] false (mz_k S R s.2 b t) := by
  unfold cq_418_147 at hC
  unfold cd_418_147 at hp
  refine g_iload_n rfl (g_bipush mzb_8 ?_)
  refine g_icge (tg := 173) rfl ms_418_173 hC (fun h1 hC => ?_) (fun h1 hC => ?_)
  · have hp := hp.1 h1
    refine g_aload_n rfl (g_getR (mz_at hS (Nat.le_of_ble_eq_true rfl) mzcS_232) mzcf_12_75 (mz_rb hR (Nat.le_of_ble_eq_true rfl) rfl mzcR_232_75) (g_iload_n rfl (g_iconst mzi_0 ?_)))
    obtain ⟨h2, hp⟩ := hp
    refine g_zast (z := false) (mz_at hS (Nat.le_of_ble_eq_true rfl) mzcS_282) h2 (g_aload_n rfl (g_getR (mz_at hS (Nat.le_of_ble_eq_true rfl) mzcS_232) mzcf_12_78 (mz_rb hR (Nat.le_of_ble_eq_true rfl) rfl mzcR_232_78) (g_iload_n rfl (g_iconst mzi_0 ?_))))
    have h3 := hp
    refine g_iast (mz_at hS (Nat.le_of_ble_eq_true rfl) mzcS_285) h3 (g_iinc rfl mzi_1 (Nat.le_of_ble_eq_true rfl) rfl (g_goto (tg := 147) rfl ms_418_147 ?_))
    refine g_weak ?_ (g_cl (hc1 ((s.1 + 1), mz_wI (mz_wI s.2 282 s.1 (mz_b01 false)) 285 s.1 0) hC))
    exact ⟨rfl, rfl, trivial⟩
  · have hp := hp.2 h1
    refine g_iconst mzi_0 (g_istore_n (Nat.le_of_ble_eq_true rfl) rfl ?_)
    refine g_weak ?_ (g_cl (cg_418_175 hd hS hR 0 s.2 hr hp (hx1 _ hC)))
    exact ⟨rfl, rfl, trivial⟩
theorem cg_418_147 (hd : 0 ≤ d) (hS : mz_ext S 342) (hR : mz_rok R 342)  (v1 : Int32) (N : mz_N) {C0 : (mz_N) → Prop} (hr : ∀ (N2 : mz_N), C0 N2 → Q (.inl none) (mz_k S R N2 b t)) (hp : cp_418_147 v1 N) (hC : C0 (cf_418_147 v1 N)) : mz_G (d, mz_X0 L xs, none, [], mk_418, 2, Q) 147 mt_418_147 [(0, .ref 232), (1, .int v1)] [] false (mz_k S R N b t) := by
  obtain ⟨n, hn⟩ := hp
  exact g_loop (G := fun s => mz_G (d, mz_X0 L xs, none, [], mk_418, 2, Q) 147 mt_418_147 [(0, .ref 232), (1, .int s.1)] [] false (mz_k S R s.2 b t)) (C := C0) (fun C2 hc hx s hP hC => cb_418_147 hd hS hR  s hr hc hx hP hC) n (v1, N) hn hC
theorem cb_418_126 (hd : 0 ≤ d) (hS : mz_ext S 342) (hR : mz_rok R 342)   (s : Int32 × mz_N) {C0 : (mz_N) → Prop} (hr : ∀ (N2 : mz_N), C0 N2 → Q (.inl none) (mz_k S R N2 b t)) {C1 : ((Int32 × mz_N) ⊕ (mz_N)) → Prop} (hc1 : ∀ s2, C1 (.inl s2) → mz_G (d, mz_X0 L xs, none, [], mk_418, 2, Q) 126 mt_418_126 [(0, .ref 232), (1, .int s2.1)] [] false (mz_k S R s2.2 b t)) (hx1 : ∀ z, C1 (.inr z) → C0 z) (hp : cd_418_126  s) (hC : C1 (cq_418_126  s)) : mz_G (d, mz_X0 L xs, none, [], mk_418, 2, Q) 126 mt_418_126 [(0, .ref 232), (1, .int s.1)] [] false (mz_k S R s.2 b t) := by
  unfold cq_418_126 at hC
  unfold cd_418_126 at hp
  refine g_iload_n rfl (g_bipush mzb_18 ?_)
  refine g_icge (tg := 145) rfl ms_418_145 hC (fun h1 hC => ?_) (fun h1 hC => ?_)
  · have hp := hp.1 h1
    refine g_aload_n rfl (g_getR (mz_at hS (Nat.le_of_ble_eq_true rfl) mzcS_232) mzcf_12_71 (mz_rb hR (Nat.le_of_ble_eq_true rfl) rfl mzcR_232_71) (g_iload_n rfl (g_iconst mzi_0 ?_)))
    have h2 := hp
    refine g_zast (z := false) (mz_at hS (Nat.le_of_ble_eq_true rfl) mzcS_279) h2 (g_iinc rfl mzi_1 (Nat.le_of_ble_eq_true rfl) rfl (g_goto (tg := 126) rfl ms_418_126 ?_))
    refine g_weak ?_ (g_cl (hc1 ((s.1 + 1), mz_wI s.2 279 s.1 (mz_b01 false)) hC))
    exact ⟨rfl, rfl, trivial⟩
  · have hp := hp.2 h1
    refine g_iconst mzi_0 (g_istore_n (Nat.le_of_ble_eq_true rfl) rfl ?_)
    refine g_weak ?_ (g_cl (cg_418_147 hd hS hR 0 s.2 hr hp (hx1 _ hC)))
    exact ⟨rfl, rfl, trivial⟩
theorem cg_418_126 (hd : 0 ≤ d) (hS : mz_ext S 342) (hR : mz_rok R 342)  (v1 : Int32) (N : mz_N) {C0 : (mz_N) → Prop} (hr : ∀ (N2 : mz_N), C0 N2 → Q (.inl none) (mz_k S R N2 b t)) (hp : cp_418_126 v1 N) (hC : C0 (cf_418_126 v1 N)) : mz_G (d, mz_X0 L xs, none, [], mk_418, 2, Q) 126 mt_418_126 [(0, .ref 232), (1, .int v1)] [] false (mz_k S R N b t) := by
  obtain ⟨n, hn⟩ := hp
  exact g_loop (G := fun s => mz_G (d, mz_X0 L xs, none, [], mk_418, 2, Q) 126 mt_418_126 [(0, .ref 232), (1, .int s.1)] [] false (mz_k S R s.2 b t)) (C := C0) (fun C2 hc hx s hP hC => cb_418_126 hd hS hR  s hr hc hx hP hC) n (v1, N) hn hC
theorem cg_418_109 (hd : 0 ≤ d) (hS : mz_ext S 342) (hR : mz_rok R 342)  (N : mz_N) {C0 : (mz_N) → Prop} (hr : ∀ (N2 : mz_N), C0 N2 → Q (.inl none) (mz_k S R N2 b t)) (hp : cp_418_109 N) (hC : C0 (cf_418_109 N)) : mz_G (d, mz_X0 L xs, none, [], mk_418, 2, Q) 109 mt_418_109 [(0, .ref 232)] [] false (mz_k S R N b t) := by
  unfold cf_418_109 at hC
  unfold cp_418_109 at hp
  refine g_aload_n rfl (g_iconst mzi_0 (g_putI (mz_at hS (Nat.le_of_ble_eq_true rfl) mzcS_232) mzcf_12_96 (g_aload_n rfl (g_iconst mzi_0 (g_putI (mz_at hS (Nat.le_of_ble_eq_true rfl) mzcS_232) mzcf_12_141 (g_aload_n rfl (g_iconst mzi_0 ?_)))))))
  refine g_putI (mz_at hS (Nat.le_of_ble_eq_true rfl) mzcS_232) mzcf_12_143 (g_iconst mzi_0 (g_istore_n (Nat.le_of_ble_eq_true rfl) rfl ?_))
  refine g_weak ?_ (g_cl (cg_418_126 hd hS hR 0 (mz_pI (mz_pI (mz_pI N 232 96 0) 232 141 0) 232 143 0) hr hp hC))
  exact ⟨rfl, rfl, trivial⟩
theorem cg_418_89 (hd : 0 ≤ d) (hS : mz_ext S 342) (hR : mz_rok R 342)  (N : mz_N) {C0 : (mz_N) → Prop} (hr : ∀ (N2 : mz_N), C0 N2 → Q (.inl none) (mz_k S R N2 b t)) (hp : cp_418_89 N) (hC : C0 (cf_418_89 N)) : mz_G (d, mz_X0 L xs, none, [], mk_418, 2, Q) 89 mt_418_89 [(0, .ref 232)] [] false (mz_k S R N b t) := by
  unfold cf_418_89 at hC
  unfold cp_418_89 at hp
  refine g_aload_n rfl (g_iconst mzi_0 (g_putZ (z := false) (mz_at hS (Nat.le_of_ble_eq_true rfl) mzcS_232) mzcf_12_67 (g_aload_n rfl (g_lconst mzl_0 (g_putL (mz_at hS (Nat.le_of_ble_eq_true rfl) mzcS_232) mzcf_12_68 (g_aload_n rfl (g_iconst mzi_0 ?_)))))))
  refine g_putI (mz_at hS (Nat.le_of_ble_eq_true rfl) mzcS_232) mzcf_12_72 (g_aload_n rfl (g_iconst mzi_0 (g_putI (mz_at hS (Nat.le_of_ble_eq_true rfl) mzcS_232) mzcf_12_112 ?_)))
  refine g_weak ?_ (g_cl (cg_418_109 hd hS hR (mz_pI (mz_pI (mz_pL (mz_pI N 232 67 (mz_b01 false)) 232 68 0) 232 72 0) 232 112 0) hr hp hC))
  exact ⟨rfl, trivial⟩
theorem cg_418_69 (hd : 0 ≤ d) (hS : mz_ext S 342) (hR : mz_rok R 342)  (N : mz_N) {C0 : (mz_N) → Prop} (hr : ∀ (N2 : mz_N), C0 N2 → Q (.inl none) (mz_k S R N2 b t)) (hp : cp_418_69 N) (hC : C0 (cf_418_69 N)) : mz_G (d, mz_X0 L xs, none, [], mk_418, 2, Q) 69 mt_418_69 [(0, .ref 232)] [] false (mz_k S R N b t) := by
  unfold cf_418_69 at hC
  unfold cp_418_69 at hp
  refine g_aload_n rfl (g_iconst mzi_0 (g_putZ (z := false) (mz_at hS (Nat.le_of_ble_eq_true rfl) mzcS_232) mzcf_12_63 (g_aload_n rfl (g_iconst mzi_0 (g_putZ (z := false) (mz_at hS (Nat.le_of_ble_eq_true rfl) mzcS_232) mzcf_12_64 (g_aload_n rfl (g_iconst mzi_0 ?_)))))))
  refine g_putZ (z := false) (mz_at hS (Nat.le_of_ble_eq_true rfl) mzcS_232) mzcf_12_65 (g_aload_n rfl (g_lconst mzl_0 (g_putL (mz_at hS (Nat.le_of_ble_eq_true rfl) mzcS_232) mzcf_12_66 ?_)))
  refine g_weak ?_ (g_cl (cg_418_89 hd hS hR (mz_pL (mz_pI (mz_pI (mz_pI N 232 63 (mz_b01 false)) 232 64 (mz_b01 false)) 232 65 (mz_b01 false)) 232 66 0) hr hp hC))
  exact ⟨rfl, trivial⟩
theorem cg_418_43 (hd : 0 ≤ d) (hS : mz_ext S 342) (hR : mz_rok R 342)  (N : mz_N) {C0 : (mz_N) → Prop} (hr : ∀ (N2 : mz_N), C0 N2 → Q (.inl none) (mz_k S R N2 b t)) (hp : cp_418_43 N) (hC : C0 (cf_418_43 N)) : mz_G (d, mz_X0 L xs, none, [], mk_418, 2, Q) 43 mt_418_43 [(0, .ref 232)] [] false (mz_k S R N b t) := by
  unfold cf_418_43 at hC
  unfold cp_418_43 at hp
  refine g_aload_n rfl (g_sipush mzs_1500 (g_putI (mz_at hS (Nat.le_of_ble_eq_true rfl) mzcS_232) mzcf_12_54 (g_aload_n rfl (g_iconst mzi_0 (g_putI (mz_at hS (Nat.le_of_ble_eq_true rfl) mzcS_232) mzcf_12_55 (g_aload_n rfl (g_sipush mzs_2000 ?_)))))))
  refine g_putI (mz_at hS (Nat.le_of_ble_eq_true rfl) mzcS_232) mzcf_12_61 (g_aload_n rfl (g_sipush mzs_20000 (g_putI (mz_at hS (Nat.le_of_ble_eq_true rfl) mzcS_232) mzcf_12_62 ?_)))
  refine g_weak ?_ (g_cl (cg_418_69 hd hS hR (mz_pI (mz_pI (mz_pI (mz_pI N 232 54 1500) 232 55 0) 232 61 2000) 232 62 20000) hr hp hC))
  exact ⟨rfl, trivial⟩
theorem cg_418_0 (hd : 0 ≤ d) (hS : mz_ext S 342) (hR : mz_rok R 342)  (N : mz_N) {C0 : (mz_N) → Prop} (hr : ∀ (N2 : mz_N), C0 N2 → Q (.inl none) (mz_k S R N2 b t)) (hp : cp_418_0 N) (hC : C0 (cf_418_0 N)) : mz_G (d, mz_X0 L xs, none, [], mk_418, 2, Q) 0 mk_418 [(0, .ref 232)] [] true (mz_k S R N b t) := by
  unfold cf_418_0 at hC
  unfold cp_418_0 at hp
  refine g_aload_n rfl (g_lconst mzl_0 (g_putL (mz_at hS (Nat.le_of_ble_eq_true rfl) mzcS_232) mzcf_12_2 (g_aload_n rfl (g_lconst mzl_0 (g_putL (mz_at hS (Nat.le_of_ble_eq_true rfl) mzcS_232) mzcf_12_122 (g_aload_n rfl (g_lconst mzl_0 ?_)))))))
  refine g_putL (mz_at hS (Nat.le_of_ble_eq_true rfl) mzcS_232) mzcf_12_123 (g_aload_n rfl (g_lconst mzl_0 (g_putL (mz_at hS (Nat.le_of_ble_eq_true rfl) mzcS_232) mzcf_12_124 (g_aload_n rfl (g_lconst mzl_0 (g_putL (mz_at hS (Nat.le_of_ble_eq_true rfl) mzcS_232) mzcf_12_125 (g_aload_n rfl ?_)))))))
  refine g_sipush mzs_5000 (g_putI (mz_at hS (Nat.le_of_ble_eq_true rfl) mzcS_232) mzcf_12_21 (g_aload_n rfl (g_iconst mzi_1 (g_putZ (z := true) (mz_at hS (Nat.le_of_ble_eq_true rfl) mzcS_232) mzcf_12_52 (g_aload_n rfl (g_bipush mzb_100 (g_putI (mz_at hS (Nat.le_of_ble_eq_true rfl) mzcS_232) mzcf_12_53 ?_)))))))
  refine g_weak ?_ (g_cl (cg_418_43 hd hS hR (mz_pI (mz_pI (mz_pI (mz_pL (mz_pL (mz_pL (mz_pL (mz_pL N 232 2 0) 232 122 0) 232 123 0) 232 124 0) 232 125 0) 232 21 5000) 232 52 (mz_b01 true)) 232 53 100) hr hp hC))
  exact ⟨rfl, trivial⟩
theorem cs_418 (hd : 1 ≤ d) (hS : mz_ext S 342) (hR : mz_rok R 342)  (N : mz_N) (hp : cp_418_0 N) (hq : Q (.inl none) (mz_k S R (cf_418_0 N) b t)) : mz_Ed (mz_X0 L xs) d 418 [.ref 232] (mz_k S R N b t) Q :=
  by
  refine g_in mzq_418 (Nat.le_of_ble_eq_true rfl) (Nat.le_of_ble_eq_true rfl) (Nat.le_trans (Nat.le_of_ble_eq_true rfl) hd) ?_
  refine g_weak ?_ (cg_418_0 (d := d - 1) (by omega) hS hR N (C0 := fun z => Q (.inl none) (mz_k S R z b t)) (fun _ h => h) hp hq)
  exact ⟨rfl, trivial⟩
end Fn19
