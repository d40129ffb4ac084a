/-! THE FUNCTIONS: written by program: each method comes to its function. -/
section Fn36
variable {L : Nat} {xs : Nat → Int32} {d : Nat} {S : mz_S} {R : Nat → Nat → Option Nat} {Q : mz_Q} {N : mz_N} {b : Bool} {t : Nat}
/-! 602 KeptHouseModel.tape (I)I -/
theorem ms_602_0 : mz_sf mk_602 0 = mk_602 := mz_sf_zero _
theorem ms_602_17 : mz_sf mk_602 17 = mt_602_17 := mz_sf_add ms_602_0 (t := 17) rfl rfl
theorem ms_602_18 : mz_sf mk_602 18 = mt_602_18 := mz_sf_add ms_602_17 (t := 1) rfl rfl
theorem ms_602_29 : mz_sf mk_602 29 = mt_602_29 := mz_sf_add ms_602_18 (t := 11) rfl rfl
theorem ms_602_39 : mz_sf mk_602 39 = mt_602_39 := mz_sf_add ms_602_29 (t := 10) rfl rfl
set_option maxRecDepth 100000 in
theorem mzq_602 : mz_PG0 602 = some (12, ⟨"KeptHouseModel", "tape", "(I)I"⟩, prog_14_method_195_code, 2, some .int, [], mk_602, []) := rfl
theorem cg_602_18 (hd : 1 ≤ d) (hS : mz_extR S 342) (hR : mz_rok R 342)  (s1 : Bool) (v1 : Int32) (N : mz_N) {C0 : (Int32 × mz_N) → Prop} (hr : ∀ (w : Int32) (N2 : mz_N), C0 (w, N2) → Q (.inl (some (.int w))) (mz_k S R N2 b t)) (hp : cp_602_18 s1 v1 N) (hC : C0 (cf_602_18 s1 v1 N)) : mz_G (d, mz_X0 L xs, some .int, [], mk_602, 2, Q) 18 mt_602_18 [(0, .ref 232), (1, .int v1)] [.int (mz_b01 s1), .ref 232] true (mz_k S R N b t) := by
  unfold cf_602_18 at hC
  unfold cp_602_18 at hp
  refine g_iconst mzi_1 ?_
  obtain ⟨h1, hp⟩ := hp
  refine g_v3v (Nat.le_of_ble_eq_true rfl) (mz_at hS (Nat.le_of_ble_eq_true rfl) mzcS_232) (fun _ hq => cs_462 (Nat.le_trans (Nat.le_of_ble_eq_true rfl) hd) (hS.le (Nat.le_of_ble_eq_true rfl)) (hR.le (Nat.le_of_ble_eq_true rfl))  s1 true N h1 hq) ?_
  refine g_zeq (tg := 29) rfl ms_602_29 hC (fun h2 hC => ?_) (fun h2 hC => ?_)
  · have hp := hp.1 h2
    refine g_iconst mzi_0 (g_goto (tg := 39) rfl ms_602_39 ?_)
    exact g_iret rfl (hr _ _ hC)
  · have hp := hp.2 h2
    refine g_aload_n rfl (g_getR (mz_at hS (Nat.le_of_ble_eq_true rfl) mzcS_232) mzcf_12_140 (mz_rb hR (Nat.le_of_ble_eq_true rfl) rfl mzcR_232_140) (g_iload_n rfl ?_))
    have h3 := hp
    refine g_bald (mz_at hS (Nat.le_of_ble_eq_true rfl) mzcS_334) h3 (g_sipush mzs_255 (g_iand ?_))
    exact g_iret rfl (hr _ _ hC)
theorem cg_602_17 (hd : 1 ≤ d) (hS : mz_extR S 342) (hR : mz_rok R 342)  (v1 : Int32) (N : mz_N) {C0 : (Int32 × mz_N) → Prop} (hr : ∀ (w : Int32) (N2 : mz_N), C0 (w, N2) → Q (.inl (some (.int w))) (mz_k S R N2 b t)) (hp : cp_602_17 v1 N) (hC : C0 (cf_602_17 v1 N)) : mz_G (d, mz_X0 L xs, some .int, [], mk_602, 2, Q) 17 mt_602_17 [(0, .ref 232), (1, .int v1)] [.ref 232] true (mz_k S R N b t) := by
  unfold cf_602_17 at hC
  unfold cp_602_17 at hp
  refine g_iconst mzi_0 ?_
  refine g_weak ?_ (cg_602_18 hd hS hR false v1 N hr hp hC)
  exact ⟨rfl, rfl, trivial⟩
theorem cg_602_0 (hd : 1 ≤ d) (hS : mz_extR S 342) (hR : mz_rok R 342)  (v1 : Int32) (N : mz_N) {C0 : (Int32 × mz_N) → Prop} (hr : ∀ (w : Int32) (N2 : mz_N), C0 (w, N2) → Q (.inl (some (.int w))) (mz_k S R N2 b t)) (hp : cp_602_0 v1 N) (hC : C0 (cf_602_0 v1 N)) : mz_G (d, mz_X0 L xs, some .int, [], mk_602, 2, Q) 0 mk_602 [(0, .ref 232), (1, .int v1)] [] true (mz_k S R N b t) := by
  unfold cf_602_0 at hC
  unfold cp_602_0 at hp
  refine g_aload_n rfl (g_iload_n rfl ?_)
  refine g_iflt (tg := 17) rfl ms_602_17 hC (fun h1 hC => ?_) (fun h1 hC => ?_)
  · have hp := hp.1 h1
    refine g_weak ?_ (cg_602_17 hd hS hR v1 N hr hp hC)
    exact ⟨rfl, rfl, trivial⟩
  · have hp := hp.2 h1
    refine g_iload_n rfl (g_aload_n rfl (g_getI (mz_at hS (Nat.le_of_ble_eq_true rfl) mzcS_232) mzcf_12_141 ?_))
    refine g_icge (tg := 17) rfl ms_602_17 hC (fun h2 hC => ?_) (fun h2 hC => ?_)
    · have hp := hp.1 h2
      refine g_iconst mzi_1 (g_goto (tg := 18) rfl ms_602_18 ?_)
      refine g_weak ?_ (cg_602_18 hd hS hR true v1 N hr hp hC)
      exact ⟨rfl, rfl, trivial⟩
    · have hp := hp.2 h2
      refine g_weak ?_ (cg_602_17 hd hS hR v1 N hr hp hC)
      exact ⟨rfl, rfl, trivial⟩
theorem cs_602 (hd : 2 ≤ d) (hS : mz_extR S 342) (hR : mz_rok R 342)  (v1 : Int32) (N : mz_N) (hp : cp_602_0 v1 N) (hq : Q (.inl (some (.int ((cf_602_0 v1 N).1)))) (mz_k S R ((cf_602_0 v1 N).2) b t)) : mz_Ed (mz_X0 L xs) d 602 [.ref 232, .int v1] (mz_k S R N b t) Q :=
  by
  refine g_in mzq_602 (Nat.le_of_ble_eq_true rfl) (Nat.le_of_ble_eq_true rfl) (Nat.le_trans (Nat.le_of_ble_eq_true rfl) hd) ?_
  refine g_weak ?_ (cg_602_0 (d := d - 1) (by omega) hS hR v1 N (C0 := fun z => Q (.inl (some (.int z.1))) (mz_k S R z.2 b t)) (fun _ _ h => h) hp hq)
  exact ⟨rfl, rfl, trivial⟩
/-! 603 KeptHouseModel.feed (I)I -/
theorem ms_603_0 : mz_sf mk_603 0 = mk_603 := mz_sf_zero _
theorem ms_603_24 : mz_sf mk_603 24 = mt_603_24 := mz_sf_add ms_603_0 (t := 24) rfl rfl
theorem ms_603_25 : mz_sf mk_603 25 = mt_603_25 := mz_sf_add ms_603_24 (t := 1) rfl rfl
theorem ms_603_33 : mz_sf mk_603 33 = mt_603_33 := mz_sf_add ms_603_25 (t := 8) rfl rfl
theorem ms_603_54 : mz_sf mk_603 54 = mt_603_54 := mz_sf_add ms_603_33 (t := 21) rfl rfl
set_option maxRecDepth 100000 in
theorem mzq_603 : mz_PG0 603 = some (12, ⟨"KeptHouseModel", "feed", "(I)I"⟩, prog_14_method_196_code, 2, some .int, [], mk_603, []) := rfl
theorem cg_603_54 (hd : 1 ≤ d) (hS : mz_extR S 342) (hR : mz_rok R 342)  (N : mz_N) {C0 : (Int32 × mz_N) → Prop} (hr : ∀ (w : Int32) (N2 : mz_N), C0 (w, N2) → Q (.inl (some (.int w))) (mz_k S R N2 b t)) (hp : cp_603_54 N) (hC : C0 (cf_603_54 N)) : mz_G (d, mz_X0 L xs, some .int, [], mk_603, 2, Q) 54 mt_603_54 [(0, .ref 232)] [] false (mz_k S R N b t) := by
  unfold cf_603_54 at hC
  unfold cp_603_54 at hp
  refine g_aload_n rfl (g_getI (mz_at hS (Nat.le_of_ble_eq_true rfl) mzcS_232) mzcf_12_143 ?_)
  exact g_iret rfl (hr _ _ hC)
theorem cg_603_25 (hd : 1 ≤ d) (hS : mz_extR S 342) (hR : mz_rok R 342)  (s1 : Bool) (s2 : Bool) (v1 : Int32) (N : mz_N) {C0 : (Int32 × mz_N) → Prop} (hr : ∀ (w : Int32) (N2 : mz_N), C0 (w, N2) → Q (.inl (some (.int w))) (mz_k S R N2 b t)) (hp : cp_603_25 s1 s2 v1 N) (hC : C0 (cf_603_25 s1 s2 v1 N)) : mz_G (d, mz_X0 L xs, some .int, [], mk_603, 2, Q) 25 mt_603_25 [(0, .ref 232), (1, .int v1)] [.int (mz_b01 s2), .int (mz_b01 s1), .ref 232] false (mz_k S R N b t) := by
  unfold cf_603_25 at hC
  unfold cp_603_25 at hp
  obtain ⟨h1, hp⟩ := hp
  refine g_v3v (Nat.le_of_ble_eq_true rfl) (mz_at hS (Nat.le_of_ble_eq_true rfl) mzcS_232) (fun _ hq => cs_462 (Nat.le_trans (Nat.le_of_ble_eq_true rfl) hd) (hS.le (Nat.le_of_ble_eq_true rfl)) (hR.le (Nat.le_of_ble_eq_true rfl))  s1 s2 N h1 hq) ?_
  refine g_zeq (tg := 33) rfl ms_603_33 hC (fun h2 hC => ?_) (fun h2 hC => ?_)
  · have hp := hp.1 h2
    refine g_iconst mzi_0 ?_
    exact g_iret rfl (hr _ _ hC)
  · have hp := hp.2 h2
    refine g_aload_n rfl (g_getR (mz_at hS (Nat.le_of_ble_eq_true rfl) mzcS_232) mzcf_12_142 (mz_rb hR (Nat.le_of_ble_eq_true rfl) rfl mzcR_232_142) (g_aload_n rfl (g_getI (mz_at hS (Nat.le_of_ble_eq_true rfl) mzcS_232) mzcf_12_143 (g_iload_n rfl (g_i2b ?_)))))
    obtain ⟨h3, hp⟩ := hp
    refine g_bast (mz_at hS (Nat.le_of_ble_eq_true rfl) mzcS_335) h3 (g_aload_n rfl (g_dup rfl (g_getI (mz_at hS (Nat.le_of_ble_eq_true rfl) mzcS_232) mzcf_12_143 (g_iconst mzi_1 (g_iadd (g_putI (mz_at hS (Nat.le_of_ble_eq_true rfl) mzcS_232) mzcf_12_143 ?_))))))
    refine g_weak ?_ (g_cl (cg_603_54 hd hS hR (mz_pI (mz_wI ((cf_462_0 s1 s2 N).2) 335 (((cf_462_0 s1 s2 N).2).1 232 143) (mz_nb (mz_i2b v1))) 232 143 (((mz_wI ((cf_462_0 s1 s2 N).2) 335 (((cf_462_0 s1 s2 N).2).1 232 143) (mz_nb (mz_i2b v1))).1 232 143) + 1)) hr hp hC))
    exact ⟨rfl, trivial⟩
theorem cg_603_0 (hd : 1 ≤ d) (hS : mz_extR S 342) (hR : mz_rok R 342)  (v1 : Int32) (N : mz_N) {C0 : (Int32 × mz_N) → Prop} (hr : ∀ (w : Int32) (N2 : mz_N), C0 (w, N2) → Q (.inl (some (.int w))) (mz_k S R N2 b t)) (hp : cp_603_0 v1 N) (hC : C0 (cf_603_0 v1 N)) : mz_G (d, mz_X0 L xs, some .int, [], mk_603, 2, Q) 0 mk_603 [(0, .ref 232), (1, .int v1)] [] true (mz_k S R N b t) := by
  unfold cf_603_0 at hC
  unfold cp_603_0 at hp
  refine g_aload_n rfl (g_iload_n rfl (g_i2l (g_lconst mzl_0 (g_con3 ?_))))
  refine g_s3v (Nat.le_of_ble_eq_true rfl) (fun _ hq => cs_466 (Nat.le_trans (Nat.le_of_ble_eq_true rfl) hd) (hS.le (Nat.le_of_ble_eq_true rfl)) (hR.le (Nat.le_of_ble_eq_true rfl))  v1.toInt64 0 255 trivial hq) (g_aload_n rfl (g_getI (mz_at hS (Nat.le_of_ble_eq_true rfl) mzcS_232) mzcf_12_143 (g_sipush mzs_4100 ?_)))
  refine g_icge (tg := 24) rfl ms_603_24 hC (fun h2 hC => ?_) (fun h2 hC => ?_)
  · have hp := hp.1 h2
    refine g_iconst mzi_1 (g_goto (tg := 25) rfl ms_603_25 ?_)
    refine g_weak ?_ (g_cl (cg_603_25 hd hS hR (cf_466_0 v1.toInt64 0 255) true v1 N hr hp hC))
    exact ⟨rfl, rfl, trivial⟩
  · have hp := hp.2 h2
    refine g_iconst mzi_0 ?_
    refine g_weak ?_ (g_cl (cg_603_25 hd hS hR (cf_466_0 v1.toInt64 0 255) false v1 N hr hp hC))
    exact ⟨rfl, rfl, trivial⟩
theorem cs_603 (hd : 2 ≤ d) (hS : mz_extR S 342) (hR : mz_rok R 342)  (v1 : Int32) (N : mz_N) (hp : cp_603_0 v1 N) (hq : Q (.inl (some (.int ((cf_603_0 v1 N).1)))) (mz_k S R ((cf_603_0 v1 N).2) b t)) : mz_Ed (mz_X0 L xs) d 603 [.ref 232, .int v1] (mz_k S R N b t) Q :=
  by
  refine g_in mzq_603 (Nat.le_of_ble_eq_true rfl) (Nat.le_of_ble_eq_true rfl) (Nat.le_trans (Nat.le_of_ble_eq_true rfl) hd) ?_
  refine g_weak ?_ (cg_603_0 (d := d - 1) (by omega) hS hR v1 N (C0 := fun z => Q (.inl (some (.int z.1))) (mz_k S R z.2 b t)) (fun _ _ h => h) hp hq)
  exact ⟨rfl, rfl, trivial⟩
/-! 604 KeptHouseModel.copy ()I -/
theorem ms_604_0 : mz_sf mk_604 0 = mk_604 := mz_sf_zero _
theorem ms_604_9 : mz_sf mk_604 9 = mt_604_9 := mz_sf_add ms_604_0 (t := 9) rfl rfl
theorem ms_604_11 : mz_sf mk_604 11 = mt_604_11 := mz_sf_add ms_604_9 (t := 2) rfl rfl
theorem ms_604_44 : mz_sf mk_604 44 = mt_604_44 := mz_sf_add ms_604_11 (t := 33) rfl rfl
theorem ms_604_60 : mz_sf mk_604 60 = mt_604_60 := mz_sf_add ms_604_44 (t := 16) rfl rfl
set_option maxRecDepth 100000 in
theorem mzq_604 : mz_PG0 604 = some (12, ⟨"KeptHouseModel", "copy", "()I"⟩, prog_14_method_197_code, 2, some .int, [], mk_604, []) := rfl
theorem cb_604_11 (hd : 1 ≤ d) (hS : mz_extR S 342) (hR : mz_rok R 342)   (s : Int32 × mz_N) {C0 : (Int32 × mz_N) → Prop} (hr : ∀ (w : Int32) (N2 : mz_N), C0 (w, N2) → Q (.inl (some (.int w))) (mz_k S R N2 b t)) {C1 : ((Int32 × mz_N) ⊕ (Int32 × mz_N)) → Prop} (hc1 : ∀ s2, C1 (.inl s2) → mz_G (d, mz_X0 L xs, some .int, [], mk_604, 2, Q) 11 mt_604_11 [(0, .ref 232), (1, .int s2.1)] [] false (mz_k S R s2.2 b t)) (hx1 : ∀ z, C1 (.inr z) → C0 z) (hp : cd_604_11  s) (hC : C1 (cq_604_11  s)) : mz_G (d, mz_X0 L xs, some .int, [], mk_604, 2, Q) 11 mt_604_11 [(0, .ref 232), (1, .int s.1)] [] false (mz_k S R s.2 b t) := by
  unfold cq_604_11 at hC
  unfold cd_604_11 at hp
  refine g_iload_n rfl (g_aload_n rfl (g_getI (mz_at hS (Nat.le_of_ble_eq_true rfl) mzcS_232) mzcf_12_141 ?_))
  refine g_icge (tg := 60) rfl ms_604_60 hC (fun h1 hC => ?_) (fun h1 hC => ?_)
  · have hp := hp.1 h1
    refine g_aload_n rfl (g_getI (mz_at hS (Nat.le_of_ble_eq_true rfl) mzcS_232) mzcf_12_143 (g_sipush mzs_4100 ?_))
    refine g_icge (tg := 60) rfl ms_604_60 hC (fun h2 hC => ?_) (fun h2 hC => ?_)
    · have hp := hp.1 h2
      refine g_aload_n rfl (g_getR (mz_at hS (Nat.le_of_ble_eq_true rfl) mzcS_232) mzcf_12_142 (mz_rb hR (Nat.le_of_ble_eq_true rfl) rfl mzcR_232_142) (g_aload_n rfl (g_getI (mz_at hS (Nat.le_of_ble_eq_true rfl) mzcS_232) mzcf_12_143 (g_aload_n rfl (g_getR (mz_at hS (Nat.le_of_ble_eq_true rfl) mzcS_232) mzcf_12_140 (mz_rb hR (Nat.le_of_ble_eq_true rfl) rfl mzcR_232_140) (g_iload_n rfl ?_))))))
      obtain ⟨h3, hp⟩ := hp
      refine g_bald (mz_at hS (Nat.le_of_ble_eq_true rfl) mzcS_334) h3 ?_
      have h4 := hp
      refine g_bast (mz_at hS (Nat.le_of_ble_eq_true rfl) mzcS_335) h4 (g_aload_n rfl (g_dup rfl (g_getI (mz_at hS (Nat.le_of_ble_eq_true rfl) mzcS_232) mzcf_12_143 (g_iconst mzi_1 (g_iadd (g_putI (mz_at hS (Nat.le_of_ble_eq_true rfl) mzcS_232) mzcf_12_143 (g_iinc rfl mzi_1 (Nat.le_of_ble_eq_true rfl) rfl ?_)))))))
      refine g_goto (tg := 11) rfl ms_604_11 ?_
      refine g_weak ?_ (g_cl (hc1 ((s.1 + 1), mz_pI (mz_wI s.2 335 (s.2.1 232 143) (mz_nb (mz_gI s.2 334 s.1))) 232 143 (((mz_wI s.2 335 (s.2.1 232 143) (mz_nb (mz_gI s.2 334 s.1))).1 232 143) + 1)) hC))
      exact ⟨rfl, rfl, trivial⟩
    · have hp := hp.2 h2
      refine g_aload_n rfl (g_getI (mz_at hS (Nat.le_of_ble_eq_true rfl) mzcS_232) mzcf_12_143 ?_)
      exact g_iret rfl (hr _ _ (hx1 _ hC))
  · have hp := hp.2 h1
    refine g_aload_n rfl (g_getI (mz_at hS (Nat.le_of_ble_eq_true rfl) mzcS_232) mzcf_12_143 ?_)
    exact g_iret rfl (hr _ _ (hx1 _ hC))
theorem cg_604_11 (hd : 1 ≤ d) (hS : mz_extR S 342) (hR : mz_rok R 342)  (v1 : Int32) (N : mz_N) {C0 : (Int32 × mz_N) → Prop} (hr : ∀ (w : Int32) (N2 : mz_N), C0 (w, N2) → Q (.inl (some (.int w))) (mz_k S R N2 b t)) (hp : cp_604_11 v1 N) (hC : C0 (cf_604_11 v1 N)) : mz_G (d, mz_X0 L xs, some .int, [], mk_604, 2, Q) 11 mt_604_11 [(0, .ref 232), (1, .int v1)] [] false (mz_k S R N b t) := by
  obtain ⟨n, hn⟩ := hp
  exact g_loop (G := fun s => mz_G (d, mz_X0 L xs, some .int, [], mk_604, 2, Q) 11 mt_604_11 [(0, .ref 232), (1, .int s.1)] [] false (mz_k S R s.2 b t)) (C := C0) (fun C2 hc hx s hP hC => cb_604_11 hd hS hR  s hr hc hx hP hC) n (v1, N) hn hC
theorem cg_604_0 (hd : 1 ≤ d) (hS : mz_extR S 342) (hR : mz_rok R 342)  (N : mz_N) {C0 : (Int32 × mz_N) → Prop} (hr : ∀ (w : Int32) (N2 : mz_N), C0 (w, N2) → Q (.inl (some (.int w))) (mz_k S R N2 b t)) (hp : cp_604_0 N) (hC : C0 (cf_604_0 N)) : mz_G (d, mz_X0 L xs, some .int, [], mk_604, 2, Q) 0 mk_604 [(0, .ref 232)] [] true (mz_k S R N b t) := by
  unfold cf_604_0 at hC
  unfold cp_604_0 at hp
  refine g_aload_n rfl ?_
  obtain ⟨h1, hp⟩ := hp
  refine g_v1v (Nat.le_of_ble_eq_true rfl) (mz_at hS (Nat.le_of_ble_eq_true rfl) mzcS_232) (fun _ hq => cs_484 (Nat.le_trans (Nat.le_of_ble_eq_true rfl) hd) (hS.le (Nat.le_of_ble_eq_true rfl)) (hR.le (Nat.le_of_ble_eq_true rfl))  N h1 hq) ?_
  refine g_zeq (tg := 9) rfl ms_604_9 hC (fun h2 hC => ?_) (fun h2 hC => ?_)
  · have hp := hp.1 h2
    refine g_iconst mzi_0 ?_
    exact g_iret rfl (hr _ _ hC)
  · have hp := hp.2 h2
    refine g_iconst mzi_0 (g_istore_n (Nat.le_of_ble_eq_true rfl) rfl ?_)
    refine g_weak ?_ (g_cl (cg_604_11 hd hS hR 0 ((cf_484_0 N).2) hr hp hC))
    exact ⟨rfl, rfl, trivial⟩
theorem cs_604 (hd : 2 ≤ d) (hS : mz_extR S 342) (hR : mz_rok R 342)  (N : mz_N) (hp : cp_604_0 N) (hq : Q (.inl (some (.int ((cf_604_0 N).1)))) (mz_k S R ((cf_604_0 N).2) b t)) : mz_Ed (mz_X0 L xs) d 604 [.ref 232] (mz_k S R N b t) Q :=
  by
  refine g_in mzq_604 (Nat.le_of_ble_eq_true rfl) (Nat.le_of_ble_eq_true rfl) (Nat.le_trans (Nat.le_of_ble_eq_true rfl) hd) ?_
  refine g_weak ?_ (cg_604_0 (d := d - 1) (by omega) hS hR N (C0 := fun z => Q (.inl (some (.int z.1))) (mz_k S R z.2 b t)) (fun _ _ h => h) hp hq)
  exact ⟨rfl, trivial⟩
/-! 605 KeptHouseModel.poke (II)I -/
theorem ms_605_0 : mz_sf mk_605 0 = mk_605 := mz_sf_zero _
theorem ms_605_29 : mz_sf mk_605 29 = mt_605_29 := mz_sf_add ms_605_0 (t := 29) rfl rfl
theorem ms_605_30 : mz_sf mk_605 30 = mt_605_30 := mz_sf_add ms_605_29 (t := 1) rfl rfl
theorem ms_605_39 : mz_sf mk_605 39 = mt_605_39 := mz_sf_add ms_605_30 (t := 9) rfl rfl
theorem ms_605_58 : mz_sf mk_605 58 = mt_605_58 := mz_sf_add ms_605_39 (t := 19) rfl rfl
set_option maxRecDepth 100000 in
theorem mzq_605 : mz_PG0 605 = some (12, ⟨"KeptHouseModel", "poke", "(II)I"⟩, prog_14_method_198_code, 4, some .int, [], mk_605, []) := rfl
theorem cg_605_30 (hd : 1 ≤ d) (hS : mz_extR S 342) (hR : mz_rok R 342)  (s1 : Bool) (v1 : Int32) (v2 : Int32) (N : mz_N) {C0 : (Int32 × mz_N) → Prop} (hr : ∀ (w : Int32) (N2 : mz_N), C0 (w, N2) → Q (.inl (some (.int w))) (mz_k S R N2 b t)) (hp : cp_605_30 s1 v1 v2 N) (hC : C0 (cf_605_30 s1 v1 v2 N)) : mz_G (d, mz_X0 L xs, some .int, [], mk_605, 4, Q) 30 mt_605_30 [(0, .ref 232), (1, .int v1), (2, .int v2)] [.int (mz_b01 s1), .ref 232] false (mz_k S R N b t) := by
  unfold cf_605_30 at hC
  unfold cp_605_30 at hp
  refine g_iconst mzi_1 ?_
  obtain ⟨h1, hp⟩ := hp
  refine g_v3v (Nat.le_of_ble_eq_true rfl) (mz_at hS (Nat.le_of_ble_eq_true rfl) mzcS_232) (fun _ hq => cs_462 (Nat.le_trans (Nat.le_of_ble_eq_true rfl) hd) (hS.le (Nat.le_of_ble_eq_true rfl)) (hR.le (Nat.le_of_ble_eq_true rfl))  s1 true N h1 hq) ?_
  refine g_zeq (tg := 39) rfl ms_605_39 hC (fun h2 hC => ?_) (fun h2 hC => ?_)
  · have hp := hp.1 h2
    refine g_iconst mzi_0 ?_
    exact g_iret rfl (hr _ _ hC)
  · have hp := hp.2 h2
    refine g_aload_n rfl (g_getR (mz_at hS (Nat.le_of_ble_eq_true rfl) mzcS_232) mzcf_12_142 (mz_rb hR (Nat.le_of_ble_eq_true rfl) rfl mzcR_232_142) (g_iload_n rfl ?_))
    obtain ⟨h3, hp⟩ := hp
    refine g_bald (mz_at hS (Nat.le_of_ble_eq_true rfl) mzcS_335) h3 (g_sipush mzs_255 (g_iand (g_istore_n (Nat.le_of_ble_eq_true rfl) rfl (g_aload_n rfl (g_getR (mz_at hS (Nat.le_of_ble_eq_true rfl) mzcS_232) mzcf_12_142 (mz_rb hR (Nat.le_of_ble_eq_true rfl) rfl mzcR_232_142) (g_iload_n rfl (g_iload_n rfl ?_)))))))
    refine g_i2b ?_
    have h4 := hp
    refine g_bast (mz_at hS (Nat.le_of_ble_eq_true rfl) mzcS_335) h4 (g_iload_n rfl ?_)
    exact g_iret rfl (hr _ _ hC)
theorem cg_605_29 (hd : 1 ≤ d) (hS : mz_extR S 342) (hR : mz_rok R 342)  (v1 : Int32) (v2 : Int32) (N : mz_N) {C0 : (Int32 × mz_N) → Prop} (hr : ∀ (w : Int32) (N2 : mz_N), C0 (w, N2) → Q (.inl (some (.int w))) (mz_k S R N2 b t)) (hp : cp_605_29 v1 v2 N) (hC : C0 (cf_605_29 v1 v2 N)) : mz_G (d, mz_X0 L xs, some .int, [], mk_605, 4, Q) 29 mt_605_29 [(0, .ref 232), (1, .int v1), (2, .int v2)] [.ref 232] false (mz_k S R N b t) := by
  unfold cf_605_29 at hC
  unfold cp_605_29 at hp
  refine g_iconst mzi_0 ?_
  refine g_weak ?_ (g_cl (cg_605_30 hd hS hR false v1 v2 N hr hp hC))
  exact ⟨rfl, rfl, rfl, trivial⟩
theorem cg_605_0 (hd : 1 ≤ d) (hS : mz_extR S 342) (hR : mz_rok R 342)  (v1 : Int32) (v2 : Int32) (N : mz_N) {C0 : (Int32 × mz_N) → Prop} (hr : ∀ (w : Int32) (N2 : mz_N), C0 (w, N2) → Q (.inl (some (.int w))) (mz_k S R N2 b t)) (hp : cp_605_0 v1 v2 N) (hC : C0 (cf_605_0 v1 v2 N)) : mz_G (d, mz_X0 L xs, some .int, [], mk_605, 4, Q) 0 mk_605 [(0, .ref 232), (1, .int v1), (2, .int v2)] [] true (mz_k S R N b t) := by
  unfold cf_605_0 at hC
  unfold cp_605_0 at hp
  refine g_aload_n rfl (g_iload_n rfl ?_)
  refine g_iflt (tg := 29) rfl ms_605_29 hC (fun h1 hC => ?_) (fun h1 hC => ?_)
  · have hp := hp.1 h1
    refine g_weak ?_ (g_cl (cg_605_29 hd hS hR v1 v2 N hr hp hC))
    exact ⟨rfl, rfl, rfl, trivial⟩
  · have hp := hp.2 h1
    refine g_iload_n rfl (g_aload_n rfl (g_getI (mz_at hS (Nat.le_of_ble_eq_true rfl) mzcS_232) mzcf_12_143 ?_))
    refine g_icge (tg := 29) rfl ms_605_29 hC (fun h2 hC => ?_) (fun h2 hC => ?_)
    · have hp := hp.1 h2
      refine g_iload_n rfl (g_i2l (g_lconst mzl_0 (g_con3 ?_)))
      refine g_s3v (Nat.le_of_ble_eq_true rfl) (fun _ hq => cs_466 (Nat.le_trans (Nat.le_of_ble_eq_true rfl) hd) (hS.le (Nat.le_of_ble_eq_true rfl)) (hR.le (Nat.le_of_ble_eq_true rfl))  v2.toInt64 0 255 trivial hq) ?_
      refine g_zeq (tg := 29) rfl ms_605_29 hC (fun h4 hC => ?_) (fun h4 hC => ?_)
      · have hp := hp.1 h4
        refine g_iconst mzi_1 (g_goto (tg := 30) rfl ms_605_30 ?_)
        refine g_weak ?_ (g_cl (cg_605_30 hd hS hR true v1 v2 N hr hp hC))
        exact ⟨rfl, rfl, rfl, trivial⟩
      · have hp := hp.2 h4
        refine g_weak ?_ (g_cl (cg_605_29 hd hS hR v1 v2 N hr hp hC))
        exact ⟨rfl, rfl, rfl, trivial⟩
    · have hp := hp.2 h2
      refine g_weak ?_ (g_cl (cg_605_29 hd hS hR v1 v2 N hr hp hC))
      exact ⟨rfl, rfl, rfl, trivial⟩
theorem cs_605 (hd : 2 ≤ d) (hS : mz_extR S 342) (hR : mz_rok R 342)  (v1 : Int32) (v2 : Int32) (N : mz_N) (hp : cp_605_0 v1 v2 N) (hq : Q (.inl (some (.int ((cf_605_0 v1 v2 N).1)))) (mz_k S R ((cf_605_0 v1 v2 N).2) b t)) : mz_Ed (mz_X0 L xs) d 605 [.ref 232, .int v1, .int v2] (mz_k S R N b t) Q :=
  by
  refine g_in mzq_605 (Nat.le_of_ble_eq_true rfl) (Nat.le_of_ble_eq_true rfl) (Nat.le_trans (Nat.le_of_ble_eq_true rfl) hd) ?_
  refine g_weak ?_ (cg_605_0 (d := d - 1) (by omega) hS hR v1 v2 N (C0 := fun z => Q (.inl (some (.int z.1))) (mz_k S R z.2 b t)) (fun _ _ h => h) hp hq)
  exact ⟨rfl, rfl, rfl, trivial⟩
/-! 606 KeptHouseModel.empty ()I -/
theorem ms_606_0 : mz_sf mk_606 0 = mk_606 := mz_sf_zero _
theorem ms_606_9 : mz_sf mk_606 9 = mt_606_9 := mz_sf_add ms_606_0 (t := 9) rfl rfl
set_option maxRecDepth 100000 in
theorem mzq_606 : mz_PG0 606 = some (12, ⟨"KeptHouseModel", "empty", "()I"⟩, prog_14_method_199_code, 2, some .int, [], mk_606, []) := rfl
theorem cg_606_0 (hd : 1 ≤ d) (hS : mz_extR S 342) (hR : mz_rok R 342)  (N : mz_N) {C0 : (Int32 × mz_N) → Prop} (hr : ∀ (w : Int32) (N2 : mz_N), C0 (w, N2) → Q (.inl (some (.int w))) (mz_k S R N2 b t)) (hp : cp_606_0 N) (hC : C0 (cf_606_0 N)) : mz_G (d, mz_X0 L xs, some .int, [], mk_606, 2, Q) 0 mk_606 [(0, .ref 232)] [] true (mz_k S R N b t) := by
  unfold cf_606_0 at hC
  unfold cp_606_0 at hp
  refine g_aload_n rfl ?_
  have h1 := hp
  refine g_v1v (Nat.le_of_ble_eq_true rfl) (mz_at hS (Nat.le_of_ble_eq_true rfl) mzcS_232) (fun _ hq => cs_484 (Nat.le_trans (Nat.le_of_ble_eq_true rfl) hd) (hS.le (Nat.le_of_ble_eq_true rfl)) (hR.le (Nat.le_of_ble_eq_true rfl))  N h1 hq) ?_
  refine g_zeq (tg := 9) rfl ms_606_9 hC (fun h2 hC => ?_) (fun h2 hC => ?_)
  · refine g_iconst mzi_0 ?_
    exact g_iret rfl (hr _ _ hC)
  · refine g_aload_n rfl (g_getI (mz_at hS (Nat.le_of_ble_eq_true rfl) mzcS_232) mzcf_12_143 (g_istore_n (Nat.le_of_ble_eq_true rfl) rfl (g_aload_n rfl (g_iconst mzi_0 (g_putI (mz_at hS (Nat.le_of_ble_eq_true rfl) mzcS_232) mzcf_12_143 (g_iload_n rfl ?_))))))
    exact g_iret rfl (hr _ _ hC)
theorem cs_606 (hd : 2 ≤ d) (hS : mz_extR S 342) (hR : mz_rok R 342)  (N : mz_N) (hp : cp_606_0 N) (hq : Q (.inl (some (.int ((cf_606_0 N).1)))) (mz_k S R ((cf_606_0 N).2) b t)) : mz_Ed (mz_X0 L xs) d 606 [.ref 232] (mz_k S R N b t) Q :=
  by
  refine g_in mzq_606 (Nat.le_of_ble_eq_true rfl) (Nat.le_of_ble_eq_true rfl) (Nat.le_trans (Nat.le_of_ble_eq_true rfl) hd) ?_
  refine g_weak ?_ (cg_606_0 (d := d - 1) (by omega) hS hR N (C0 := fun z => Q (.inl (some (.int z.1))) (mz_k S R z.2 b t)) (fun _ _ h => h) hp hq)
  exact ⟨rfl, trivial⟩
/-! 609 KeptHouseModel.takeKeys ()Z -/
theorem ms_609_0 : mz_sf mk_609 0 = mk_609 := mz_sf_zero _
theorem ms_609_2 : mz_sf mk_609 2 = mt_609_2 := mz_sf_add ms_609_0 (t := 2) rfl rfl
theorem ms_609_22 : mz_sf mk_609 22 = mt_609_22 := mz_sf_add ms_609_2 (t := 20) rfl rfl
theorem ms_609_26 : mz_sf mk_609 26 = mt_609_26 := mz_sf_add ms_609_22 (t := 4) rfl rfl
theorem ms_609_62 : mz_sf mk_609 62 = mt_609_62 := mz_sf_add ms_609_26 (t := 36) rfl rfl
theorem ms_609_69 : mz_sf mk_609 69 = mt_609_69 := mz_sf_add ms_609_62 (t := 7) rfl rfl
theorem ms_609_79 : mz_sf mk_609 79 = mt_609_79 := mz_sf_add ms_609_69 (t := 10) rfl rfl
theorem ms_609_109 : mz_sf mk_609 109 = mt_609_109 := mz_sf_add ms_609_79 (t := 30) rfl rfl
theorem ms_609_115 : mz_sf mk_609 115 = mt_609_115 := mz_sf_add ms_609_109 (t := 6) rfl rfl
theorem ms_609_123 : mz_sf mk_609 123 = mt_609_123 := mz_sf_add ms_609_115 (t := 8) rfl rfl
set_option maxRecDepth 100000 in
theorem mzq_609 : mz_PG0 609 = some (12, ⟨"KeptHouseModel", "takeKeys", "()Z"⟩, prog_14_method_200_code, 5, some .boolean, [], mk_609, []) := rfl
theorem cg_609_109 (hd : 2 ≤ d) (hS : mz_extR S 342) (hR : mz_rok R 342)  (v2 : Int32) (v3 : Int32) (v4 : Int32) (N : mz_N) {C0 : (Bool × mz_N) → Prop} (hr : ∀ (w : Bool) (N2 : mz_N), C0 (w, N2) → Q (.inl (some (.int (mz_b01 w)))) (mz_k S R N2 b t)) {C1 : ((Int32 × Int32 × mz_N) ⊕ (Bool × mz_N)) → Prop} (hc1 : ∀ s2, C1 (.inl s2) → mz_G (d, mz_X0 L xs, some .boolean, [], mk_609, 5, Q) 26 mt_609_26 [(0, .ref 232), (1, .int s2.1), (2, .int s2.2.1)] [] false (mz_k S R s2.2.2 b t)) (hx1 : ∀ z, C1 (.inr z) → C0 z) {C2 : ((Int32 × mz_N) ⊕ ((Int32 × Int32 × mz_N) ⊕ (Bool × mz_N))) → Prop} (hc2 : ∀ s2, C2 (.inl s2) → mz_G (d, mz_X0 L xs, some .boolean, [], mk_609, 5, Q) 79 mt_609_79 [(0, .ref 232), (2, .int v2), (3, .int v3), (4, .int s2.1)] [] false (mz_k S R s2.2 b t)) (hx2 : ∀ z, C2 (.inr z) → C1 z) (hp : cp_609_109 v2 v3 v4 N) (hC : C2 (cf_609_109 v2 v3 v4 N)) : mz_G (d, mz_X0 L xs, some .boolean, [], mk_609, 5, Q) 109 mt_609_109 [(0, .ref 232), (2, .int v2), (3, .int v3), (4, .int v4)] [] false (mz_k S R N b t) := by
  unfold cf_609_109 at hC
  unfold cp_609_109 at hp
  refine g_iinc rfl mzi_1 (Nat.le_of_ble_eq_true rfl) rfl (g_goto (tg := 79) rfl ms_609_79 ?_)
  refine g_weak ?_ (g_cl (hc2 ((v4 + 1), N) hC))
  exact ⟨rfl, rfl, rfl, rfl, trivial⟩
theorem cb_609_79 (hd : 2 ≤ d) (hS : mz_extR S 342) (hR : mz_rok R 342)  (v2 : Int32) (v3 : Int32) (s : Int32 × mz_N) {C0 : (Bool × mz_N) → Prop} (hr : ∀ (w : Bool) (N2 : mz_N), C0 (w, N2) → Q (.inl (some (.int (mz_b01 w)))) (mz_k S R N2 b t)) {C1 : ((Int32 × Int32 × mz_N) ⊕ (Bool × mz_N)) → Prop} (hc1 : ∀ s2, C1 (.inl s2) → mz_G (d, mz_X0 L xs, some .boolean, [], mk_609, 5, Q) 26 mt_609_26 [(0, .ref 232), (1, .int s2.1), (2, .int s2.2.1)] [] false (mz_k S R s2.2.2 b t)) (hx1 : ∀ z, C1 (.inr z) → C0 z) {C2 : ((Int32 × mz_N) ⊕ ((Int32 × Int32 × mz_N) ⊕ (Bool × mz_N))) → Prop} (hc2 : ∀ s2, C2 (.inl s2) → mz_G (d, mz_X0 L xs, some .boolean, [], mk_609, 5, Q) 79 mt_609_79 [(0, .ref 232), (2, .int v2), (3, .int v3), (4, .int s2.1)] [] false (mz_k S R s2.2 b t)) (hx2 : ∀ z, C2 (.inr z) → C1 z) (hp : cd_609_79 v2 v3 s) (hC : C2 (cq_609_79 v2 v3 s)) : mz_G (d, mz_X0 L xs, some .boolean, [], mk_609, 5, Q) 79 mt_609_79 [(0, .ref 232), (2, .int v2), (3, .int v3), (4, .int s.1)] [] false (mz_k S R s.2 b t) := by
  unfold cq_609_79 at hC
  unfold cd_609_79 at hp
  refine g_iload rfl (g_bipush mzb_28 ?_)
  refine g_icge (tg := 115) rfl ms_609_115 hC (fun h1 hC => ?_) (fun h1 hC => ?_)
  · have hp := hp.1 h1
    refine g_aload_n rfl (g_getR (mz_at hS (Nat.le_of_ble_eq_true rfl) mzcS_232) mzcf_12_145 (mz_rb hR (Nat.le_of_ble_eq_true rfl) rfl mzcR_232_145) (g_bipush mzb_28 (g_iload_n rfl (g_imul (g_iload rfl (g_iadd (g_aload_n rfl ?_)))))))
    refine g_getR (mz_at hS (Nat.le_of_ble_eq_true rfl) mzcS_232) mzcf_12_142 (mz_rb hR (Nat.le_of_ble_eq_true rfl) rfl mzcR_232_142) (g_iload_n rfl (g_iconst mzi_2 (g_iadd (g_iload rfl (g_iadd ?_)))))
    obtain ⟨h2, hp⟩ := hp
    refine g_bald (mz_at hS (Nat.le_of_ble_eq_true rfl) mzcS_335) h2 ?_
    obtain ⟨h3, hp⟩ := hp
    refine g_bast (mz_at hS (Nat.le_of_ble_eq_true rfl) mzcS_337) h3 ?_
    refine g_weak ?_ (g_cl (cg_609_109 hd hS hR v2 v3 s.1 (mz_wI s.2 337 ((28 * v3) + s.1) (mz_nb (mz_gI s.2 335 ((v2 + 2) + s.1)))) hr hc1 hx1 hc2 hx2 hp hC))
    exact ⟨rfl, rfl, rfl, rfl, trivial⟩
  · have hp := hp.2 h1
    refine g_iload_n rfl (g_istore_n (Nat.le_of_ble_eq_true rfl) rfl (g_iinc rfl mzi_30 (Nat.le_of_ble_eq_true rfl) rfl (g_goto (tg := 26) rfl ms_609_26 ?_)))
    refine g_weak ?_ (g_cl (hc1 (v3, (v2 + 30), s.2) (hx2 _ hC)))
    exact ⟨rfl, rfl, rfl, trivial⟩
theorem cg_609_79 (hd : 2 ≤ d) (hS : mz_extR S 342) (hR : mz_rok R 342)  (v2 : Int32) (v3 : Int32) (v4 : Int32) (N : mz_N) {C0 : (Bool × mz_N) → Prop} (hr : ∀ (w : Bool) (N2 : mz_N), C0 (w, N2) → Q (.inl (some (.int (mz_b01 w)))) (mz_k S R N2 b t)) {C1 : ((Int32 × Int32 × mz_N) ⊕ (Bool × mz_N)) → Prop} (hc1 : ∀ s2, C1 (.inl s2) → mz_G (d, mz_X0 L xs, some .boolean, [], mk_609, 5, Q) 26 mt_609_26 [(0, .ref 232), (1, .int s2.1), (2, .int s2.2.1)] [] false (mz_k S R s2.2.2 b t)) (hx1 : ∀ z, C1 (.inr z) → C0 z) (hp : cp_609_79 v2 v3 v4 N) (hC : C1 (cf_609_79 v2 v3 v4 N)) : mz_G (d, mz_X0 L xs, some .boolean, [], mk_609, 5, Q) 79 mt_609_79 [(0, .ref 232), (2, .int v2), (3, .int v3), (4, .int v4)] [] false (mz_k S R N b t) := by
  obtain ⟨n, hn⟩ := hp
  exact g_loop (G := fun s => mz_G (d, mz_X0 L xs, some .boolean, [], mk_609, 5, Q) 79 mt_609_79 [(0, .ref 232), (2, .int v2), (3, .int v3), (4, .int s.1)] [] false (mz_k S R s.2 b t)) (C := C1) (fun C2 hc hx s hP hC => cb_609_79 hd hS hR v2 v3 s hr hc1 hx1 hc hx hP hC) n (v4, N) hn hC
theorem cb_609_26 (hd : 2 ≤ d) (hS : mz_extR S 342) (hR : mz_rok R 342)   (s : Int32 × Int32 × mz_N) {C0 : (Bool × mz_N) → Prop} (hr : ∀ (w : Bool) (N2 : mz_N), C0 (w, N2) → Q (.inl (some (.int (mz_b01 w)))) (mz_k S R N2 b t)) {C1 : ((Int32 × Int32 × mz_N) ⊕ (Bool × mz_N)) → Prop} (hc1 : ∀ s2, C1 (.inl s2) → mz_G (d, mz_X0 L xs, some .boolean, [], mk_609, 5, Q) 26 mt_609_26 [(0, .ref 232), (1, .int s2.1), (2, .int s2.2.1)] [] false (mz_k S R s2.2.2 b t)) (hx1 : ∀ z, C1 (.inr z) → C0 z) (hp : cd_609_26  s) (hC : C1 (cq_609_26  s)) : mz_G (d, mz_X0 L xs, some .boolean, [], mk_609, 5, Q) 26 mt_609_26 [(0, .ref 232), (1, .int s.1), (2, .int s.2.1)] [] false (mz_k S R s.2.2 b t) := by
  unfold cq_609_26 at hC
  unfold cd_609_26 at hp
  refine g_iload_n rfl (g_iconst mzi_4 (g_iadd (g_aload_n rfl (g_getI (mz_at hS (Nat.le_of_ble_eq_true rfl) mzcS_232) mzcf_12_143 ?_))))
  refine g_icge (tg := 123) rfl ms_609_123 hC (fun h1 hC => ?_) (fun h1 hC => ?_)
  · have hp := hp.1 h1
    refine g_aload_n rfl (g_getR (mz_at hS (Nat.le_of_ble_eq_true rfl) mzcS_232) mzcf_12_142 (mz_rb hR (Nat.le_of_ble_eq_true rfl) rfl mzcR_232_142) (g_iload_n rfl ?_))
    obtain ⟨h2, hp⟩ := hp
    refine g_bald (mz_at hS (Nat.le_of_ble_eq_true rfl) mzcS_335) h2 (g_sipush mzs_255 (g_iand (g_aload_n rfl (g_getR (mz_at hS (Nat.le_of_ble_eq_true rfl) mzcS_232) mzcf_12_142 (mz_rb hR (Nat.le_of_ble_eq_true rfl) rfl mzcR_232_142) (g_iload_n rfl (g_iconst mzi_1 (g_iadd ?_)))))))
    obtain ⟨h3, hp⟩ := hp
    refine g_bald (mz_at hS (Nat.le_of_ble_eq_true rfl) mzcS_335) h3 (g_sipush mzs_255 (g_iand ?_))
    refine g_s2v (Nat.le_of_ble_eq_true rfl) (fun _ hq => cs_473 (Nat.le_trans (Nat.le_of_ble_eq_true rfl) hd) (hS.le (Nat.le_of_ble_eq_true rfl)) (hR.le (Nat.le_of_ble_eq_true rfl))  ((mz_gI s.2.2 335 s.2.1) &&& 255) ((mz_gI s.2.2 335 (s.2.1 + 1)) &&& 255) trivial hq) (g_istore_n (Nat.le_of_ble_eq_true rfl) rfl (g_iload_n rfl (g_iload_n rfl ?_)))
    refine g_icgt (tg := 69) rfl ms_609_69 hC (fun h5 hC => ?_) (fun h5 hC => ?_)
    · have hp := hp.1 h5
      refine g_aload_n rfl (g_getR (mz_at hS (Nat.le_of_ble_eq_true rfl) mzcS_232) mzcf_12_144 (mz_rb hR (Nat.le_of_ble_eq_true rfl) rfl mzcR_232_144) (g_iload_n rfl (g_iconst mzi_1 ?_)))
      obtain ⟨h6, hp⟩ := hp
      refine g_zast (z := true) (mz_at hS (Nat.le_of_ble_eq_true rfl) mzcS_336) h6 (g_iconst mzi_0 (g_istore (Nat.le_of_ble_eq_true rfl) rfl ?_))
      refine g_weak ?_ (g_cl (cg_609_79 hd hS hR s.2.1 (cf_473_0 ((mz_gI s.2.2 335 s.2.1) &&& 255) ((mz_gI s.2.2 335 (s.2.1 + 1)) &&& 255)) 0 (mz_wI s.2.2 336 (cf_473_0 ((mz_gI s.2.2 335 s.2.1) &&& 255) ((mz_gI s.2.2 335 (s.2.1 + 1)) &&& 255)) (mz_b01 true)) hr hc1 hx1 hp hC))
      exact ⟨rfl, rfl, rfl, rfl, trivial⟩
    · have hp := hp.2 h5
      refine g_iconst mzi_0 ?_
      exact g_zret (z := false) rfl (hr _ _ (hx1 _ hC))
  · have hp := hp.2 h1
    refine g_iconst mzi_1 ?_
    exact g_zret (z := true) rfl (hr _ _ (hx1 _ hC))
theorem cg_609_26 (hd : 2 ≤ d) (hS : mz_extR S 342) (hR : mz_rok R 342)  (v1 : Int32) (v2 : Int32) (N : mz_N) {C0 : (Bool × mz_N) → Prop} (hr : ∀ (w : Bool) (N2 : mz_N), C0 (w, N2) → Q (.inl (some (.int (mz_b01 w)))) (mz_k S R N2 b t)) (hp : cp_609_26 v1 v2 N) (hC : C0 (cf_609_26 v1 v2 N)) : mz_G (d, mz_X0 L xs, some .boolean, [], mk_609, 5, Q) 26 mt_609_26 [(0, .ref 232), (1, .int v1), (2, .int v2)] [] false (mz_k S R N b t) := by
  obtain ⟨n, hn⟩ := hp
  exact g_loop (G := fun s => mz_G (d, mz_X0 L xs, some .boolean, [], mk_609, 5, Q) 26 mt_609_26 [(0, .ref 232), (1, .int s.1), (2, .int s.2.1)] [] false (mz_k S R s.2.2 b t)) (C := C0) (fun C2 hc hx s hP hC => cb_609_26 hd hS hR  s hr hc hx hP hC) n (v1, v2, N) hn hC
theorem cb_609_2 (hd : 2 ≤ d) (hS : mz_extR S 342) (hR : mz_rok R 342)   (s : Int32 × mz_N) {C0 : (Bool × mz_N) → Prop} (hr : ∀ (w : Bool) (N2 : mz_N), C0 (w, N2) → Q (.inl (some (.int (mz_b01 w)))) (mz_k S R N2 b t)) {C1 : ((Int32 × mz_N) ⊕ (Bool × mz_N)) → Prop} (hc1 : ∀ s2, C1 (.inl s2) → mz_G (d, mz_X0 L xs, some .boolean, [], mk_609, 5, Q) 2 mt_609_2 [(0, .ref 232), (1, .int s2.1)] [] false (mz_k S R s2.2 b t)) (hx1 : ∀ z, C1 (.inr z) → C0 z) (hp : cd_609_2  s) (hC : C1 (cq_609_2  s)) : mz_G (d, mz_X0 L xs, some .boolean, [], mk_609, 5, Q) 2 mt_609_2 [(0, .ref 232), (1, .int s.1)] [] false (mz_k S R s.2 b t) := by
  unfold cq_609_2 at hC
  unfold cd_609_2 at hp
  refine g_iload_n rfl (g_sipush mzs_135 ?_)
  refine g_icge (tg := 22) rfl ms_609_22 hC (fun h1 hC => ?_) (fun h1 hC => ?_)
  · have hp := hp.1 h1
    refine g_aload_n rfl (g_getR (mz_at hS (Nat.le_of_ble_eq_true rfl) mzcS_232) mzcf_12_144 (mz_rb hR (Nat.le_of_ble_eq_true rfl) rfl mzcR_232_144) (g_iload_n rfl (g_iconst mzi_0 ?_)))
    have h2 := hp
    refine g_zast (z := false) (mz_at hS (Nat.le_of_ble_eq_true rfl) mzcS_336) h2 (g_iinc rfl mzi_1 (Nat.le_of_ble_eq_true rfl) rfl (g_goto (tg := 2) rfl ms_609_2 ?_))
    refine g_weak ?_ (g_cl (hc1 ((s.1 + 1), mz_wI s.2 336 s.1 (mz_b01 false)) hC))
    exact ⟨rfl, rfl, trivial⟩
  · have hp := hp.2 h1
    refine g_iconst mzi_m1 (g_istore_n (Nat.le_of_ble_eq_true rfl) rfl (g_iconst mzi_2 (g_istore_n (Nat.le_of_ble_eq_true rfl) rfl ?_)))
    refine g_weak ?_ (g_cl (cg_609_26 hd hS hR (-1) 2 s.2 hr hp (hx1 _ hC)))
    exact ⟨rfl, rfl, rfl, trivial⟩
theorem cg_609_2 (hd : 2 ≤ d) (hS : mz_extR S 342) (hR : mz_rok R 342)  (v1 : Int32) (N : mz_N) {C0 : (Bool × mz_N) → Prop} (hr : ∀ (w : Bool) (N2 : mz_N), C0 (w, N2) → Q (.inl (some (.int (mz_b01 w)))) (mz_k S R N2 b t)) (hp : cp_609_2 v1 N) (hC : C0 (cf_609_2 v1 N)) : mz_G (d, mz_X0 L xs, some .boolean, [], mk_609, 5, Q) 2 mt_609_2 [(0, .ref 232), (1, .int v1)] [] false (mz_k S R N b t) := by
  obtain ⟨n, hn⟩ := hp
  exact g_loop (G := fun s => mz_G (d, mz_X0 L xs, some .boolean, [], mk_609, 5, Q) 2 mt_609_2 [(0, .ref 232), (1, .int s.1)] [] false (mz_k S R s.2 b t)) (C := C0) (fun C2 hc hx s hP hC => cb_609_2 hd hS hR  s hr hc hx hP hC) n (v1, N) hn hC
theorem cg_609_0 (hd : 2 ≤ d) (hS : mz_extR S 342) (hR : mz_rok R 342)  (N : mz_N) {C0 : (Bool × mz_N) → Prop} (hr : ∀ (w : Bool) (N2 : mz_N), C0 (w, N2) → Q (.inl (some (.int (mz_b01 w)))) (mz_k S R N2 b t)) (hp : cp_609_0 N) (hC : C0 (cf_609_0 N)) : mz_G (d, mz_X0 L xs, some .boolean, [], mk_609, 5, Q) 0 mk_609 [(0, .ref 232)] [] true (mz_k S R N b t) := by
  unfold cf_609_0 at hC
  unfold cp_609_0 at hp
  refine g_iconst mzi_0 (g_istore_n (Nat.le_of_ble_eq_true rfl) rfl ?_)
  refine g_weak ?_ (g_cl (cg_609_2 hd hS hR 0 N hr hp hC))
  exact ⟨rfl, rfl, trivial⟩
theorem cs_609 (hd : 3 ≤ d) (hS : mz_extR S 342) (hR : mz_rok R 342)  (N : mz_N) (hp : cp_609_0 N) (hq : Q (.inl (some (.int (mz_b01 ((cf_609_0 N).1))))) (mz_k S R ((cf_609_0 N).2) b t)) : mz_Ed (mz_X0 L xs) d 609 [.ref 232] (mz_k S R N b t) Q :=
  by
  refine g_in mzq_609 (Nat.le_of_ble_eq_true rfl) (Nat.le_of_ble_eq_true rfl) (Nat.le_trans (Nat.le_of_ble_eq_true rfl) hd) ?_
  refine g_weak ?_ (cg_609_0 (d := d - 1) (by omega) hS hR N (C0 := fun z => Q (.inl (some (.int (mz_b01 z.1)))) (mz_k S R z.2 b t)) (fun _ _ h => h) hp hq)
  exact ⟨rfl, trivial⟩
/-! 612 KeptHouseModel.byteIn (II)I -/
theorem ms_612_0 : mz_sf mk_612 0 = mk_612 := mz_sf_zero _
set_option maxRecDepth 100000 in
theorem mzq_612 : mz_PG0 612 = some (12, ⟨"KeptHouseModel", "byteIn", "(II)I"⟩, prog_14_method_201_code, 3, some .int, [], mk_612, []) := rfl
theorem cg_612_0 (hd : 0 ≤ d) (hS : mz_extR S 342) (hR : mz_rok R 342)  (v1 : Int32) (v2 : Int32) (N : mz_N) {C0 : (Int32) → Prop} (hr : ∀ (w : Int32), C0 w → Q (.inl (some (.int w))) (mz_k S R N b t)) (hp : cp_612_0 v1 v2 N) (hC : C0 (cf_612_0 v1 v2 N)) : mz_G (d, mz_X0 L xs, some .int, [], mk_612, 3, Q) 0 mk_612 [(0, .ref 232), (1, .int v1), (2, .int v2)] [] true (mz_k S R N b t) := by
  unfold cf_612_0 at hC
  unfold cp_612_0 at hp
  refine g_aload_n rfl (g_getR (mz_at hS (Nat.le_of_ble_eq_true rfl) mzcS_232) mzcf_12_145 (mz_rb hR (Nat.le_of_ble_eq_true rfl) rfl mzcR_232_145) (g_iload_n rfl (g_iload_n rfl (g_iadd ?_))))
  have h1 := hp
  refine g_bald (mz_at hS (Nat.le_of_ble_eq_true rfl) mzcS_337) h1 (g_sipush mzs_255 (g_iand ?_))
  exact g_iret rfl (hr _ hC)
theorem cs_612 (hd : 1 ≤ d) (hS : mz_extR S 342) (hR : mz_rok R 342)  (v1 : Int32) (v2 : Int32) (N : mz_N) (hp : cp_612_0 v1 v2 N) (hq : Q (.inl (some (.int (cf_612_0 v1 v2 N)))) (mz_k S R N b t)) : mz_Ed (mz_X0 L xs) d 612 [.ref 232, .int v1, .int v2] (mz_k S R N b t) Q :=
  by
  refine g_in mzq_612 (Nat.le_of_ble_eq_true rfl) (Nat.le_of_ble_eq_true rfl) (Nat.le_trans (Nat.le_of_ble_eq_true rfl) hd) ?_
  refine g_weak ?_ (cg_612_0 (d := d - 1) (by omega) hS hR v1 v2 N (C0 := fun z => Q (.inl (some (.int z))) (mz_k S R N b t)) (fun _ h => h) hp hq)
  exact ⟨rfl, rfl, rfl, trivial⟩
/-! 611 KeptHouseModel.isPlan (I)Z -/
theorem ms_611_0 : mz_sf mk_611 0 = mk_611 := mz_sf_zero _
theorem ms_611_16 : mz_sf mk_611 16 = mt_611_16 := mz_sf_add ms_611_0 (t := 16) rfl rfl
theorem ms_611_17 : mz_sf mk_611 17 = mt_611_17 := mz_sf_add ms_611_16 (t := 1) rfl rfl
theorem ms_611_20 : mz_sf mk_611 20 = mt_611_20 := mz_sf_add ms_611_17 (t := 3) rfl rfl
theorem ms_611_57 : mz_sf mk_611 57 = mt_611_57 := mz_sf_add ms_611_20 (t := 37) rfl rfl
theorem ms_611_61 : mz_sf mk_611 61 = mt_611_61 := mz_sf_add ms_611_57 (t := 4) rfl rfl
theorem ms_611_62 : mz_sf mk_611 62 = mt_611_62 := mz_sf_add ms_611_61 (t := 1) rfl rfl
theorem ms_611_69 : mz_sf mk_611 69 = mt_611_69 := mz_sf_add ms_611_62 (t := 7) rfl rfl
set_option maxRecDepth 100000 in
theorem mzq_611 : mz_PG0 611 = some (12, ⟨"KeptHouseModel", "isPlan", "(I)Z"⟩, prog_14_method_207_code, 4, some .boolean, [], mk_611, []) := rfl
theorem cg_611_62 (hd : 1 ≤ d) (hS : mz_extR S 342) (hR : mz_rok R 342)  (s0 : Bool) (v1 : Int32) (v3 : Int32) (N : mz_N) {C0 : (Bool) → Prop} (hr : ∀ (w : Bool), C0 w → Q (.inl (some (.int (mz_b01 w)))) (mz_k S R N b t)) {C1 : ((Bool × Int32) ⊕ (Bool)) → Prop} (hc1 : ∀ s2, C1 (.inl s2) → mz_G (d, mz_X0 L xs, some .boolean, [], mk_611, 4, Q) 20 mt_611_20 [(0, .ref 232), (1, .int v1), (2, .int (mz_b01 s2.1)), (3, .int s2.2)] [] false (mz_k S R N b t)) (hx1 : ∀ z, C1 (.inr z) → C0 z) (hp : cp_611_62 s0 v1 v3 N) (hC : C1 (cf_611_62 s0 v1 v3 N)) : mz_G (d, mz_X0 L xs, some .boolean, [], mk_611, 4, Q) 62 mt_611_62 [(0, .ref 232), (1, .int v1), (3, .int v3)] [.int (mz_b01 s0)] false (mz_k S R N b t) := by
  unfold cf_611_62 at hC
  unfold cp_611_62 at hp
  refine g_istore_n (Nat.le_of_ble_eq_true rfl) rfl (g_iinc rfl mzi_1 (Nat.le_of_ble_eq_true rfl) rfl (g_goto (tg := 20) rfl ms_611_20 ?_))
  refine g_weak ?_ (g_cl (hc1 (s0, (v3 + 1)) hC))
  exact ⟨rfl, rfl, rfl, rfl, trivial⟩
theorem cg_611_57 (hd : 1 ≤ d) (hS : mz_extR S 342) (hR : mz_rok R 342)  (v1 : Int32) (v3 : Int32) (N : mz_N) {C0 : (Bool) → Prop} (hr : ∀ (w : Bool), C0 w → Q (.inl (some (.int (mz_b01 w)))) (mz_k S R N b t)) {C1 : ((Bool × Int32) ⊕ (Bool)) → Prop} (hc1 : ∀ s2, C1 (.inl s2) → mz_G (d, mz_X0 L xs, some .boolean, [], mk_611, 4, Q) 20 mt_611_20 [(0, .ref 232), (1, .int v1), (2, .int (mz_b01 s2.1)), (3, .int s2.2)] [] false (mz_k S R N b t)) (hx1 : ∀ z, C1 (.inr z) → C0 z) (hp : cp_611_57 v1 v3 N) (hC : C1 (cf_611_57 v1 v3 N)) : mz_G (d, mz_X0 L xs, some .boolean, [], mk_611, 4, Q) 57 mt_611_57 [(0, .ref 232), (1, .int v1), (3, .int v3)] [] false (mz_k S R N b t) := by
  unfold cf_611_57 at hC
  unfold cp_611_57 at hp
  refine g_iconst mzi_1 (g_goto (tg := 62) rfl ms_611_62 ?_)
  refine g_weak ?_ (g_cl (cg_611_62 hd hS hR true v1 v3 N hr hc1 hx1 hp hC))
  exact ⟨rfl, rfl, rfl, trivial⟩
theorem cg_611_61 (hd : 1 ≤ d) (hS : mz_extR S 342) (hR : mz_rok R 342)  (v1 : Int32) (v3 : Int32) (N : mz_N) {C0 : (Bool) → Prop} (hr : ∀ (w : Bool), C0 w → Q (.inl (some (.int (mz_b01 w)))) (mz_k S R N b t)) {C1 : ((Bool × Int32) ⊕ (Bool)) → Prop} (hc1 : ∀ s2, C1 (.inl s2) → mz_G (d, mz_X0 L xs, some .boolean, [], mk_611, 4, Q) 20 mt_611_20 [(0, .ref 232), (1, .int v1), (2, .int (mz_b01 s2.1)), (3, .int s2.2)] [] false (mz_k S R N b t)) (hx1 : ∀ z, C1 (.inr z) → C0 z) (hp : cp_611_61 v1 v3 N) (hC : C1 (cf_611_61 v1 v3 N)) : mz_G (d, mz_X0 L xs, some .boolean, [], mk_611, 4, Q) 61 mt_611_61 [(0, .ref 232), (1, .int v1), (3, .int v3)] [] false (mz_k S R N b t) := by
  unfold cf_611_61 at hC
  unfold cp_611_61 at hp
  refine g_iconst mzi_0 ?_
  refine g_weak ?_ (g_cl (cg_611_62 hd hS hR false v1 v3 N hr hc1 hx1 hp hC))
  exact ⟨rfl, rfl, rfl, trivial⟩
theorem cb_611_20 (hd : 1 ≤ d) (hS : mz_extR S 342) (hR : mz_rok R 342)  (v1 : Int32) (N : mz_N) (s : Bool × Int32) {C0 : (Bool) → Prop} (hr : ∀ (w : Bool), C0 w → Q (.inl (some (.int (mz_b01 w)))) (mz_k S R N b t)) {C1 : ((Bool × Int32) ⊕ (Bool)) → Prop} (hc1 : ∀ s2, C1 (.inl s2) → mz_G (d, mz_X0 L xs, some .boolean, [], mk_611, 4, Q) 20 mt_611_20 [(0, .ref 232), (1, .int v1), (2, .int (mz_b01 s2.1)), (3, .int s2.2)] [] false (mz_k S R N b t)) (hx1 : ∀ z, C1 (.inr z) → C0 z) (hp : cd_611_20 v1 N s) (hC : C1 (cq_611_20 v1 N s)) : mz_G (d, mz_X0 L xs, some .boolean, [], mk_611, 4, Q) 20 mt_611_20 [(0, .ref 232), (1, .int v1), (2, .int (mz_b01 s.1)), (3, .int s.2)] [] false (mz_k S R N b t) := by
  unfold cq_611_20 at hC
  unfold cd_611_20 at hp
  refine g_iload_n rfl (g_bipush mzb_110 ?_)
  refine g_icge (tg := 69) rfl ms_611_69 hC (fun h1 hC => ?_) (fun h1 hC => ?_)
  · have hp := hp.1 h1
    refine g_iload_n rfl ?_
    refine g_zeq (tg := 61) rfl ms_611_61 hC (fun h2 hC => ?_) (fun h2 hC => ?_)
    · have hp := hp.1 h2
      refine g_iload_n rfl ?_
      refine g_s1v (Nat.le_of_ble_eq_true rfl) (fun _ hq => cs_417 (Nat.le_trans (Nat.le_of_ble_eq_true rfl) hd) (hS.le (Nat.le_of_ble_eq_true rfl)) (hR.le (Nat.le_of_ble_eq_true rfl))  s.2 trivial hq) ?_
      refine g_zeq (tg := 57) rfl ms_611_57 hC (fun h4 hC => ?_) (fun h4 hC => ?_)
      · have hp := hp.1 h4
        refine g_aload_n rfl (g_iload_n rfl (g_iload_n rfl (g_iconst mzi_4 (g_idiv (by decide) ?_))))
        obtain ⟨h5, hp⟩ := hp
        refine g_v3v (Nat.le_of_ble_eq_true rfl) (mz_at hS (Nat.le_of_ble_eq_true rfl) mzcS_232) (fun _ hq => cs_612 (Nat.le_trans (Nat.le_of_ble_eq_true rfl) hd) (hS.le (Nat.le_of_ble_eq_true rfl)) (hR.le (Nat.le_of_ble_eq_true rfl))  v1 (s.2 / 4) N h5 hq) (g_iconst mzi_2 (g_iload_n rfl (g_iconst mzi_4 (g_irem (by decide) (g_imul (g_ishr (g_iconst mzi_3 ?_)))))))
        refine g_iand (g_iconst mzi_1 ?_)
        refine g_icle (tg := 61) rfl ms_611_61 hC (fun h6 hC => ?_) (fun h6 hC => ?_)
        · have hp := hp.1 h6
          refine g_weak ?_ (g_cl (cg_611_57 hd hS hR v1 s.2 N hr hc1 hx1 hp hC))
          exact ⟨rfl, rfl, rfl, trivial⟩
        · have hp := hp.2 h6
          refine g_weak ?_ (g_cl (cg_611_61 hd hS hR v1 s.2 N hr hc1 hx1 hp hC))
          exact ⟨rfl, rfl, rfl, trivial⟩
      · have hp := hp.2 h4
        refine g_weak ?_ (g_cl (cg_611_57 hd hS hR v1 s.2 N hr hc1 hx1 hp hC))
        exact ⟨rfl, rfl, rfl, trivial⟩
    · have hp := hp.2 h2
      refine g_weak ?_ (g_cl (cg_611_61 hd hS hR v1 s.2 N hr hc1 hx1 hp hC))
      exact ⟨rfl, rfl, rfl, trivial⟩
  · have hp := hp.2 h1
    refine g_iload_n rfl ?_
    exact g_zret (z := s.1) rfl (hr _ (hx1 _ hC))
theorem cg_611_20 (hd : 1 ≤ d) (hS : mz_extR S 342) (hR : mz_rok R 342)  (v1 : Int32) (v2 : Bool) (v3 : Int32) (N : mz_N) {C0 : (Bool) → Prop} (hr : ∀ (w : Bool), C0 w → Q (.inl (some (.int (mz_b01 w)))) (mz_k S R N b t)) (hp : cp_611_20 v1 v2 v3 N) (hC : C0 (cf_611_20 v1 v2 v3 N)) : mz_G (d, mz_X0 L xs, some .boolean, [], mk_611, 4, Q) 20 mt_611_20 [(0, .ref 232), (1, .int v1), (2, .int (mz_b01 v2)), (3, .int v3)] [] false (mz_k S R N b t) := by
  obtain ⟨n, hn⟩ := hp
  exact g_loop (G := fun s => mz_G (d, mz_X0 L xs, some .boolean, [], mk_611, 4, Q) 20 mt_611_20 [(0, .ref 232), (1, .int v1), (2, .int (mz_b01 s.1)), (3, .int s.2)] [] false (mz_k S R N b t)) (C := C0) (fun C2 hc hx s hP hC => cb_611_20 hd hS hR v1 N s hr hc hx hP hC) n (v2, v3) hn hC
theorem cg_611_17 (hd : 1 ≤ d) (hS : mz_extR S 342) (hR : mz_rok R 342)  (s0 : Bool) (v1 : Int32) (N : mz_N) {C0 : (Bool) → Prop} (hr : ∀ (w : Bool), C0 w → Q (.inl (some (.int (mz_b01 w)))) (mz_k S R N b t)) (hp : cp_611_17 s0 v1 N) (hC : C0 (cf_611_17 s0 v1 N)) : mz_G (d, mz_X0 L xs, some .boolean, [], mk_611, 4, Q) 17 mt_611_17 [(0, .ref 232), (1, .int v1)] [.int (mz_b01 s0)] false (mz_k S R N b t) := by
  unfold cf_611_17 at hC
  unfold cp_611_17 at hp
  refine g_istore_n (Nat.le_of_ble_eq_true rfl) rfl (g_iconst mzi_0 (g_istore_n (Nat.le_of_ble_eq_true rfl) rfl ?_))
  refine g_weak ?_ (g_cl (cg_611_20 hd hS hR v1 s0 0 N hr hp hC))
  exact ⟨rfl, rfl, rfl, rfl, trivial⟩
theorem cg_611_0 (hd : 1 ≤ d) (hS : mz_extR S 342) (hR : mz_rok R 342)  (v1 : Int32) (N : mz_N) {C0 : (Bool) → Prop} (hr : ∀ (w : Bool), C0 w → Q (.inl (some (.int (mz_b01 w)))) (mz_k S R N b t)) (hp : cp_611_0 v1 N) (hC : C0 (cf_611_0 v1 N)) : mz_G (d, mz_X0 L xs, some .boolean, [], mk_611, 4, Q) 0 mk_611 [(0, .ref 232), (1, .int v1)] [] true (mz_k S R N b t) := by
  unfold cf_611_0 at hC
  unfold cp_611_0 at hp
  refine g_aload_n rfl (g_iload_n rfl (g_bipush mzb_27 ?_))
  obtain ⟨h1, hp⟩ := hp
  refine g_v3v (Nat.le_of_ble_eq_true rfl) (mz_at hS (Nat.le_of_ble_eq_true rfl) mzcS_232) (fun _ hq => cs_612 (Nat.le_trans (Nat.le_of_ble_eq_true rfl) hd) (hS.le (Nat.le_of_ble_eq_true rfl)) (hR.le (Nat.le_of_ble_eq_true rfl))  v1 27 N h1 hq) (g_bipush mzb_16 ?_)
  refine g_icge (tg := 16) rfl ms_611_16 hC (fun h2 hC => ?_) (fun h2 hC => ?_)
  · have hp := hp.1 h2
    refine g_iconst mzi_1 (g_goto (tg := 17) rfl ms_611_17 ?_)
    refine g_weak ?_ (g_cl (cg_611_17 hd hS hR true v1 N hr hp hC))
    exact ⟨rfl, rfl, trivial⟩
  · have hp := hp.2 h2
    refine g_iconst mzi_0 ?_
    refine g_weak ?_ (g_cl (cg_611_17 hd hS hR false v1 N hr hp hC))
    exact ⟨rfl, rfl, trivial⟩
theorem cs_611 (hd : 2 ≤ d) (hS : mz_extR S 342) (hR : mz_rok R 342)  (v1 : Int32) (N : mz_N) (hp : cp_611_0 v1 N) (hq : Q (.inl (some (.int (mz_b01 (cf_611_0 v1 N))))) (mz_k S R N b t)) : mz_Ed (mz_X0 L xs) d 611 [.ref 232, .int v1] (mz_k S R N b t) Q :=
  by
  refine g_in mzq_611 (Nat.le_of_ble_eq_true rfl) (Nat.le_of_ble_eq_true rfl) (Nat.le_trans (Nat.le_of_ble_eq_true rfl) hd) ?_
  refine g_weak ?_ (cg_611_0 (d := d - 1) (by omega) hS hR v1 N (C0 := fun z => Q (.inl (some (.int (mz_b01 z)))) (mz_k S R N b t)) (fun _ h => h) hp hq)
  exact ⟨rfl, rfl, trivial⟩
/-! 615 KeptHouseModel.isAll (IIIII)Z -/
theorem ms_615_0 : mz_sf mk_615 0 = mk_615 := mz_sf_zero _
theorem ms_615_6 : mz_sf mk_615 6 = mt_615_6 := mz_sf_add ms_615_0 (t := 6) rfl rfl
theorem ms_615_41 : mz_sf mk_615 41 = mt_615_41 := mz_sf_add ms_615_6 (t := 35) rfl rfl
theorem ms_615_45 : mz_sf mk_615 45 = mt_615_45 := mz_sf_add ms_615_41 (t := 4) rfl rfl
theorem ms_615_46 : mz_sf mk_615 46 = mt_615_46 := mz_sf_add ms_615_45 (t := 1) rfl rfl
theorem ms_615_54 : mz_sf mk_615 54 = mt_615_54 := mz_sf_add ms_615_46 (t := 8) rfl rfl
set_option maxRecDepth 100000 in
theorem mzq_615 : mz_PG0 615 = some (12, ⟨"KeptHouseModel", "isAll", "(IIIII)Z"⟩, prog_14_method_202_code, 8, some .boolean, [], mk_615, []) := rfl
theorem cg_615_46 (hd : 1 ≤ d) (hS : mz_extR S 342) (hR : mz_rok R 342)  (s0 : Bool) (v1 : Int32) (v3 : Int32) (v4 : Int32) (v5 : Int32) (v7 : Int32) (N : mz_N) {C0 : (Bool) → Prop} (hr : ∀ (w : Bool), C0 w → Q (.inl (some (.int (mz_b01 w)))) (mz_k S R N b t)) {C1 : ((Bool × Int32) ⊕ (Bool)) → Prop} (hc1 : ∀ s2, C1 (.inl s2) → mz_G (d, mz_X0 L xs, some .boolean, [], mk_615, 8, Q) 6 mt_615_6 [(0, .ref 232), (1, .int v1), (3, .int v3), (4, .int v4), (5, .int v5), (6, .int (mz_b01 s2.1)), (7, .int s2.2)] [] false (mz_k S R N b t)) (hx1 : ∀ z, C1 (.inr z) → C0 z) (hp : cp_615_46 s0 v1 v3 v4 v5 v7 N) (hC : C1 (cf_615_46 s0 v1 v3 v4 v5 v7 N)) : mz_G (d, mz_X0 L xs, some .boolean, [], mk_615, 8, Q) 46 mt_615_46 [(0, .ref 232), (1, .int v1), (3, .int v3), (4, .int v4), (5, .int v5), (7, .int v7)] [.int (mz_b01 s0)] false (mz_k S R N b t) := by
  unfold cf_615_46 at hC
  unfold cp_615_46 at hp
  refine g_istore (Nat.le_of_ble_eq_true rfl) rfl (g_iinc rfl mzi_1 (Nat.le_of_ble_eq_true rfl) rfl (g_goto (tg := 6) rfl ms_615_6 ?_))
  refine g_weak ?_ (g_cl (hc1 (s0, (v7 + 1)) hC))
  exact ⟨rfl, rfl, rfl, rfl, rfl, rfl, rfl, trivial⟩
theorem cg_615_45 (hd : 1 ≤ d) (hS : mz_extR S 342) (hR : mz_rok R 342)  (v1 : Int32) (v3 : Int32) (v4 : Int32) (v5 : Int32) (v7 : Int32) (N : mz_N) {C0 : (Bool) → Prop} (hr : ∀ (w : Bool), C0 w → Q (.inl (some (.int (mz_b01 w)))) (mz_k S R N b t)) {C1 : ((Bool × Int32) ⊕ (Bool)) → Prop} (hc1 : ∀ s2, C1 (.inl s2) → mz_G (d, mz_X0 L xs, some .boolean, [], mk_615, 8, Q) 6 mt_615_6 [(0, .ref 232), (1, .int v1), (3, .int v3), (4, .int v4), (5, .int v5), (6, .int (mz_b01 s2.1)), (7, .int s2.2)] [] false (mz_k S R N b t)) (hx1 : ∀ z, C1 (.inr z) → C0 z) (hp : cp_615_45 v1 v3 v4 v5 v7 N) (hC : C1 (cf_615_45 v1 v3 v4 v5 v7 N)) : mz_G (d, mz_X0 L xs, some .boolean, [], mk_615, 8, Q) 45 mt_615_45 [(0, .ref 232), (1, .int v1), (3, .int v3), (4, .int v4), (5, .int v5), (7, .int v7)] [] false (mz_k S R N b t) := by
  unfold cf_615_45 at hC
  unfold cp_615_45 at hp
  refine g_iconst mzi_0 ?_
  refine g_weak ?_ (g_cl (cg_615_46 hd hS hR false v1 v3 v4 v5 v7 N hr hc1 hx1 hp hC))
  exact ⟨rfl, rfl, rfl, rfl, rfl, rfl, trivial⟩
theorem cb_615_6 (hd : 1 ≤ d) (hS : mz_extR S 342) (hR : mz_rok R 342)  (v1 : Int32) (v3 : Int32) (v4 : Int32) (v5 : Int32) (N : mz_N) (s : Bool × Int32) {C0 : (Bool) → Prop} (hr : ∀ (w : Bool), C0 w → Q (.inl (some (.int (mz_b01 w)))) (mz_k S R N b t)) {C1 : ((Bool × Int32) ⊕ (Bool)) → Prop} (hc1 : ∀ s2, C1 (.inl s2) → mz_G (d, mz_X0 L xs, some .boolean, [], mk_615, 8, Q) 6 mt_615_6 [(0, .ref 232), (1, .int v1), (3, .int v3), (4, .int v4), (5, .int v5), (6, .int (mz_b01 s2.1)), (7, .int s2.2)] [] false (mz_k S R N b t)) (hx1 : ∀ z, C1 (.inr z) → C0 z) (hp : cd_615_6 v1 v3 v4 v5 N s) (hC : C1 (cq_615_6 v1 v3 v4 v5 N s)) : mz_G (d, mz_X0 L xs, some .boolean, [], mk_615, 8, Q) 6 mt_615_6 [(0, .ref 232), (1, .int v1), (3, .int v3), (4, .int v4), (5, .int v5), (6, .int (mz_b01 s.1)), (7, .int s.2)] [] false (mz_k S R N b t) := by
  unfold cq_615_6 at hC
  unfold cd_615_6 at hp
  refine g_iload rfl (g_iload_n rfl ?_)
  refine g_icge (tg := 54) rfl ms_615_54 hC (fun h1 hC => ?_) (fun h1 hC => ?_)
  · have hp := hp.1 h1
    refine g_iload rfl ?_
    refine g_zeq (tg := 45) rfl ms_615_45 hC (fun h2 hC => ?_) (fun h2 hC => ?_)
    · have hp := hp.1 h2
      refine g_aload_n rfl (g_iload_n rfl (g_iload rfl ?_))
      obtain ⟨h3, hp⟩ := hp
      refine g_v3v (Nat.le_of_ble_eq_true rfl) (mz_at hS (Nat.le_of_ble_eq_true rfl) mzcS_232) (fun _ hq => cs_612 (Nat.le_trans (Nat.le_of_ble_eq_true rfl) hd) (hS.le (Nat.le_of_ble_eq_true rfl)) (hR.le (Nat.le_of_ble_eq_true rfl))  v1 s.2 N h3 hq) (g_iload rfl ?_)
      refine g_iclt (tg := 45) rfl ms_615_45 hC (fun h4 hC => ?_) (fun h4 hC => ?_)
      · have hp := hp.1 h4
        refine g_weak ?_ (g_cl (cg_615_45 hd hS hR v1 v3 v4 v5 s.2 N hr hc1 hx1 hp hC))
        exact ⟨rfl, rfl, rfl, rfl, rfl, rfl, trivial⟩
      · have hp := hp.2 h4
        refine g_aload_n rfl (g_iload_n rfl (g_iload rfl ?_))
        obtain ⟨h5, hp⟩ := hp
        refine g_v3v (Nat.le_of_ble_eq_true rfl) (mz_at hS (Nat.le_of_ble_eq_true rfl) mzcS_232) (fun _ hq => cs_612 (Nat.le_trans (Nat.le_of_ble_eq_true rfl) hd) (hS.le (Nat.le_of_ble_eq_true rfl)) (hR.le (Nat.le_of_ble_eq_true rfl))  v1 s.2 N h5 hq) (g_iload rfl ?_)
        refine g_icgt (tg := 45) rfl ms_615_45 hC (fun h6 hC => ?_) (fun h6 hC => ?_)
        · have hp := hp.1 h6
          refine g_weak ?_ (g_cl (cg_615_45 hd hS hR v1 v3 v4 v5 s.2 N hr hc1 hx1 hp hC))
          exact ⟨rfl, rfl, rfl, rfl, rfl, rfl, trivial⟩
        · have hp := hp.2 h6
          refine g_iconst mzi_1 (g_goto (tg := 46) rfl ms_615_46 ?_)
          refine g_weak ?_ (g_cl (cg_615_46 hd hS hR true v1 v3 v4 v5 s.2 N hr hc1 hx1 hp hC))
          exact ⟨rfl, rfl, rfl, rfl, rfl, rfl, trivial⟩
    · have hp := hp.2 h2
      refine g_weak ?_ (g_cl (cg_615_45 hd hS hR v1 v3 v4 v5 s.2 N hr hc1 hx1 hp hC))
      exact ⟨rfl, rfl, rfl, rfl, rfl, rfl, trivial⟩
  · have hp := hp.2 h1
    refine g_iload rfl ?_
    exact g_zret (z := s.1) rfl (hr _ (hx1 _ hC))
theorem cg_615_6 (hd : 1 ≤ d) (hS : mz_extR S 342) (hR : mz_rok R 342)  (v1 : Int32) (v3 : Int32) (v4 : Int32) (v5 : Int32) (v6 : Bool) (v7 : Int32) (N : mz_N) {C0 : (Bool) → Prop} (hr : ∀ (w : Bool), C0 w → Q (.inl (some (.int (mz_b01 w)))) (mz_k S R N b t)) (hp : cp_615_6 v1 v3 v4 v5 v6 v7 N) (hC : C0 (cf_615_6 v1 v3 v4 v5 v6 v7 N)) : mz_G (d, mz_X0 L xs, some .boolean, [], mk_615, 8, Q) 6 mt_615_6 [(0, .ref 232), (1, .int v1), (3, .int v3), (4, .int v4), (5, .int v5), (6, .int (mz_b01 v6)), (7, .int v7)] [] false (mz_k S R N b t) := by
  obtain ⟨n, hn⟩ := hp
  exact g_loop (G := fun s => mz_G (d, mz_X0 L xs, some .boolean, [], mk_615, 8, Q) 6 mt_615_6 [(0, .ref 232), (1, .int v1), (3, .int v3), (4, .int v4), (5, .int v5), (6, .int (mz_b01 s.1)), (7, .int s.2)] [] false (mz_k S R N b t)) (C := C0) (fun C2 hc hx s hP hC => cb_615_6 hd hS hR v1 v3 v4 v5 N s hr hc hx hP hC) n (v6, v7) hn hC
theorem cg_615_0 (hd : 1 ≤ d) (hS : mz_extR S 342) (hR : mz_rok R 342)  (v1 : Int32) (v2 : Int32) (v3 : Int32) (v4 : Int32) (v5 : Int32) (N : mz_N) {C0 : (Bool) → Prop} (hr : ∀ (w : Bool), C0 w → Q (.inl (some (.int (mz_b01 w)))) (mz_k S R N b t)) (hp : cp_615_0 v1 v2 v3 v4 v5 N) (hC : C0 (cf_615_0 v1 v2 v3 v4 v5 N)) : mz_G (d, mz_X0 L xs, some .boolean, [], mk_615, 8, Q) 0 mk_615 [(0, .ref 232), (1, .int v1), (2, .int v2), (3, .int v3), (4, .int v4), (5, .int v5)] [] true (mz_k S R N b t) := by
  unfold cf_615_0 at hC
  unfold cp_615_0 at hp
  refine g_iconst mzi_1 (g_istore (Nat.le_of_ble_eq_true rfl) rfl (g_iload_n rfl (g_istore (Nat.le_of_ble_eq_true rfl) rfl ?_)))
  refine g_weak ?_ (g_cl (cg_615_6 hd hS hR v1 v3 v4 v5 true v2 N hr hp hC))
  exact ⟨rfl, rfl, rfl, rfl, rfl, rfl, rfl, trivial⟩
theorem cs_615 (hd : 2 ≤ d) (hS : mz_extR S 342) (hR : mz_rok R 342)  (v1 : Int32) (v2 : Int32) (v3 : Int32) (v4 : Int32) (v5 : Int32) (N : mz_N) (hp : cp_615_0 v1 v2 v3 v4 v5 N) (hq : Q (.inl (some (.int (mz_b01 (cf_615_0 v1 v2 v3 v4 v5 N))))) (mz_k S R N b t)) : mz_Ed (mz_X0 L xs) d 615 [.ref 232, .int v1, .int v2, .int v3, .int v4, .int v5] (mz_k S R N b t) Q :=
  by
  refine g_in mzq_615 (Nat.le_of_ble_eq_true rfl) (Nat.le_of_ble_eq_true rfl) (Nat.le_trans (Nat.le_of_ble_eq_true rfl) hd) ?_
  refine g_weak ?_ (cg_615_0 (d := d - 1) (by omega) hS hR v1 v2 v3 v4 v5 N (C0 := fun z => Q (.inl (some (.int (mz_b01 z)))) (mz_k S R N b t)) (fun _ h => h) hp hq)
  exact ⟨rfl, rfl, rfl, rfl, rfl, rfl, trivial⟩
/-! 614 KeptHouseModel.isRest (II)Z -/
theorem ms_614_0 : mz_sf mk_614 0 = mk_614 := mz_sf_zero _
set_option maxRecDepth 100000 in
theorem mzq_614 : mz_PG0 614 = some (12, ⟨"KeptHouseModel", "isRest", "(II)Z"⟩, prog_14_method_204_code, 3, some .boolean, [], mk_614, []) := rfl
theorem cg_614_0 (hd : 2 ≤ d) (hS : mz_extR S 342) (hR : mz_rok R 342)  (v1 : Int32) (v2 : Int32) (N : mz_N) {C0 : (Bool) → Prop} (hr : ∀ (w : Bool), C0 w → Q (.inl (some (.int (mz_b01 w)))) (mz_k S R N b t)) (hp : cp_614_0 v1 v2 N) (hC : C0 (cf_614_0 v1 v2 N)) : mz_G (d, mz_X0 L xs, some .boolean, [], mk_614, 3, Q) 0 mk_614 [(0, .ref 232), (1, .int v1), (2, .int v2)] [] true (mz_k S R N b t) := by
  unfold cf_614_0 at hC
  unfold cp_614_0 at hp
  refine g_aload_n rfl (g_iload_n rfl (g_iload_n rfl (g_bipush mzb_28 (g_iconst mzi_0 (g_iconst mzi_0 ?_)))))
  have h1 := hp
  refine g_v6v (Nat.le_of_ble_eq_true rfl) (mz_at hS (Nat.le_of_ble_eq_true rfl) mzcS_232) (fun _ hq => cs_615 (Nat.le_trans (Nat.le_of_ble_eq_true rfl) hd) (hS.le (Nat.le_of_ble_eq_true rfl)) (hR.le (Nat.le_of_ble_eq_true rfl))  v1 v2 28 0 0 N h1 hq) ?_
  exact g_zret (z := (cf_615_0 v1 v2 28 0 0 N)) rfl (hr _ hC)
theorem cs_614 (hd : 3 ≤ d) (hS : mz_extR S 342) (hR : mz_rok R 342)  (v1 : Int32) (v2 : Int32) (N : mz_N) (hp : cp_614_0 v1 v2 N) (hq : Q (.inl (some (.int (mz_b01 (cf_614_0 v1 v2 N))))) (mz_k S R N b t)) : mz_Ed (mz_X0 L xs) d 614 [.ref 232, .int v1, .int v2] (mz_k S R N b t) Q :=
  by
  refine g_in mzq_614 (Nat.le_of_ble_eq_true rfl) (Nat.le_of_ble_eq_true rfl) (Nat.le_trans (Nat.le_of_ble_eq_true rfl) hd) ?_
  refine g_weak ?_ (cg_614_0 (d := d - 1) (by omega) hS hR v1 v2 N (C0 := fun z => Q (.inl (some (.int (mz_b01 z)))) (mz_k S R N b t)) (fun _ h => h) hp hq)
  exact ⟨rfl, rfl, rfl, trivial⟩
/-! 613 KeptHouseModel.areFlats (I)Z -/
theorem ms_613_0 : mz_sf mk_613 0 = mk_613 := mz_sf_zero _
theorem ms_613_10 : mz_sf mk_613 10 = mt_613_10 := mz_sf_add ms_613_0 (t := 10) rfl rfl
theorem ms_613_35 : mz_sf mk_613 35 = mt_613_35 := mz_sf_add ms_613_10 (t := 25) rfl rfl
theorem ms_613_53 : mz_sf mk_613 53 = mt_613_53 := mz_sf_add ms_613_35 (t := 18) rfl rfl
theorem ms_613_57 : mz_sf mk_613 57 = mt_613_57 := mz_sf_add ms_613_53 (t := 4) rfl rfl
theorem ms_613_58 : mz_sf mk_613 58 = mt_613_58 := mz_sf_add ms_613_57 (t := 1) rfl rfl
theorem ms_613_65 : mz_sf mk_613 65 = mt_613_65 := mz_sf_add ms_613_58 (t := 7) rfl rfl
set_option maxRecDepth 100000 in
theorem mzq_613 : mz_PG0 613 = some (12, ⟨"KeptHouseModel", "areFlats", "(I)Z"⟩, prog_14_method_208_code, 5, some .boolean, [], mk_613, []) := rfl
theorem cg_613_58 (hd : 3 ≤ d) (hS : mz_extR S 342) (hR : mz_rok R 342)  (s0 : Bool) (v1 : Int32) (v3 : Int32) (N : mz_N) {C0 : (Bool) → Prop} (hr : ∀ (w : Bool), C0 w → Q (.inl (some (.int (mz_b01 w)))) (mz_k S R N b t)) {C1 : ((Bool × Int32) ⊕ (Bool)) → Prop} (hc1 : ∀ s2, C1 (.inl s2) → mz_G (d, mz_X0 L xs, some .boolean, [], mk_613, 5, Q) 10 mt_613_10 [(0, .ref 232), (1, .int v1), (2, .int (mz_b01 s2.1)), (3, .int s2.2)] [] false (mz_k S R N b t)) (hx1 : ∀ z, C1 (.inr z) → C0 z) (hp : cp_613_58 s0 v1 v3 N) (hC : C1 (cf_613_58 s0 v1 v3 N)) : mz_G (d, mz_X0 L xs, some .boolean, [], mk_613, 5, Q) 58 mt_613_58 [(0, .ref 232), (1, .int v1), (3, .int v3)] [.int (mz_b01 s0)] false (mz_k S R N b t) := by
  unfold cf_613_58 at hC
  unfold cp_613_58 at hp
  refine g_istore_n (Nat.le_of_ble_eq_true rfl) rfl (g_iinc rfl mzi_1 (Nat.le_of_ble_eq_true rfl) rfl (g_goto (tg := 10) rfl ms_613_10 ?_))
  refine g_weak ?_ (g_cl (hc1 (s0, (v3 + 1)) hC))
  exact ⟨rfl, rfl, rfl, rfl, trivial⟩
theorem cg_613_57 (hd : 3 ≤ d) (hS : mz_extR S 342) (hR : mz_rok R 342)  (v1 : Int32) (v3 : Int32) (N : mz_N) {C0 : (Bool) → Prop} (hr : ∀ (w : Bool), C0 w → Q (.inl (some (.int (mz_b01 w)))) (mz_k S R N b t)) {C1 : ((Bool × Int32) ⊕ (Bool)) → Prop} (hc1 : ∀ s2, C1 (.inl s2) → mz_G (d, mz_X0 L xs, some .boolean, [], mk_613, 5, Q) 10 mt_613_10 [(0, .ref 232), (1, .int v1), (2, .int (mz_b01 s2.1)), (3, .int s2.2)] [] false (mz_k S R N b t)) (hx1 : ∀ z, C1 (.inr z) → C0 z) (hp : cp_613_57 v1 v3 N) (hC : C1 (cf_613_57 v1 v3 N)) : mz_G (d, mz_X0 L xs, some .boolean, [], mk_613, 5, Q) 57 mt_613_57 [(0, .ref 232), (1, .int v1), (3, .int v3)] [] false (mz_k S R N b t) := by
  unfold cf_613_57 at hC
  unfold cp_613_57 at hp
  refine g_iconst mzi_0 ?_
  refine g_weak ?_ (g_cl (cg_613_58 hd hS hR false v1 v3 N hr hc1 hx1 hp hC))
  exact ⟨rfl, rfl, rfl, trivial⟩
theorem cg_613_53 (hd : 3 ≤ d) (hS : mz_extR S 342) (hR : mz_rok R 342)  (v1 : Int32) (v3 : Int32) (N : mz_N) {C0 : (Bool) → Prop} (hr : ∀ (w : Bool), C0 w → Q (.inl (some (.int (mz_b01 w)))) (mz_k S R N b t)) {C1 : ((Bool × Int32) ⊕ (Bool)) → Prop} (hc1 : ∀ s2, C1 (.inl s2) → mz_G (d, mz_X0 L xs, some .boolean, [], mk_613, 5, Q) 10 mt_613_10 [(0, .ref 232), (1, .int v1), (2, .int (mz_b01 s2.1)), (3, .int s2.2)] [] false (mz_k S R N b t)) (hx1 : ∀ z, C1 (.inr z) → C0 z) (hp : cp_613_53 v1 v3 N) (hC : C1 (cf_613_53 v1 v3 N)) : mz_G (d, mz_X0 L xs, some .boolean, [], mk_613, 5, Q) 53 mt_613_53 [(0, .ref 232), (1, .int v1), (3, .int v3)] [] false (mz_k S R N b t) := by
  unfold cf_613_53 at hC
  unfold cp_613_53 at hp
  refine g_iconst mzi_1 (g_goto (tg := 58) rfl ms_613_58 ?_)
  refine g_weak ?_ (g_cl (cg_613_58 hd hS hR true v1 v3 N hr hc1 hx1 hp hC))
  exact ⟨rfl, rfl, rfl, trivial⟩
theorem cb_613_10 (hd : 3 ≤ d) (hS : mz_extR S 342) (hR : mz_rok R 342)  (v1 : Int32) (N : mz_N) (s : Bool × Int32) {C0 : (Bool) → Prop} (hr : ∀ (w : Bool), C0 w → Q (.inl (some (.int (mz_b01 w)))) (mz_k S R N b t)) {C1 : ((Bool × Int32) ⊕ (Bool)) → Prop} (hc1 : ∀ s2, C1 (.inl s2) → mz_G (d, mz_X0 L xs, some .boolean, [], mk_613, 5, Q) 10 mt_613_10 [(0, .ref 232), (1, .int v1), (2, .int (mz_b01 s2.1)), (3, .int s2.2)] [] false (mz_k S R N b t)) (hx1 : ∀ z, C1 (.inr z) → C0 z) (hp : cd_613_10 v1 N s) (hC : C1 (cq_613_10 v1 N s)) : mz_G (d, mz_X0 L xs, some .boolean, [], mk_613, 5, Q) 10 mt_613_10 [(0, .ref 232), (1, .int v1), (2, .int (mz_b01 s.1)), (3, .int s.2)] [] false (mz_k S R N b t) := by
  unfold cq_613_10 at hC
  unfold cd_613_10 at hp
  refine g_iload_n rfl (g_bipush mzb_48 ?_)
  refine g_icge (tg := 65) rfl ms_613_65 hC (fun h1 hC => ?_) (fun h1 hC => ?_)
  · have hp := hp.1 h1
    refine g_aload_n rfl (g_iload_n rfl (g_iload_n rfl (g_iconst mzi_2 (g_idiv (by decide) ?_))))
    obtain ⟨h2, hp⟩ := hp
    refine g_v3v (Nat.le_of_ble_eq_true rfl) (mz_at hS (Nat.le_of_ble_eq_true rfl) mzcS_232) (fun _ hq => cs_612 (Nat.le_trans (Nat.le_of_ble_eq_true rfl) hd) (hS.le (Nat.le_of_ble_eq_true rfl)) (hR.le (Nat.le_of_ble_eq_true rfl))  v1 (s.2 / 2) N h2 hq) (g_iconst mzi_4 (g_iload_n rfl (g_iconst mzi_2 (g_irem (by decide) (g_imul (g_ishr (g_bipush mzb_15 ?_)))))))
    refine g_iand (g_istore (Nat.le_of_ble_eq_true rfl) rfl (g_iload_n rfl ?_))
    refine g_zeq (tg := 57) rfl ms_613_57 hC (fun h3 hC => ?_) (fun h3 hC => ?_)
    · have hp := hp.1 h3
      refine g_iload rfl (g_bipush mzb_10 ?_)
      refine g_iclt (tg := 53) rfl ms_613_53 hC (fun h4 hC => ?_) (fun h4 hC => ?_)
      · have hp := hp.1 h4
        refine g_weak ?_ (g_cl (cg_613_53 hd hS hR v1 s.2 N hr hc1 hx1 hp hC))
        exact ⟨rfl, rfl, rfl, trivial⟩
      · have hp := hp.2 h4
        refine g_iload rfl (g_bipush mzb_15 ?_)
        refine g_icne (tg := 57) rfl ms_613_57 hC (fun h5 hC => ?_) (fun h5 hC => ?_)
        · have hp := hp.1 h5
          refine g_weak ?_ (g_cl (cg_613_53 hd hS hR v1 s.2 N hr hc1 hx1 hp hC))
          exact ⟨rfl, rfl, rfl, trivial⟩
        · have hp := hp.2 h5
          refine g_weak ?_ (g_cl (cg_613_57 hd hS hR v1 s.2 N hr hc1 hx1 hp hC))
          exact ⟨rfl, rfl, rfl, trivial⟩
    · have hp := hp.2 h3
      refine g_weak ?_ (g_cl (cg_613_57 hd hS hR v1 s.2 N hr hc1 hx1 hp hC))
      exact ⟨rfl, rfl, rfl, trivial⟩
  · have hp := hp.2 h1
    refine g_iload_n rfl ?_
    exact g_zret (z := s.1) rfl (hr _ (hx1 _ hC))
theorem cg_613_10 (hd : 3 ≤ d) (hS : mz_extR S 342) (hR : mz_rok R 342)  (v1 : Int32) (v2 : Bool) (v3 : Int32) (N : mz_N) {C0 : (Bool) → Prop} (hr : ∀ (w : Bool), C0 w → Q (.inl (some (.int (mz_b01 w)))) (mz_k S R N b t)) (hp : cp_613_10 v1 v2 v3 N) (hC : C0 (cf_613_10 v1 v2 v3 N)) : mz_G (d, mz_X0 L xs, some .boolean, [], mk_613, 5, Q) 10 mt_613_10 [(0, .ref 232), (1, .int v1), (2, .int (mz_b01 v2)), (3, .int v3)] [] false (mz_k S R N b t) := by
  obtain ⟨n, hn⟩ := hp
  exact g_loop (G := fun s => mz_G (d, mz_X0 L xs, some .boolean, [], mk_613, 5, Q) 10 mt_613_10 [(0, .ref 232), (1, .int v1), (2, .int (mz_b01 s.1)), (3, .int s.2)] [] false (mz_k S R N b t)) (C := C0) (fun C2 hc hx s hP hC => cb_613_10 hd hS hR v1 N s hr hc hx hP hC) n (v2, v3) hn hC
theorem cg_613_0 (hd : 3 ≤ d) (hS : mz_extR S 342) (hR : mz_rok R 342)  (v1 : Int32) (N : mz_N) {C0 : (Bool) → Prop} (hr : ∀ (w : Bool), C0 w → Q (.inl (some (.int (mz_b01 w)))) (mz_k S R N b t)) (hp : cp_613_0 v1 N) (hC : C0 (cf_613_0 v1 N)) : mz_G (d, mz_X0 L xs, some .boolean, [], mk_613, 5, Q) 0 mk_613 [(0, .ref 232), (1, .int v1)] [] true (mz_k S R N b t) := by
  unfold cf_613_0 at hC
  unfold cp_613_0 at hp
  refine g_aload_n rfl (g_iload_n rfl (g_bipush mzb_24 ?_))
  obtain ⟨h1, hp⟩ := hp
  refine g_v3v (Nat.le_of_ble_eq_true rfl) (mz_at hS (Nat.le_of_ble_eq_true rfl) mzcS_232) (fun _ hq => cs_614 (Nat.le_trans (Nat.le_of_ble_eq_true rfl) hd) (hS.le (Nat.le_of_ble_eq_true rfl)) (hR.le (Nat.le_of_ble_eq_true rfl))  v1 24 N h1 hq) (g_istore_n (Nat.le_of_ble_eq_true rfl) rfl (g_iconst mzi_0 (g_istore_n (Nat.le_of_ble_eq_true rfl) rfl ?_)))
  refine g_weak ?_ (g_cl (cg_613_10 hd hS hR v1 (cf_614_0 v1 24 N) 0 N hr hp hC))
  exact ⟨rfl, rfl, rfl, rfl, trivial⟩
theorem cs_613 (hd : 4 ≤ d) (hS : mz_extR S 342) (hR : mz_rok R 342)  (v1 : Int32) (N : mz_N) (hp : cp_613_0 v1 N) (hq : Q (.inl (some (.int (mz_b01 (cf_613_0 v1 N))))) (mz_k S R N b t)) : mz_Ed (mz_X0 L xs) d 613 [.ref 232, .int v1] (mz_k S R N b t) Q :=
  by
  refine g_in mzq_613 (Nat.le_of_ble_eq_true rfl) (Nat.le_of_ble_eq_true rfl) (Nat.le_trans (Nat.le_of_ble_eq_true rfl) hd) ?_
  refine g_weak ?_ (cg_613_0 (d := d - 1) (by omega) hS hR v1 N (C0 := fun z => Q (.inl (some (.int (mz_b01 z)))) (mz_k S R N b t)) (fun _ h => h) hp hq)
  exact ⟨rfl, rfl, trivial⟩
/-! 616 KeptHouseModel.isIn (IIIJJ)Z -/
theorem ms_616_0 : mz_sf mk_616 0 = mk_616 := mz_sf_zero _
theorem ms_616_25 : mz_sf mk_616 25 = mt_616_25 := mz_sf_add ms_616_0 (t := 25) rfl rfl
theorem ms_616_38 : mz_sf mk_616 38 = mt_616_38 := mz_sf_add ms_616_25 (t := 13) rfl rfl
theorem ms_616_40 : mz_sf mk_616 40 = mt_616_40 := mz_sf_add ms_616_38 (t := 2) rfl rfl
theorem ms_616_62 : mz_sf mk_616 62 = mt_616_62 := mz_sf_add ms_616_40 (t := 22) rfl rfl
theorem ms_616_63 : mz_sf mk_616 63 = mt_616_63 := mz_sf_add ms_616_62 (t := 1) rfl rfl
set_option maxRecDepth 100000 in
theorem mzq_616 : mz_PG0 616 = some (12, ⟨"KeptHouseModel", "isIn", "(IIIJJ)Z"⟩, prog_14_method_203_code, 10, some .boolean, [], mk_616, []) := rfl
theorem cg_616_40 (hd : 1 ≤ d) (hS : mz_extR S 342) (hR : mz_rok R 342)  (s0 : Int64) (v4 : Int64) (v6 : Int64) (N : mz_N) {C0 : (Bool) → Prop} (hr : ∀ (w : Bool), C0 w → Q (.inl (some (.int (mz_b01 w)))) (mz_k S R N b t)) (hp : cp_616_40 s0 v4 v6 N) (hC : C0 (cf_616_40 s0 v4 v6 N)) : mz_G (d, mz_X0 L xs, some .boolean, [], mk_616, 10, Q) 40 mt_616_40 [(4, .long v4), (6, .long v6)] [.long s0] false (mz_k S R N b t) := by
  unfold cf_616_40 at hC
  unfold cp_616_40 at hp
  refine g_lstore (Nat.le_of_ble_eq_true rfl) rfl rfl (g_lload rfl (g_lload rfl (g_lcmp ?_)))
  refine g_llt (tg := 62) rfl ms_616_62 hC (fun h1 hC => ?_) (fun h1 hC => ?_)
  · refine g_iconst mzi_0 ?_
    exact g_zret (z := false) rfl (hr _ hC)
  · refine g_lload rfl (g_lload rfl (g_lcmp ?_))
    refine g_lgt (tg := 62) rfl ms_616_62 hC (fun h2 hC => ?_) (fun h2 hC => ?_)
    · refine g_iconst mzi_0 ?_
      exact g_zret (z := false) rfl (hr _ hC)
    · refine g_iconst mzi_1 (g_goto (tg := 63) rfl ms_616_63 ?_)
      exact g_zret (z := true) rfl (hr _ hC)
theorem cg_616_0 (hd : 1 ≤ d) (hS : mz_extR S 342) (hR : mz_rok R 342)  (v1 : Int32) (v2 : Int32) (v3 : Int32) (v4 : Int64) (v6 : Int64) (N : mz_N) {C0 : (Bool) → Prop} (hr : ∀ (w : Bool), C0 w → Q (.inl (some (.int (mz_b01 w)))) (mz_k S R N b t)) (hp : cp_616_0 v1 v2 v3 v4 v6 N) (hC : C0 (cf_616_0 v1 v2 v3 v4 v6 N)) : mz_G (d, mz_X0 L xs, some .boolean, [], mk_616, 10, Q) 0 mk_616 [(0, .ref 232), (1, .int v1), (2, .int v2), (3, .int v3), (4, .long v4), (6, .long v6)] [] true (mz_k S R N b t) := by
  unfold cf_616_0 at hC
  unfold cp_616_0 at hp
  refine g_aload_n rfl (g_getR (mz_at hS (Nat.le_of_ble_eq_true rfl) mzcS_232) mzcf_12_145 (mz_rb hR (Nat.le_of_ble_eq_true rfl) rfl mzcR_232_145) (g_iload_n rfl (g_iload_n rfl (g_iadd (g_iload_n rfl ?_)))))
  obtain ⟨h1, hp⟩ := hp
  refine g_s3v (Nat.le_of_ble_eq_true rfl) (fun _ hq => cs_423 (Nat.le_trans (Nat.le_of_ble_eq_true rfl) hd) (hS.le (Nat.le_of_ble_eq_true rfl)) (hR.le (Nat.le_of_ble_eq_true rfl)) 337 3780 (mz_at hS (Nat.le_of_ble_eq_true rfl) mzcS_337) (v1 + v2) v3 N h1 hq) (g_lstore (Nat.le_of_ble_eq_true rfl) rfl rfl (g_iload_n rfl (g_iconst mzi_4 ?_)))
  refine g_icne (tg := 25) rfl ms_616_25 hC (fun h2 hC => ?_) (fun h2 hC => ?_)
  · have hp := hp.1 h2
    refine g_lload rfl (g_l2i (g_i2l (g_goto (tg := 40) rfl ms_616_40 ?_)))
    refine g_weak ?_ (g_cl (cg_616_40 hd hS hR (((cf_423_0 337 3780 (v1 + v2) v3 N).toInt32).toInt64) v4 v6 N hr hp hC))
    exact ⟨rfl, rfl, trivial⟩
  · have hp := hp.2 h2
    refine g_iload_n rfl (g_iconst mzi_2 ?_)
    refine g_icne (tg := 38) rfl ms_616_38 hC (fun h3 hC => ?_) (fun h3 hC => ?_)
    · have hp := hp.1 h3
      refine g_lload rfl (g_l2i (g_i2s (g_i2l (g_goto (tg := 40) rfl ms_616_40 ?_))))
      refine g_weak ?_ (g_cl (cg_616_40 hd hS hR ((mz_i2s ((cf_423_0 337 3780 (v1 + v2) v3 N).toInt32)).toInt64) v4 v6 N hr hp hC))
      exact ⟨rfl, rfl, trivial⟩
    · have hp := hp.2 h3
      refine g_lload rfl ?_
      refine g_weak ?_ (g_cl (cg_616_40 hd hS hR (cf_423_0 337 3780 (v1 + v2) v3 N) v4 v6 N hr hp hC))
      exact ⟨rfl, rfl, trivial⟩
theorem cs_616 (hd : 2 ≤ d) (hS : mz_extR S 342) (hR : mz_rok R 342)  (v1 : Int32) (v2 : Int32) (v3 : Int32) (v4 : Int64) (v6 : Int64) (N : mz_N) (hp : cp_616_0 v1 v2 v3 v4 v6 N) (hq : Q (.inl (some (.int (mz_b01 (cf_616_0 v1 v2 v3 v4 v6 N))))) (mz_k S R N b t)) : mz_Ed (mz_X0 L xs) d 616 [.ref 232, .int v1, .int v2, .int v3, .long v4, .long v6] (mz_k S R N b t) Q :=
  by
  refine g_in mzq_616 (Nat.le_of_ble_eq_true rfl) (Nat.le_of_ble_eq_true rfl) (Nat.le_trans (Nat.le_of_ble_eq_true rfl) hd) ?_
  refine g_weak ?_ (cg_616_0 (d := d - 1) (by omega) hS hR v1 v2 v3 v4 v6 N (C0 := fun z => Q (.inl (some (.int (mz_b01 z)))) (mz_k S R N b t)) (fun _ h => h) hp hq)
  exact ⟨rfl, rfl, rfl, rfl, rfl, rfl, trivial⟩
/-! 617 KeptHouseModel.isMoney (II)Z -/
theorem ms_617_0 : mz_sf mk_617 0 = mk_617 := mz_sf_zero _
set_option maxRecDepth 100000 in
theorem mzq_617 : mz_PG0 617 = some (12, ⟨"KeptHouseModel", "isMoney", "(II)Z"⟩, prog_14_method_205_code, 3, some .boolean, [], mk_617, []) := rfl
theorem cg_617_0 (hd : 2 ≤ d) (hS : mz_extR S 342) (hR : mz_rok R 342)  (v1 : Int32) (v2 : Int32) (N : mz_N) {C0 : (Bool) → Prop} (hr : ∀ (w : Bool), C0 w → Q (.inl (some (.int (mz_b01 w)))) (mz_k S R N b t)) (hp : cp_617_0 v1 v2 N) (hC : C0 (cf_617_0 v1 v2 N)) : mz_G (d, mz_X0 L xs, some .boolean, [], mk_617, 3, Q) 0 mk_617 [(0, .ref 232), (1, .int v1), (2, .int v2)] [] true (mz_k S R N b t) := by
  unfold cf_617_0 at hC
  unfold cp_617_0 at hp
  refine g_aload_n rfl (g_iload_n rfl (g_iload_n rfl (g_bipush mzb_8 (g_con3 (g_con3 ?_)))))
  have h1 := hp
  refine g_v6v (Nat.le_of_ble_eq_true rfl) (mz_at hS (Nat.le_of_ble_eq_true rfl) mzcS_232) (fun _ hq => cs_616 (Nat.le_trans (Nat.le_of_ble_eq_true rfl) hd) (hS.le (Nat.le_of_ble_eq_true rfl)) (hR.le (Nat.le_of_ble_eq_true rfl))  v1 v2 8 (-1000000000000000) 1000000000000000 N h1 hq) ?_
  exact g_zret (z := (cf_616_0 v1 v2 8 (-1000000000000000) 1000000000000000 N)) rfl (hr _ hC)
theorem cs_617 (hd : 3 ≤ d) (hS : mz_extR S 342) (hR : mz_rok R 342)  (v1 : Int32) (v2 : Int32) (N : mz_N) (hp : cp_617_0 v1 v2 N) (hq : Q (.inl (some (.int (mz_b01 (cf_617_0 v1 v2 N))))) (mz_k S R N b t)) : mz_Ed (mz_X0 L xs) d 617 [.ref 232, .int v1, .int v2] (mz_k S R N b t) Q :=
  by
  refine g_in mzq_617 (Nat.le_of_ble_eq_true rfl) (Nat.le_of_ble_eq_true rfl) (Nat.le_trans (Nat.le_of_ble_eq_true rfl) hd) ?_
  refine g_weak ?_ (cg_617_0 (d := d - 1) (by omega) hS hR v1 v2 N (C0 := fun z => Q (.inl (some (.int (mz_b01 z)))) (mz_k S R N b t)) (fun _ h => h) hp hq)
  exact ⟨rfl, rfl, rfl, trivial⟩
/-! 618 KeptHouseModel.isCount (II)Z -/
theorem ms_618_0 : mz_sf mk_618 0 = mk_618 := mz_sf_zero _
set_option maxRecDepth 100000 in
theorem mzq_618 : mz_PG0 618 = some (12, ⟨"KeptHouseModel", "isCount", "(II)Z"⟩, prog_14_method_206_code, 3, some .boolean, [], mk_618, []) := rfl
theorem cg_618_0 (hd : 2 ≤ d) (hS : mz_extR S 342) (hR : mz_rok R 342)  (v1 : Int32) (v2 : Int32) (N : mz_N) {C0 : (Bool) → Prop} (hr : ∀ (w : Bool), C0 w → Q (.inl (some (.int (mz_b01 w)))) (mz_k S R N b t)) (hp : cp_618_0 v1 v2 N) (hC : C0 (cf_618_0 v1 v2 N)) : mz_G (d, mz_X0 L xs, some .boolean, [], mk_618, 3, Q) 0 mk_618 [(0, .ref 232), (1, .int v1), (2, .int v2)] [] true (mz_k S R N b t) := by
  unfold cf_618_0 at hC
  unfold cp_618_0 at hp
  refine g_aload_n rfl (g_iload_n rfl (g_iload_n rfl (g_iconst mzi_4 (g_lconst mzl_0 (g_con3 ?_)))))
  have h1 := hp
  refine g_v6v (Nat.le_of_ble_eq_true rfl) (mz_at hS (Nat.le_of_ble_eq_true rfl) mzcS_232) (fun _ hq => cs_616 (Nat.le_trans (Nat.le_of_ble_eq_true rfl) hd) (hS.le (Nat.le_of_ble_eq_true rfl)) (hR.le (Nat.le_of_ble_eq_true rfl))  v1 v2 4 0 100000000 N h1 hq) ?_
  exact g_zret (z := (cf_616_0 v1 v2 4 0 100000000 N)) rfl (hr _ hC)
theorem cs_618 (hd : 3 ≤ d) (hS : mz_extR S 342) (hR : mz_rok R 342)  (v1 : Int32) (v2 : Int32) (N : mz_N) (hp : cp_618_0 v1 v2 N) (hq : Q (.inl (some (.int (mz_b01 (cf_618_0 v1 v2 N))))) (mz_k S R N b t)) : mz_Ed (mz_X0 L xs) d 618 [.ref 232, .int v1, .int v2] (mz_k S R N b t) Q :=
  by
  refine g_in mzq_618 (Nat.le_of_ble_eq_true rfl) (Nat.le_of_ble_eq_true rfl) (Nat.le_trans (Nat.le_of_ble_eq_true rfl) hd) ?_
  refine g_weak ?_ (cg_618_0 (d := d - 1) (by omega) hS hR v1 v2 N (C0 := fun z => Q (.inl (some (.int (mz_b01 z)))) (mz_k S R N b t)) (fun _ h => h) hp hq)
  exact ⟨rfl, rfl, rfl, trivial⟩
/-! 619 KeptHouseModel.isTicket (II)Z -/
theorem ms_619_0 : mz_sf mk_619 0 = mk_619 := mz_sf_zero _
theorem ms_619_16 : mz_sf mk_619 16 = mt_619_16 := mz_sf_add ms_619_0 (t := 16) rfl rfl
theorem ms_619_44 : mz_sf mk_619 44 = mt_619_44 := mz_sf_add ms_619_16 (t := 28) rfl rfl
theorem ms_619_68 : mz_sf mk_619 68 = mt_619_68 := mz_sf_add ms_619_44 (t := 24) rfl rfl
theorem ms_619_93 : mz_sf mk_619 93 = mt_619_93 := mz_sf_add ms_619_68 (t := 25) rfl rfl
theorem ms_619_97 : mz_sf mk_619 97 = mt_619_97 := mz_sf_add ms_619_93 (t := 4) rfl rfl
theorem ms_619_98 : mz_sf mk_619 98 = mt_619_98 := mz_sf_add ms_619_97 (t := 1) rfl rfl
theorem ms_619_102 : mz_sf mk_619 102 = mt_619_102 := mz_sf_add ms_619_98 (t := 4) rfl rfl
theorem ms_619_132 : mz_sf mk_619 132 = mt_619_132 := mz_sf_add ms_619_102 (t := 30) rfl rfl
theorem ms_619_177 : mz_sf mk_619 177 = mt_619_177 := mz_sf_add ms_619_132 (t := 45) rfl rfl
theorem ms_619_181 : mz_sf mk_619 181 = mt_619_181 := mz_sf_add ms_619_177 (t := 4) rfl rfl
theorem ms_619_182 : mz_sf mk_619 182 = mt_619_182 := mz_sf_add ms_619_181 (t := 1) rfl rfl
theorem ms_619_189 : mz_sf mk_619 189 = mt_619_189 := mz_sf_add ms_619_182 (t := 7) rfl rfl
set_option maxRecDepth 100000 in
theorem mzq_619 : mz_PG0 619 = some (12, ⟨"KeptHouseModel", "isTicket", "(II)Z"⟩, prog_14_method_209_code, 6, some .boolean, [], mk_619, []) := rfl
theorem cg_619_182 (hd : 3 ≤ d) (hS : mz_extR S 342) (hR : mz_rok R 342)  (s0 : Bool) (v1 : Int32) (v2 : Int32) (v4 : Int32) (N : mz_N) {C0 : (Bool) → Prop} (hr : ∀ (w : Bool), C0 w → Q (.inl (some (.int (mz_b01 w)))) (mz_k S R N b t)) {C1 : ((Bool × Int32) ⊕ (Bool)) → Prop} (hc1 : ∀ s2, C1 (.inl s2) → mz_G (d, mz_X0 L xs, some .boolean, [], mk_619, 6, Q) 102 mt_619_102 [(0, .ref 232), (1, .int v1), (2, .int v2), (3, .int (mz_b01 s2.1)), (4, .int s2.2)] [] false (mz_k S R N b t)) (hx1 : ∀ z, C1 (.inr z) → C0 z) (hp : cp_619_182 s0 v1 v2 v4 N) (hC : C1 (cf_619_182 s0 v1 v2 v4 N)) : mz_G (d, mz_X0 L xs, some .boolean, [], mk_619, 6, Q) 182 mt_619_182 [(0, .ref 232), (1, .int v1), (2, .int v2), (4, .int v4)] [.int (mz_b01 s0)] false (mz_k S R N b t) := by
  unfold cf_619_182 at hC
  unfold cp_619_182 at hp
  refine g_istore_n (Nat.le_of_ble_eq_true rfl) rfl (g_iinc rfl mzi_1 (Nat.le_of_ble_eq_true rfl) rfl (g_goto (tg := 102) rfl ms_619_102 ?_))
  refine g_weak ?_ (g_cl (hc1 (s0, (v4 + 1)) hC))
  exact ⟨rfl, rfl, rfl, rfl, rfl, trivial⟩
theorem cg_619_177 (hd : 3 ≤ d) (hS : mz_extR S 342) (hR : mz_rok R 342)  (v1 : Int32) (v2 : Int32) (v4 : Int32) (N : mz_N) {C0 : (Bool) → Prop} (hr : ∀ (w : Bool), C0 w → Q (.inl (some (.int (mz_b01 w)))) (mz_k S R N b t)) {C1 : ((Bool × Int32) ⊕ (Bool)) → Prop} (hc1 : ∀ s2, C1 (.inl s2) → mz_G (d, mz_X0 L xs, some .boolean, [], mk_619, 6, Q) 102 mt_619_102 [(0, .ref 232), (1, .int v1), (2, .int v2), (3, .int (mz_b01 s2.1)), (4, .int s2.2)] [] false (mz_k S R N b t)) (hx1 : ∀ z, C1 (.inr z) → C0 z) (hp : cp_619_177 v1 v2 v4 N) (hC : C1 (cf_619_177 v1 v2 v4 N)) : mz_G (d, mz_X0 L xs, some .boolean, [], mk_619, 6, Q) 177 mt_619_177 [(0, .ref 232), (1, .int v1), (2, .int v2), (4, .int v4)] [] false (mz_k S R N b t) := by
  unfold cf_619_177 at hC
  unfold cp_619_177 at hp
  refine g_iconst mzi_1 (g_goto (tg := 182) rfl ms_619_182 ?_)
  refine g_weak ?_ (g_cl (cg_619_182 hd hS hR true v1 v2 v4 N hr hc1 hx1 hp hC))
  exact ⟨rfl, rfl, rfl, rfl, trivial⟩
theorem cb_619_102 (hd : 3 ≤ d) (hS : mz_extR S 342) (hR : mz_rok R 342)  (v1 : Int32) (v2 : Int32) (N : mz_N) (s : Bool × Int32) {C0 : (Bool) → Prop} (hr : ∀ (w : Bool), C0 w → Q (.inl (some (.int (mz_b01 w)))) (mz_k S R N b t)) {C1 : ((Bool × Int32) ⊕ (Bool)) → Prop} (hc1 : ∀ s2, C1 (.inl s2) → mz_G (d, mz_X0 L xs, some .boolean, [], mk_619, 6, Q) 102 mt_619_102 [(0, .ref 232), (1, .int v1), (2, .int v2), (3, .int (mz_b01 s2.1)), (4, .int s2.2)] [] false (mz_k S R N b t)) (hx1 : ∀ z, C1 (.inr z) → C0 z) (hp : cd_619_102 v1 v2 N s) (hC : C1 (cq_619_102 v1 v2 N s)) : mz_G (d, mz_X0 L xs, some .boolean, [], mk_619, 6, Q) 102 mt_619_102 [(0, .ref 232), (1, .int v1), (2, .int v2), (3, .int (mz_b01 s.1)), (4, .int s.2)] [] false (mz_k S R N b t) := by
  unfold cq_619_102 at hC
  unfold cd_619_102 at hp
  refine g_iload rfl (g_iload_n rfl ?_)
  refine g_icge (tg := 189) rfl ms_619_189 hC (fun h1 hC => ?_) (fun h1 hC => ?_)
  · have hp := hp.1 h1
    refine g_iload_n rfl ?_
    refine g_zeq (tg := 189) rfl ms_619_189 hC (fun h2 hC => ?_) (fun h2 hC => ?_)
    · have hp := hp.1 h2
      refine g_bipush mzb_12 ?_
      refine g_s1v (Nat.le_of_ble_eq_true rfl) (fun _ hq => cs_420 (Nat.le_trans (Nat.le_of_ble_eq_true rfl) hd) (hS.le (Nat.le_of_ble_eq_true rfl)) (hR.le (Nat.le_of_ble_eq_true rfl))  12 trivial hq) (g_iload rfl (g_iadd (g_istore (Nat.le_of_ble_eq_true rfl) rfl (g_aload_n rfl (g_getR (mz_at hS (Nat.le_of_ble_eq_true rfl) mzcS_232) mzcf_12_144 (mz_rb hR (Nat.le_of_ble_eq_true rfl) rfl mzcR_232_144) (g_iload rfl ?_))))))
      obtain ⟨h4, hp⟩ := hp
      obtain ⟨h5, hp⟩ := hp
      refine g_zald (mz_at hS (Nat.le_of_ble_eq_true rfl) mzcS_336) h4 h5 ?_
      refine g_zeq (tg := 177) rfl ms_619_177 hC (fun h6 hC => ?_) (fun h6 hC => ?_)
      · have hp := hp.1 h6
        refine g_aload_n rfl (g_getR (mz_at hS (Nat.le_of_ble_eq_true rfl) mzcS_232) mzcf_12_145 (mz_rb hR (Nat.le_of_ble_eq_true rfl) rfl mzcR_232_145) (g_bipush mzb_28 (g_iload rfl (g_imul ?_))))
        obtain ⟨h7, hp⟩ := hp
        refine g_bald (mz_at hS (Nat.le_of_ble_eq_true rfl) mzcS_337) h7 ?_
        refine g_ifeq (tg := 177) rfl ms_619_177 hC (fun h8 hC => ?_) (fun h8 hC => ?_)
        · have hp := hp.1 h8
          refine g_weak ?_ (g_cl (cg_619_177 hd hS hR v1 v2 s.2 N hr hc1 hx1 hp hC))
          exact ⟨rfl, rfl, rfl, rfl, trivial⟩
        · have hp := hp.2 h8
          refine g_aload_n rfl (g_getR (mz_at hS (Nat.le_of_ble_eq_true rfl) mzcS_232) mzcf_12_145 (mz_rb hR (Nat.le_of_ble_eq_true rfl) rfl mzcR_232_145) (g_bipush mzb_28 (g_iload rfl (g_imul (g_bipush mzb_8 (g_iadd (g_iconst mzi_4 ?_)))))))
          obtain ⟨h9, hp⟩ := hp
          refine g_s3v (Nat.le_of_ble_eq_true rfl) (fun _ hq => cs_423 (Nat.le_trans (Nat.le_of_ble_eq_true rfl) hd) (hS.le (Nat.le_of_ble_eq_true rfl)) (hR.le (Nat.le_of_ble_eq_true rfl)) 337 3780 (mz_at hS (Nat.le_of_ble_eq_true rfl) mzcS_337) ((28 * ((cf_420_0 12) + s.2)) + 8) 4 N h9 hq) (g_aload_n rfl (g_getR (mz_at hS (Nat.le_of_ble_eq_true rfl) mzcS_232) mzcf_12_145 (mz_rb hR (Nat.le_of_ble_eq_true rfl) rfl mzcR_232_145) (g_iload_n rfl (g_bipush mzb_8 (g_iadd (g_iconst mzi_4 ?_))))))
          obtain ⟨h10, hp⟩ := hp
          refine g_s3v (Nat.le_of_ble_eq_true rfl) (fun _ hq => cs_423 (Nat.le_trans (Nat.le_of_ble_eq_true rfl) hd) (hS.le (Nat.le_of_ble_eq_true rfl)) (hR.le (Nat.le_of_ble_eq_true rfl)) 337 3780 (mz_at hS (Nat.le_of_ble_eq_true rfl) mzcS_337) (v1 + 8) 4 N h10 hq) (g_lcmp ?_)
          refine g_leq (tg := 181) rfl ms_619_181 hC (fun h11 hC => ?_) (fun h11 hC => ?_)
          · have hp := hp.1 h11
            refine g_iconst mzi_0 ?_
            refine g_weak ?_ (g_cl (cg_619_182 hd hS hR false v1 v2 s.2 N hr hc1 hx1 hp hC))
            exact ⟨rfl, rfl, rfl, rfl, trivial⟩
          · have hp := hp.2 h11
            refine g_weak ?_ (g_cl (cg_619_177 hd hS hR v1 v2 s.2 N hr hc1 hx1 hp hC))
            exact ⟨rfl, rfl, rfl, rfl, trivial⟩
      · have hp := hp.2 h6
        refine g_weak ?_ (g_cl (cg_619_177 hd hS hR v1 v2 s.2 N hr hc1 hx1 hp hC))
        exact ⟨rfl, rfl, rfl, rfl, trivial⟩
    · have hp := hp.2 h2
      refine g_iload_n rfl ?_
      exact g_zret (z := s.1) rfl (hr _ (hx1 _ hC))
  · have hp := hp.2 h1
    refine g_iload_n rfl ?_
    exact g_zret (z := s.1) rfl (hr _ (hx1 _ hC))
theorem cg_619_102 (hd : 3 ≤ d) (hS : mz_extR S 342) (hR : mz_rok R 342)  (v1 : Int32) (v2 : Int32) (v3 : Bool) (v4 : Int32) (N : mz_N) {C0 : (Bool) → Prop} (hr : ∀ (w : Bool), C0 w → Q (.inl (some (.int (mz_b01 w)))) (mz_k S R N b t)) (hp : cp_619_102 v1 v2 v3 v4 N) (hC : C0 (cf_619_102 v1 v2 v3 v4 N)) : mz_G (d, mz_X0 L xs, some .boolean, [], mk_619, 6, Q) 102 mt_619_102 [(0, .ref 232), (1, .int v1), (2, .int v2), (3, .int (mz_b01 v3)), (4, .int v4)] [] false (mz_k S R N b t) := by
  obtain ⟨n, hn⟩ := hp
  exact g_loop (G := fun s => mz_G (d, mz_X0 L xs, some .boolean, [], mk_619, 6, Q) 102 mt_619_102 [(0, .ref 232), (1, .int v1), (2, .int v2), (3, .int (mz_b01 s.1)), (4, .int s.2)] [] false (mz_k S R N b t)) (C := C0) (fun C2 hc hx s hP hC => cb_619_102 hd hS hR v1 v2 N s hr hc hx hP hC) n (v3, v4) hn hC
theorem cg_619_98 (hd : 3 ≤ d) (hS : mz_extR S 342) (hR : mz_rok R 342)  (s0 : Bool) (v1 : Int32) (v2 : Int32) (N : mz_N) {C0 : (Bool) → Prop} (hr : ∀ (w : Bool), C0 w → Q (.inl (some (.int (mz_b01 w)))) (mz_k S R N b t)) (hp : cp_619_98 s0 v1 v2 N) (hC : C0 (cf_619_98 s0 v1 v2 N)) : mz_G (d, mz_X0 L xs, some .boolean, [], mk_619, 6, Q) 98 mt_619_98 [(0, .ref 232), (1, .int v1), (2, .int v2)] [.int (mz_b01 s0)] false (mz_k S R N b t) := by
  unfold cf_619_98 at hC
  unfold cp_619_98 at hp
  refine g_istore_n (Nat.le_of_ble_eq_true rfl) rfl (g_iconst mzi_0 (g_istore (Nat.le_of_ble_eq_true rfl) rfl ?_))
  refine g_weak ?_ (g_cl (cg_619_102 hd hS hR v1 v2 s0 0 N hr hp hC))
  exact ⟨rfl, rfl, rfl, rfl, rfl, trivial⟩
theorem cg_619_97 (hd : 3 ≤ d) (hS : mz_extR S 342) (hR : mz_rok R 342)  (v1 : Int32) (v2 : Int32) (N : mz_N) {C0 : (Bool) → Prop} (hr : ∀ (w : Bool), C0 w → Q (.inl (some (.int (mz_b01 w)))) (mz_k S R N b t)) (hp : cp_619_97 v1 v2 N) (hC : C0 (cf_619_97 v1 v2 N)) : mz_G (d, mz_X0 L xs, some .boolean, [], mk_619, 6, Q) 97 mt_619_97 [(0, .ref 232), (1, .int v1), (2, .int v2)] [] false (mz_k S R N b t) := by
  unfold cf_619_97 at hC
  unfold cp_619_97 at hp
  refine g_iconst mzi_0 ?_
  refine g_weak ?_ (g_cl (cg_619_98 hd hS hR false v1 v2 N hr hp hC))
  exact ⟨rfl, rfl, rfl, trivial⟩
theorem cg_619_0 (hd : 3 ≤ d) (hS : mz_extR S 342) (hR : mz_rok R 342)  (v1 : Int32) (v2 : Int32) (N : mz_N) {C0 : (Bool) → Prop} (hr : ∀ (w : Bool), C0 w → Q (.inl (some (.int (mz_b01 w)))) (mz_k S R N b t)) (hp : cp_619_0 v1 v2 N) (hC : C0 (cf_619_0 v1 v2 N)) : mz_G (d, mz_X0 L xs, some .boolean, [], mk_619, 6, Q) 0 mk_619 [(0, .ref 232), (1, .int v1), (2, .int v2)] [] true (mz_k S R N b t) := by
  unfold cf_619_0 at hC
  unfold cp_619_0 at hp
  refine g_aload_n rfl (g_iload_n rfl (g_iconst mzi_0 ?_))
  obtain ⟨h1, hp⟩ := hp
  refine g_v3v (Nat.le_of_ble_eq_true rfl) (mz_at hS (Nat.le_of_ble_eq_true rfl) mzcS_232) (fun _ hq => cs_612 (Nat.le_trans (Nat.le_of_ble_eq_true rfl) hd) (hS.le (Nat.le_of_ble_eq_true rfl)) (hR.le (Nat.le_of_ble_eq_true rfl))  v1 0 N h1 hq) ?_
  refine g_ifne (tg := 16) rfl ms_619_16 hC (fun h2 hC => ?_) (fun h2 hC => ?_)
  · have hp := hp.1 h2
    refine g_aload_n rfl (g_iload_n rfl (g_iconst mzi_0 ?_))
    have h3 := hp
    refine g_v3v (Nat.le_of_ble_eq_true rfl) (mz_at hS (Nat.le_of_ble_eq_true rfl) mzcS_232) (fun _ hq => cs_614 (Nat.le_trans (Nat.le_of_ble_eq_true rfl) hd) (hS.le (Nat.le_of_ble_eq_true rfl)) (hR.le (Nat.le_of_ble_eq_true rfl))  v1 0 N h3 hq) ?_
    exact g_zret (z := (cf_614_0 v1 0 N)) rfl (hr _ hC)
  · have hp := hp.2 h2
    refine g_aload_n rfl (g_iload_n rfl (g_iconst mzi_0 ?_))
    obtain ⟨h4, hp⟩ := hp
    refine g_v3v (Nat.le_of_ble_eq_true rfl) (mz_at hS (Nat.le_of_ble_eq_true rfl) mzcS_232) (fun _ hq => cs_612 (Nat.le_trans (Nat.le_of_ble_eq_true rfl) hd) (hS.le (Nat.le_of_ble_eq_true rfl)) (hR.le (Nat.le_of_ble_eq_true rfl))  v1 0 N h4 hq) (g_iconst mzi_1 ?_)
    refine g_icne (tg := 97) rfl ms_619_97 hC (fun h5 hC => ?_) (fun h5 hC => ?_)
    · have hp := hp.1 h5
      refine g_aload_n rfl (g_iload_n rfl (g_iconst mzi_1 ?_))
      obtain ⟨h6, hp⟩ := hp
      refine g_v3v (Nat.le_of_ble_eq_true rfl) (mz_at hS (Nat.le_of_ble_eq_true rfl) mzcS_232) (fun _ hq => cs_612 (Nat.le_trans (Nat.le_of_ble_eq_true rfl) hd) (hS.le (Nat.le_of_ble_eq_true rfl)) (hR.le (Nat.le_of_ble_eq_true rfl))  v1 1 N h6 hq) (g_aload_n rfl (g_iload_n rfl (g_iconst mzi_2 ?_)))
      obtain ⟨h7, hp⟩ := hp
      refine g_v3v (Nat.le_of_ble_eq_true rfl) (mz_at hS (Nat.le_of_ble_eq_true rfl) mzcS_232) (fun _ hq => cs_612 (Nat.le_trans (Nat.le_of_ble_eq_true rfl) hd) (hS.le (Nat.le_of_ble_eq_true rfl)) (hR.le (Nat.le_of_ble_eq_true rfl))  v1 2 N h7 hq) ?_
      refine g_s2v (Nat.le_of_ble_eq_true rfl) (fun _ hq => cs_491 (Nat.le_trans (Nat.le_of_ble_eq_true rfl) hd) (hS.le (Nat.le_of_ble_eq_true rfl)) (hR.le (Nat.le_of_ble_eq_true rfl))  (cf_612_0 v1 1 N) (cf_612_0 v1 2 N) trivial hq) ?_
      refine g_zeq (tg := 97) rfl ms_619_97 hC (fun h9 hC => ?_) (fun h9 hC => ?_)
      · have hp := hp.1 h9
        refine g_aload_n rfl (g_iload_n rfl (g_iconst mzi_3 ?_))
        obtain ⟨h10, hp⟩ := hp
        refine g_v3v (Nat.le_of_ble_eq_true rfl) (mz_at hS (Nat.le_of_ble_eq_true rfl) mzcS_232) (fun _ hq => cs_612 (Nat.le_trans (Nat.le_of_ble_eq_true rfl) hd) (hS.le (Nat.le_of_ble_eq_true rfl)) (hR.le (Nat.le_of_ble_eq_true rfl))  v1 3 N h10 hq) (g_iconst mzi_4 ?_)
        refine g_icge (tg := 97) rfl ms_619_97 hC (fun h11 hC => ?_) (fun h11 hC => ?_)
        · have hp := hp.1 h11
          refine g_aload_n rfl (g_iload_n rfl (g_iconst mzi_4 (g_iconst mzi_4 (g_lconst mzl_0 (g_con3 ?_)))))
          obtain ⟨h12, hp⟩ := hp
          refine g_v6v (Nat.le_of_ble_eq_true rfl) (mz_at hS (Nat.le_of_ble_eq_true rfl) mzcS_232) (fun _ hq => cs_616 (Nat.le_trans (Nat.le_of_ble_eq_true rfl) hd) (hS.le (Nat.le_of_ble_eq_true rfl)) (hR.le (Nat.le_of_ble_eq_true rfl))  v1 4 4 0 2000000 N h12 hq) ?_
          refine g_zeq (tg := 97) rfl ms_619_97 hC (fun h13 hC => ?_) (fun h13 hC => ?_)
          · have hp := hp.1 h13
            refine g_aload_n rfl (g_iload_n rfl (g_bipush mzb_8 (g_iconst mzi_4 (g_lconst mzl_0 (g_con3 ?_)))))
            obtain ⟨h14, hp⟩ := hp
            refine g_v6v (Nat.le_of_ble_eq_true rfl) (mz_at hS (Nat.le_of_ble_eq_true rfl) mzcS_232) (fun _ hq => cs_616 (Nat.le_trans (Nat.le_of_ble_eq_true rfl) hd) (hS.le (Nat.le_of_ble_eq_true rfl)) (hR.le (Nat.le_of_ble_eq_true rfl))  v1 8 4 0 1000000000 N h14 hq) ?_
            refine g_zeq (tg := 97) rfl ms_619_97 hC (fun h15 hC => ?_) (fun h15 hC => ?_)
            · have hp := hp.1 h15
              refine g_aload_n rfl (g_iload_n rfl (g_bipush mzb_12 ?_))
              obtain ⟨h16, hp⟩ := hp
              refine g_v3v (Nat.le_of_ble_eq_true rfl) (mz_at hS (Nat.le_of_ble_eq_true rfl) mzcS_232) (fun _ hq => cs_614 (Nat.le_trans (Nat.le_of_ble_eq_true rfl) hd) (hS.le (Nat.le_of_ble_eq_true rfl)) (hR.le (Nat.le_of_ble_eq_true rfl))  v1 12 N h16 hq) ?_
              refine g_zeq (tg := 97) rfl ms_619_97 hC (fun h17 hC => ?_) (fun h17 hC => ?_)
              · have hp := hp.1 h17
                refine g_iconst mzi_1 (g_goto (tg := 98) rfl ms_619_98 ?_)
                refine g_weak ?_ (g_cl (cg_619_98 hd hS hR true v1 v2 N hr hp hC))
                exact ⟨rfl, rfl, rfl, trivial⟩
              · have hp := hp.2 h17
                refine g_weak ?_ (g_cl (cg_619_97 hd hS hR v1 v2 N hr hp hC))
                exact ⟨rfl, rfl, rfl, trivial⟩
            · have hp := hp.2 h15
              refine g_weak ?_ (g_cl (cg_619_97 hd hS hR v1 v2 N hr hp hC))
              exact ⟨rfl, rfl, rfl, trivial⟩
          · have hp := hp.2 h13
            refine g_weak ?_ (g_cl (cg_619_97 hd hS hR v1 v2 N hr hp hC))
            exact ⟨rfl, rfl, rfl, trivial⟩
        · have hp := hp.2 h11
          refine g_weak ?_ (g_cl (cg_619_97 hd hS hR v1 v2 N hr hp hC))
          exact ⟨rfl, rfl, rfl, trivial⟩
      · have hp := hp.2 h9
        refine g_weak ?_ (g_cl (cg_619_97 hd hS hR v1 v2 N hr hp hC))
        exact ⟨rfl, rfl, rfl, trivial⟩
    · have hp := hp.2 h5
      refine g_weak ?_ (g_cl (cg_619_97 hd hS hR v1 v2 N hr hp hC))
      exact ⟨rfl, rfl, rfl, trivial⟩
theorem cs_619 (hd : 4 ≤ d) (hS : mz_extR S 342) (hR : mz_rok R 342)  (v1 : Int32) (v2 : Int32) (N : mz_N) (hp : cp_619_0 v1 v2 N) (hq : Q (.inl (some (.int (mz_b01 (cf_619_0 v1 v2 N))))) (mz_k S R N b t)) : mz_Ed (mz_X0 L xs) d 619 [.ref 232, .int v1, .int v2] (mz_k S R N b t) Q :=
  by
  refine g_in mzq_619 (Nat.le_of_ble_eq_true rfl) (Nat.le_of_ble_eq_true rfl) (Nat.le_trans (Nat.le_of_ble_eq_true rfl) hd) ?_
  refine g_weak ?_ (cg_619_0 (d := d - 1) (by omega) hS hR v1 v2 N (C0 := fun z => Q (.inl (some (.int (mz_b01 z)))) (mz_k S R N b t)) (fun _ h => h) hp hq)
  exact ⟨rfl, rfl, rfl, trivial⟩
end Fn36
