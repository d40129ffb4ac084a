/-! THE FUNCTIONS: written by program: each method comes to its function. -/
section Fn9
variable {L : Nat} {xs : Nat → Int32} {d : Nat} {S : mz_S} {R : Nat → Nat → Option Nat} {Q : mz_Q} {N : mz_N} {b : Bool} {t : Nat}
/-! 212 KeptHouse$Supply.sumLoads ()I -/
theorem ms_212_0 : mz_sf mk_212 0 = mk_212 := mz_sf_zero _
theorem ms_212_4 : mz_sf mk_212 4 = mt_212_4 := mz_sf_add ms_212_0 (t := 4) rfl rfl
theorem ms_212_21 : mz_sf mk_212 21 = mt_212_21 := mz_sf_add ms_212_4 (t := 17) rfl rfl
theorem ms_212_27 : mz_sf mk_212 27 = mt_212_27 := mz_sf_add ms_212_21 (t := 6) rfl rfl
set_option maxRecDepth 100000 in
theorem mzq_212 : mz_PG0 212 = some (9, ⟨"KeptHouse$Supply", "sumLoads", "()I"⟩, prog_11_method_5_code, 3, some .int, [], mk_212, []) := rfl
theorem cb_212_4 (hd : 0 ≤ d) (hS : mz_ext S 232) (hR : mz_rok R 232)  (N : mz_N) (s : Int32 × Int32) {C0 : (Int32) → Prop} (hr : ∀ (w : Int32), C0 w → Q (.inl (some (.int w))) (mz_k S R N b t)) {C1 : ((Int32 × Int32) ⊕ (Int32)) → Prop} (hc1 : ∀ s2, C1 (.inl s2) → mz_G (d, mz_X0 L xs, some .int, [], mk_212, 3, Q) 4 mt_212_4 [(0, .ref 56), (1, .int s2.1), (2, .int s2.2)] [] false (mz_k S R N b t)) (hx1 : ∀ z, C1 (.inr z) → C0 z) (hp : cd_212_4 N s) (hC : C1 (cq_212_4 N s)) : mz_G (d, mz_X0 L xs, some .int, [], mk_212, 3, Q) 4 mt_212_4 [(0, .ref 56), (1, .int s.1), (2, .int s.2)] [] false (mz_k S R N b t) := by
  unfold cq_212_4 at hC
  unfold cd_212_4 at hp
  refine g_iload_n rfl (g_bipush mzb_11 ?_)
  refine g_icge (tg := 27) rfl ms_212_27 hC (fun h1 hC => ?_) (fun h1 hC => ?_)
  · have hp := hp.1 h1
    refine g_iload_n rfl (g_aload_n rfl (g_getR (mz_at hS (Nat.le_of_ble_eq_true rfl) mzcS_56) mzcf_9_0 (mz_rb hR (Nat.le_of_ble_eq_true rfl) rfl mzcR_56_0) (g_iconst mzi_0 (g_aald4 (m := 58) (mz_at hS (Nat.le_of_ble_eq_true rfl) mzcS_57) (mz_ibd (by decide)) (mz_rb hR (Nat.le_of_ble_eq_true rfl) rfl mzcRr_57_0) (g_iload_n rfl ?_)))))
    have h2 := hp
    refine g_iald hS.1 (mz_at hS (Nat.le_of_ble_eq_true rfl) mzcS_58) h2 (g_iadd (g_istore_n (Nat.le_of_ble_eq_true rfl) rfl (g_iinc rfl mzi_1 (Nat.le_of_ble_eq_true rfl) rfl (g_goto (tg := 4) rfl ms_212_4 ?_))))
    refine g_weak ?_ (g_cl (hc1 ((s.1 + (mz_gI N 58 s.2)), (s.2 + 1)) hC))
    exact ⟨rfl, rfl, rfl, trivial⟩
  · have hp := hp.2 h1
    refine g_iload_n rfl ?_
    exact g_iret rfl (hr _ (hx1 _ hC))
theorem cg_212_4 (hd : 0 ≤ d) (hS : mz_ext S 232) (hR : mz_rok R 232)  (v1 : Int32) (v2 : Int32) (N : mz_N) {C0 : (Int32) → Prop} (hr : ∀ (w : Int32), C0 w → Q (.inl (some (.int w))) (mz_k S R N b t)) (hp : cp_212_4 v1 v2 N) (hC : C0 (cf_212_4 v1 v2 N)) : mz_G (d, mz_X0 L xs, some .int, [], mk_212, 3, Q) 4 mt_212_4 [(0, .ref 56), (1, .int v1), (2, .int v2)] [] false (mz_k S R N b t) := by
  obtain ⟨n, hn⟩ := hp
  exact g_loop (G := fun s => mz_G (d, mz_X0 L xs, some .int, [], mk_212, 3, Q) 4 mt_212_4 [(0, .ref 56), (1, .int s.1), (2, .int s.2)] [] false (mz_k S R N b t)) (C := C0) (fun C2 hc hx s hP hC => cb_212_4 hd hS hR N s hr hc hx hP hC) n (v1, v2) hn hC
theorem cg_212_0 (hd : 0 ≤ d) (hS : mz_ext S 232) (hR : mz_rok R 232)  (N : mz_N) {C0 : (Int32) → Prop} (hr : ∀ (w : Int32), C0 w → Q (.inl (some (.int w))) (mz_k S R N b t)) (hp : cp_212_0 N) (hC : C0 (cf_212_0 N)) : mz_G (d, mz_X0 L xs, some .int, [], mk_212, 3, Q) 0 mk_212 [(0, .ref 56)] [] true (mz_k S R N b t) := by
  unfold cf_212_0 at hC
  unfold cp_212_0 at hp
  refine g_iconst mzi_0 (g_istore_n (Nat.le_of_ble_eq_true rfl) rfl (g_iconst mzi_0 (g_istore_n (Nat.le_of_ble_eq_true rfl) rfl ?_)))
  refine g_weak ?_ (g_cl (cg_212_4 hd hS hR 0 0 N hr hp hC))
  exact ⟨rfl, rfl, rfl, trivial⟩
theorem cs_212 (hd : 1 ≤ d) (hS : mz_ext S 232) (hR : mz_rok R 232)  (N : mz_N) (hp : cp_212_0 N) (hq : Q (.inl (some (.int (cf_212_0 N)))) (mz_k S R N b t)) : mz_Ed (mz_X0 L xs) d 212 [.ref 56] (mz_k S R N b t) Q :=
  by
  refine g_in mzq_212 (Nat.le_of_ble_eq_true rfl) (Nat.le_of_ble_eq_true rfl) (Nat.le_trans (Nat.le_of_ble_eq_true rfl) hd) ?_
  refine g_weak ?_ (cg_212_0 (d := d - 1) (by omega) hS hR N (C0 := fun z => Q (.inl (some (.int z))) (mz_k S R N b t)) (fun _ h => h) hp hq)
  exact ⟨rfl, trivial⟩
/-! 215 KeptHouse$Program.tell (II)V -/
theorem ms_215_0 : mz_sf mk_215 0 = mk_215 := mz_sf_zero _
theorem ms_215_24 : mz_sf mk_215 24 = mt_215_24 := mz_sf_add ms_215_0 (t := 24) rfl rfl
theorem ms_215_27 : mz_sf mk_215 27 = mt_215_27 := mz_sf_add ms_215_24 (t := 3) rfl rfl
theorem ms_215_49 : mz_sf mk_215 49 = mt_215_49 := mz_sf_add ms_215_27 (t := 22) rfl rfl
theorem ms_215_52 : mz_sf mk_215 52 = mt_215_52 := mz_sf_add ms_215_49 (t := 3) rfl rfl
theorem ms_215_65 : mz_sf mk_215 65 = mt_215_65 := mz_sf_add ms_215_52 (t := 13) rfl rfl
theorem ms_215_66 : mz_sf mk_215 66 = mt_215_66 := mz_sf_add ms_215_65 (t := 1) rfl rfl
theorem ms_215_67 : mz_sf mk_215 67 = mt_215_67 := mz_sf_add ms_215_66 (t := 1) rfl rfl
set_option maxRecDepth 100000 in
theorem mzq_215 : mz_PG0 215 = some (6, ⟨"KeptHouse$Program", "tell", "(II)V"⟩, prog_8_method_11_code, 3, none, [], mk_215, []) := rfl
theorem cg_215_66 (hd : 0 ≤ d) (hS : mz_ext S 232) (hR : mz_rok R 232)  (s1 : Int32) (s2 : Bool) (N : mz_N) {C0 : (mz_N) → Prop} (hr : ∀ (N2 : mz_N), C0 N2 → Q (.inl none) (mz_k S R N2 b t)) (hp : cp_215_66 s1 s2 N) (hC : C0 (cf_215_66 s1 s2 N)) : mz_G (d, mz_X0 L xs, none, [], mk_215, 3, Q) 66 mt_215_66 [] [.int (mz_b01 s2), .int s1, .ref 53] false (mz_k S R N b t) := by
  unfold cf_215_66 at hC
  unfold cp_215_66 at hp
  have h1 := hp
  refine g_iast (mz_at hS (Nat.le_of_ble_eq_true rfl) mzcS_53) h1 ?_
  exact g_vret rfl (hr _ hC)
theorem cg_215_0 (hd : 0 ≤ d) (hS : mz_ext S 232) (hR : mz_rok R 232)  (v1 : Int32) (v2 : Int32) (N : mz_N) {C0 : (mz_N) → Prop} (hr : ∀ (N2 : mz_N), C0 N2 → Q (.inl none) (mz_k S R N2 b t)) (hp : cp_215_0 v1 v2 N) (hC : C0 (cf_215_0 v1 v2 N)) : mz_G (d, mz_X0 L xs, none, [], mk_215, 3, Q) 0 mk_215 [(0, .ref 41), (1, .int v1), (2, .int v2)] [] true (mz_k S R N b t) := by
  unfold cf_215_0 at hC
  unfold cp_215_0 at hp
  refine g_iload_n rfl (g_bipush mzb_10 ?_)
  refine g_icge (tg := 27) rfl ms_215_27 hC (fun h1 hC => ?_) (fun h1 hC => ?_)
  · have hp := hp.1 h1
    refine g_aload_n rfl (g_getR (mz_at hS (Nat.le_of_ble_eq_true rfl) mzcS_41) mzcf_6_6 (mz_rb hR (Nat.le_of_ble_eq_true rfl) rfl mzcR_41_6) (g_iload_n rfl (g_bipush mzb_50 (g_sipush mzs_300 (g_iload_n rfl (g_imin (Nat.le_of_ble_eq_true rfl) (g_imax (Nat.le_of_ble_eq_true rfl) ?_)))))))
    have h2 := hp
    refine g_iast (mz_at hS (Nat.le_of_ble_eq_true rfl) mzcS_53) h2 (g_goto (tg := 67) rfl ms_215_67 ?_)
    exact g_vret rfl (hr _ hC)
  · have hp := hp.2 h1
    refine g_iload_n rfl (g_bipush mzb_13 ?_)
    refine g_icne (tg := 52) rfl ms_215_52 hC (fun h3 hC => ?_) (fun h3 hC => ?_)
    · have hp := hp.1 h3
      refine g_aload_n rfl (g_getR (mz_at hS (Nat.le_of_ble_eq_true rfl) mzcS_41) mzcf_6_6 (mz_rb hR (Nat.le_of_ble_eq_true rfl) rfl mzcR_41_6) (g_iload_n rfl (g_iconst mzi_0 (g_bipush mzb_9 (g_iload_n rfl (g_imin (Nat.le_of_ble_eq_true rfl) (g_imax (Nat.le_of_ble_eq_true rfl) ?_)))))))
      have h4 := hp
      refine g_iast (mz_at hS (Nat.le_of_ble_eq_true rfl) mzcS_53) h4 (g_goto (tg := 67) rfl ms_215_67 ?_)
      exact g_vret rfl (hr _ hC)
    · have hp := hp.2 h3
      refine g_aload_n rfl (g_getR (mz_at hS (Nat.le_of_ble_eq_true rfl) mzcS_41) mzcf_6_6 (mz_rb hR (Nat.le_of_ble_eq_true rfl) rfl mzcR_41_6) (g_iload_n rfl (g_iload_n rfl ?_)))
      refine g_ifne (tg := 65) rfl ms_215_65 hC (fun h5 hC => ?_) (fun h5 hC => ?_)
      · have hp := hp.1 h5
        refine g_iconst mzi_0 (g_goto (tg := 66) rfl ms_215_66 ?_)
        refine g_weak ?_ (g_cl (cg_215_66 hd hS hR v1 false N hr hp hC))
        exact trivial
      · have hp := hp.2 h5
        refine g_iconst mzi_1 ?_
        refine g_weak ?_ (g_cl (cg_215_66 hd hS hR v1 true N hr hp hC))
        exact trivial
theorem cs_215 (hd : 1 ≤ d) (hS : mz_ext S 232) (hR : mz_rok R 232)  (v1 : Int32) (v2 : Int32) (N : mz_N) (hp : cp_215_0 v1 v2 N) (hq : Q (.inl none) (mz_k S R (cf_215_0 v1 v2 N) b t)) : mz_Ed (mz_X0 L xs) d 215 [.ref 41, .int v1, .int v2] (mz_k S R N b t) Q :=
  by
  refine g_in mzq_215 (Nat.le_of_ble_eq_true rfl) (Nat.le_of_ble_eq_true rfl) (Nat.le_trans (Nat.le_of_ble_eq_true rfl) hd) ?_
  refine g_weak ?_ (cg_215_0 (d := d - 1) (by omega) hS hR v1 v2 N (C0 := fun z => Q (.inl none) (mz_k S R z b t)) (fun _ h => h) hp hq)
  exact ⟨rfl, rfl, rfl, trivial⟩
/-! 216 KeptHouse$Program.pick (I)I -/
theorem ms_216_0 : mz_sf mk_216 0 = mk_216 := mz_sf_zero _
theorem ms_216_7 : mz_sf mk_216 7 = mt_216_7 := mz_sf_add ms_216_0 (t := 7) rfl rfl
theorem ms_216_36 : mz_sf mk_216 36 = mt_216_36 := mz_sf_add ms_216_7 (t := 29) rfl rfl
theorem ms_216_44 : mz_sf mk_216 44 = mt_216_44 := mz_sf_add ms_216_36 (t := 8) rfl rfl
set_option maxRecDepth 100000 in
theorem mzq_216 : mz_PG0 216 = some (6, ⟨"KeptHouse$Program", "pick", "(I)I"⟩, prog_8_method_8_code, 2, some .int, [], mk_216, []) := rfl
theorem cg_216_44 (hd : 0 ≤ d) (hS : mz_ext S 232) (hR : mz_rok R 232)  (s1 : Int32) (s2 : Int32) (v1 : Int32) (N : mz_N) {C0 : (Int32 × mz_N) → Prop} (hr : ∀ (w : Int32) (N2 : mz_N), C0 (w, N2) → Q (.inl (some (.int w))) (mz_k S R N2 b t)) (hp : cp_216_44 s1 s2 v1 N) (hC : C0 (cf_216_44 s1 s2 v1 N)) : mz_G (d, mz_X0 L xs, some .int, [], mk_216, 2, Q) 44 mt_216_44 [(1, .int v1)] [.int s2, .int s1, .ref 54] false (mz_k S R N b t) := by
  unfold cf_216_44 at hC
  unfold cp_216_44 at hp
  have h1 := hp
  refine g_iast (mz_at hS (Nat.le_of_ble_eq_true rfl) mzcS_54) h1 (g_iload_n rfl (g_iconst mzi_2 (g_isub ?_)))
  exact g_iret rfl (hr _ _ hC)
theorem cg_216_0 (hd : 0 ≤ d) (hS : mz_ext S 232) (hR : mz_rok R 232)  (v1 : Int32) (N : mz_N) {C0 : (Int32 × mz_N) → Prop} (hr : ∀ (w : Int32) (N2 : mz_N), C0 (w, N2) → Q (.inl (some (.int w))) (mz_k S R N2 b t)) (hp : cp_216_0 v1 N) (hC : C0 (cf_216_0 v1 N)) : mz_G (d, mz_X0 L xs, some .int, [], mk_216, 2, Q) 0 mk_216 [(0, .ref 41), (1, .int v1)] [] true (mz_k S R N b t) := by
  unfold cf_216_0 at hC
  unfold cp_216_0 at hp
  refine g_iload_n rfl (g_iconst mzi_3 ?_)
  refine g_icge (tg := 7) rfl ms_216_7 hC (fun h1 hC => ?_) (fun h1 hC => ?_)
  · have hp := hp.1 h1
    refine g_iconst mzi_0 ?_
    exact g_iret rfl (hr _ _ hC)
  · have hp := hp.2 h1
    refine g_aload_n rfl (g_getR (mz_at hS (Nat.le_of_ble_eq_true rfl) mzcS_41) mzcf_6_7 (mz_rb hR (Nat.le_of_ble_eq_true rfl) rfl mzcR_41_7) (g_iload_n rfl (g_iconst mzi_3 (g_isub (g_aload_n rfl (g_getR (mz_at hS (Nat.le_of_ble_eq_true rfl) mzcS_41) mzcf_6_7 (mz_rb hR (Nat.le_of_ble_eq_true rfl) rfl mzcR_41_7) (g_iload_n rfl ?_)))))))
    refine g_iconst mzi_3 (g_isub ?_)
    obtain ⟨h2, hp⟩ := hp
    refine g_iald hS.1 (mz_at hS (Nat.le_of_ble_eq_true rfl) mzcS_54) h2 ?_
    refine g_ifeq (tg := 36) rfl ms_216_36 hC (fun h3 hC => ?_) (fun h3 hC => ?_)
    · have hp := hp.1 h3
      refine g_aload_n rfl (g_getR (mz_at hS (Nat.le_of_ble_eq_true rfl) mzcS_41) mzcf_6_7 (mz_rb hR (Nat.le_of_ble_eq_true rfl) rfl mzcR_41_7) (g_iload_n rfl (g_iconst mzi_1 (g_isub ?_))))
      obtain ⟨h4, hp⟩ := hp
      refine g_iald hS.1 (mz_at hS (Nat.le_of_ble_eq_true rfl) mzcS_54) h4 ?_
      refine g_weak ?_ (g_cl (cg_216_44 hd hS hR (v1 - 3) (mz_gI N 54 (v1 - 1)) v1 N hr hp hC))
      exact ⟨rfl, trivial⟩
    · have hp := hp.2 h3
      refine g_aload_n rfl (g_getR (mz_at hS (Nat.le_of_ble_eq_true rfl) mzcS_41) mzcf_6_7 (mz_rb hR (Nat.le_of_ble_eq_true rfl) rfl mzcR_41_7) (g_iload_n rfl (g_iconst mzi_2 (g_isub ?_))))
      obtain ⟨h5, hp⟩ := hp
      refine g_iald hS.1 (mz_at hS (Nat.le_of_ble_eq_true rfl) mzcS_54) h5 (g_goto (tg := 44) rfl ms_216_44 ?_)
      refine g_weak ?_ (g_cl (cg_216_44 hd hS hR (v1 - 3) (mz_gI N 54 (v1 - 2)) v1 N hr hp hC))
      exact ⟨rfl, trivial⟩
theorem cs_216 (hd : 1 ≤ d) (hS : mz_ext S 232) (hR : mz_rok R 232)  (v1 : Int32) (N : mz_N) (hp : cp_216_0 v1 N) (hq : Q (.inl (some (.int ((cf_216_0 v1 N).1)))) (mz_k S R ((cf_216_0 v1 N).2) b t)) : mz_Ed (mz_X0 L xs) d 216 [.ref 41, .int v1] (mz_k S R N b t) Q :=
  by
  refine g_in mzq_216 (Nat.le_of_ble_eq_true rfl) (Nat.le_of_ble_eq_true rfl) (Nat.le_trans (Nat.le_of_ble_eq_true rfl) hd) ?_
  refine g_weak ?_ (cg_216_0 (d := d - 1) (by omega) hS hR v1 N (C0 := fun z => Q (.inl (some (.int z.1))) (mz_k S R z.2 b t)) (fun _ _ h => h) hp hq)
  exact ⟨rfl, rfl, trivial⟩
/-! 218 KeptHouse$Program.limit (J)I -/
theorem ms_218_0 : mz_sf mk_218 0 = mk_218 := mz_sf_zero _
set_option maxRecDepth 100000 in
theorem mzq_218 : mz_PG0 218 = some (6, ⟨"KeptHouse$Program", "limit", "(J)I"⟩, prog_8_method_10_code, 2, some .int, [], mk_218, []) := rfl
theorem cg_218_0 (hd : 0 ≤ d) (hS : mz_ext S 232) (hR : mz_rok R 232)  (v0 : Int64) {C0 : (Int32) → Prop} (hr : ∀ (w : Int32), C0 w → Q (.inl (some (.int w))) (mz_k S R N b t)) (hp : cp_218_0 v0) (hC : C0 (cf_218_0 v0)) : mz_G (d, mz_X0 L xs, some .int, [], mk_218, 2, Q) 0 mk_218 [(0, .long v0)] [] true (mz_k S R N b t) := by
  unfold cf_218_0 at hC
  unfold cp_218_0 at hp
  refine g_con3 (g_con3 (g_lload_n rfl (g_lmin (Nat.le_of_ble_eq_true rfl) (g_lmax (Nat.le_of_ble_eq_true rfl) (g_l2i ?_)))))
  exact g_iret rfl (hr _ hC)
theorem cs_218 (hd : 1 ≤ d) (hS : mz_ext S 232) (hR : mz_rok R 232)  (v0 : Int64) (hp : cp_218_0 v0) (hq : Q (.inl (some (.int (cf_218_0 v0)))) (mz_k S R N b t)) : mz_Ed (mz_X0 L xs) d 218 [.long v0] (mz_k S R N b t) Q :=
  by
  refine g_in mzq_218 (Nat.le_of_ble_eq_true rfl) (Nat.le_of_ble_eq_true rfl) (Nat.le_trans (Nat.le_of_ble_eq_true rfl) hd) ?_
  refine g_weak ?_ (cg_218_0 (d := d - 1) (by omega) hS hR v0 (C0 := fun z => Q (.inl (some (.int z))) (mz_k S R N b t)) (fun _ h => h) hp hq)
  exact ⟨rfl, trivial⟩
/-! 217 KeptHouse$Program.reckon (III)I -/
theorem ms_217_0 : mz_sf mk_217 0 = mk_217 := mz_sf_zero _
theorem ms_217_53 : mz_sf mk_217 53 = mt_217_53 := mz_sf_add ms_217_0 (t := 53) rfl rfl
theorem ms_217_62 : mz_sf mk_217 62 = mt_217_62 := mz_sf_add ms_217_53 (t := 9) rfl rfl
theorem ms_217_71 : mz_sf mk_217 71 = mt_217_71 := mz_sf_add ms_217_62 (t := 9) rfl rfl
theorem ms_217_80 : mz_sf mk_217 80 = mt_217_80 := mz_sf_add ms_217_71 (t := 9) rfl rfl
theorem ms_217_81 : mz_sf mk_217 81 = mt_217_81 := mz_sf_add ms_217_80 (t := 1) rfl rfl
theorem ms_217_82 : mz_sf mk_217 82 = mt_217_82 := mz_sf_add ms_217_81 (t := 1) rfl rfl
theorem ms_217_91 : mz_sf mk_217 91 = mt_217_91 := mz_sf_add ms_217_82 (t := 9) rfl rfl
theorem ms_217_92 : mz_sf mk_217 92 = mt_217_92 := mz_sf_add ms_217_91 (t := 1) rfl rfl
set_option maxRecDepth 100000 in
theorem mzq_217 : mz_PG0 217 = some (6, ⟨"KeptHouse$Program", "reckon", "(III)I"⟩, prog_8_method_9_code, 3, some .int, [], mk_217, []) := rfl
theorem cg_217_0 (hd : 1 ≤ d) (hS : mz_ext S 232) (hR : mz_rok R 232)  (v0 : Int32) (v1 : Int32) (v2 : Int32) {C0 : (Int32) → Prop} (hr : ∀ (w : Int32), C0 w → Q (.inl (some (.int w))) (mz_k S R N b t)) (hp : cp_217_0 v0 v1 v2) (hC : C0 (cf_217_0 v0 v1 v2)) : mz_G (d, mz_X0 L xs, some .int, [], mk_217, 3, Q) 0 mk_217 [(0, .int v0), (1, .int v1), (2, .int v2)] [] true (mz_k S R N b t) := by
  unfold cf_217_0 at hC
  unfold cp_217_0 at hp
  refine g_iload_n rfl ?_
  refine mz_cs hC (fun h1 hC => ?_) (fun h1 hC => ?_)
  · refine g_br (tg := 62) (by rw [h1]; rfl) ms_217_62 ?_
    refine g_iload_n rfl (g_i2l (g_iload_n rfl (g_i2l (g_lmul ?_))))
    refine g_s1v (Nat.le_of_ble_eq_true rfl) (fun _ hq => cs_218 (Nat.le_trans (Nat.le_of_ble_eq_true rfl) hd) (hS.le (Nat.le_of_ble_eq_true rfl)) (hR.le (Nat.le_of_ble_eq_true rfl))  (v1.toInt64 * v2.toInt64) trivial hq) ?_
    exact g_iret rfl (hr _ hC)
  · refine mz_cs hC (fun h2 hC => ?_) (fun h2 hC => ?_)
    · refine g_brn (tg := 44) (by rw [h2]; rfl) (by decide) rfl ?_
      refine g_iload_n rfl (g_i2l (g_iload_n rfl (g_i2l (g_ladd ?_))))
      refine g_s1v (Nat.le_of_ble_eq_true rfl) (fun _ hq => cs_218 (Nat.le_trans (Nat.le_of_ble_eq_true rfl) hd) (hS.le (Nat.le_of_ble_eq_true rfl)) (hR.le (Nat.le_of_ble_eq_true rfl))  (v1.toInt64 + v2.toInt64) trivial hq) ?_
      exact g_iret rfl (hr _ hC)
    · refine mz_cs hC (fun h3 hC => ?_) (fun h3 hC => ?_)
      · refine g_br (tg := 53) (by rw [h3]; rfl) ms_217_53 ?_
        refine g_iload_n rfl (g_i2l (g_iload_n rfl (g_i2l (g_lsub ?_))))
        refine g_s1v (Nat.le_of_ble_eq_true rfl) (fun _ hq => cs_218 (Nat.le_trans (Nat.le_of_ble_eq_true rfl) hd) (hS.le (Nat.le_of_ble_eq_true rfl)) (hR.le (Nat.le_of_ble_eq_true rfl))  (v1.toInt64 - v2.toInt64) trivial hq) ?_
        exact g_iret rfl (hr _ hC)
      · refine mz_cs hC (fun h4 hC => ?_) (fun h4 hC => ?_)
        · refine g_br (tg := 71) (by rw [h4]; rfl) ms_217_71 ?_
          refine g_iload_n rfl (g_iload_n rfl ?_)
          refine g_icge (tg := 80) rfl ms_217_80 hC (fun h6 hC => ?_) (fun h6 hC => ?_)
          · refine g_iconst mzi_1 (g_goto (tg := 81) rfl ms_217_81 ?_)
            exact g_iret rfl (hr _ hC)
          · refine g_iconst mzi_0 ?_
            exact g_iret rfl (hr _ hC)
        · refine g_br (tg := 82) ((mz_lsw_d (l := [42, 43, 45, 60]) rfl (by intro x hx; simp [Op.lookupswitch.offset] at hx ⊢; omega) ⟨h1, h2, h3, h4, trivial⟩).trans (mz_tg_t rfl)) ms_217_82 ?_
          refine g_iload_n rfl (g_iload_n rfl ?_)
          refine g_icle (tg := 91) rfl ms_217_91 hC (fun h5 hC => ?_) (fun h5 hC => ?_)
          · refine g_iconst mzi_1 (g_goto (tg := 92) rfl ms_217_92 ?_)
            exact g_iret rfl (hr _ hC)
          · refine g_iconst mzi_0 ?_
            exact g_iret rfl (hr _ hC)
theorem cs_217 (hd : 2 ≤ d) (hS : mz_ext S 232) (hR : mz_rok R 232)  (v0 : Int32) (v1 : Int32) (v2 : Int32) (hp : cp_217_0 v0 v1 v2) (hq : Q (.inl (some (.int (cf_217_0 v0 v1 v2)))) (mz_k S R N b t)) : mz_Ed (mz_X0 L xs) d 217 [.int v0, .int v1, .int v2] (mz_k S R N b t) Q :=
  by
  refine g_in mzq_217 (Nat.le_of_ble_eq_true rfl) (Nat.le_of_ble_eq_true rfl) (Nat.le_trans (Nat.le_of_ble_eq_true rfl) hd) ?_
  refine g_weak ?_ (cg_217_0 (d := d - 1) (by omega) hS hR v0 v1 v2 (C0 := fun z => Q (.inl (some (.int z))) (mz_k S R N b t)) (fun _ h => h) hp hq)
  exact ⟨rfl, rfl, rfl, trivial⟩
/-! 214 KeptHouse$Program.doStep (III)I -/
theorem ms_214_0 : mz_sf mk_214 0 = mk_214 := mz_sf_zero _
theorem ms_214_9 : mz_sf mk_214 9 = mt_214_9 := mz_sf_add ms_214_0 (t := 9) rfl rfl
theorem ms_214_29 : mz_sf mk_214 29 = mt_214_29 := mz_sf_add ms_214_9 (t := 20) rfl rfl
theorem ms_214_35 : mz_sf mk_214 35 = mt_214_35 := mz_sf_add ms_214_29 (t := 6) rfl rfl
theorem ms_214_36 : mz_sf mk_214 36 = mt_214_36 := mz_sf_add ms_214_35 (t := 1) rfl rfl
theorem ms_214_40 : mz_sf mk_214 40 = mt_214_40 := mz_sf_add ms_214_36 (t := 4) rfl rfl
theorem ms_214_52 : mz_sf mk_214 52 = mt_214_52 := mz_sf_add ms_214_40 (t := 12) rfl rfl
theorem ms_214_54 : mz_sf mk_214 54 = mt_214_54 := mz_sf_add ms_214_52 (t := 2) rfl rfl
theorem ms_214_72 : mz_sf mk_214 72 = mt_214_72 := mz_sf_add ms_214_54 (t := 18) rfl rfl
theorem ms_214_76 : mz_sf mk_214 76 = mt_214_76 := mz_sf_add ms_214_72 (t := 4) rfl rfl
theorem ms_214_98 : mz_sf mk_214 98 = mt_214_98 := mz_sf_add ms_214_76 (t := 22) rfl rfl
theorem ms_214_100 : mz_sf mk_214 100 = mt_214_100 := mz_sf_add ms_214_98 (t := 2) rfl rfl
theorem ms_214_112 : mz_sf mk_214 112 = mt_214_112 := mz_sf_add ms_214_100 (t := 12) rfl rfl
theorem ms_214_119 : mz_sf mk_214 119 = mt_214_119 := mz_sf_add ms_214_112 (t := 7) rfl rfl
theorem ms_214_147 : mz_sf mk_214 147 = mt_214_147 := mz_sf_add ms_214_119 (t := 28) rfl rfl
set_option maxRecDepth 100000 in
theorem mzq_214 : mz_PG0 214 = some (6, ⟨"KeptHouse$Program", "doStep", "(III)I"⟩, prog_8_method_7_code, 4, some .int, [], mk_214, []) := rfl
theorem cg_214_35 (hd : 2 ≤ d) (hS : mz_ext S 232) (hR : mz_rok R 232)  (s1 : Int32) (s2 : Int32) (v3 : Int32) (N : mz_N) {C0 : (Int32 × mz_N) → Prop} (hr : ∀ (w : Int32) (N2 : mz_N), C0 (w, N2) → Q (.inl (some (.int w))) (mz_k S R N2 b t)) (hp : cp_214_35 s1 s2 v3 N) (hC : C0 (cf_214_35 s1 s2 v3 N)) : mz_G (d, mz_X0 L xs, some .int, [], mk_214, 4, Q) 35 mt_214_35 [(3, .int v3)] [.int s2, .int s1, .ref 54] false (mz_k S R N b t) := by
  unfold cf_214_35 at hC
  unfold cp_214_35 at hp
  have h1 := hp
  refine g_iast (mz_at hS (Nat.le_of_ble_eq_true rfl) mzcS_54) h1 (g_iload_n rfl (g_iconst mzi_1 (g_iadd ?_)))
  exact g_iret rfl (hr _ _ hC)
theorem cg_214_9 (hd : 2 ≤ d) (hS : mz_ext S 232) (hR : mz_rok R 232)  (v1 : Int32) (v2 : Int32) (v3 : Int32) (N : mz_N) {C0 : (Int32 × mz_N) → Prop} (hr : ∀ (w : Int32) (N2 : mz_N), C0 (w, N2) → Q (.inl (some (.int w))) (mz_k S R N2 b t)) (hp : cp_214_9 v1 v2 v3 N) (hC : C0 (cf_214_9 v1 v2 v3 N)) : mz_G (d, mz_X0 L xs, some .int, [], mk_214, 4, Q) 9 mt_214_9 [(0, .ref 41), (1, .int v1), (2, .int v2), (3, .int v3)] [] false (mz_k S R N b t) := by
  unfold cf_214_9 at hC
  unfold cp_214_9 at hp
  refine g_iload_n rfl (g_sipush mzs_196 ?_)
  refine g_icge (tg := 36) rfl ms_214_36 hC (fun h1 hC => ?_) (fun h1 hC => ?_)
  · have hp := hp.1 h1
    refine g_aload_n rfl (g_getR (mz_at hS (Nat.le_of_ble_eq_true rfl) mzcS_41) mzcf_6_7 (mz_rb hR (Nat.le_of_ble_eq_true rfl) rfl mzcR_41_7) (g_iload_n rfl (g_iload_n rfl ?_)))
    refine g_ifne (tg := 29) rfl ms_214_29 hC (fun h2 hC => ?_) (fun h2 hC => ?_)
    · have hp := hp.1 h2
      refine g_iload_n rfl (g_goto (tg := 35) rfl ms_214_35 ?_)
      refine g_weak ?_ (g_cl (cg_214_35 hd hS hR v3 v2 v3 N hr hp hC))
      exact ⟨rfl, trivial⟩
    · have hp := hp.2 h2
      refine g_aload_n rfl (g_getR (mz_at hS (Nat.le_of_ble_eq_true rfl) mzcS_41) mzcf_6_6 (mz_rb hR (Nat.le_of_ble_eq_true rfl) rfl mzcR_41_6) (g_iload_n rfl ?_))
      obtain ⟨h3, hp⟩ := hp
      refine g_iald hS.1 (mz_at hS (Nat.le_of_ble_eq_true rfl) mzcS_53) h3 ?_
      refine g_weak ?_ (g_cl (cg_214_35 hd hS hR v3 (mz_gI N 53 v2) v3 N hr hp hC))
      exact ⟨rfl, trivial⟩
  · have hp := hp.2 h1
    refine g_iload_n rfl (g_iconst mzi_1 (g_iadd ?_))
    exact g_iret rfl (hr _ _ hC)
theorem cg_214_147 (hd : 2 ≤ d) (hS : mz_ext S 232) (hR : mz_rok R 232)  (v3 : Int32) (N : mz_N) {C0 : (Int32 × mz_N) → Prop} (hr : ∀ (w : Int32) (N2 : mz_N), C0 (w, N2) → Q (.inl (some (.int w))) (mz_k S R N2 b t)) (hp : cp_214_147 v3 N) (hC : C0 (cf_214_147 v3 N)) : mz_G (d, mz_X0 L xs, some .int, [], mk_214, 4, Q) 147 mt_214_147 [(3, .int v3)] [] false (mz_k S R N b t) := by
  unfold cf_214_147 at hC
  unfold cp_214_147 at hp
  refine g_iload_n rfl (g_iconst mzi_1 (g_isub ?_))
  exact g_iret rfl (hr _ _ hC)
theorem cg_214_0 (hd : 2 ≤ d) (hS : mz_ext S 232) (hR : mz_rok R 232)  (v1 : Int32) (v2 : Int32) (v3 : Int32) (N : mz_N) {C0 : (Int32 × mz_N) → Prop} (hr : ∀ (w : Int32) (N2 : mz_N), C0 (w, N2) → Q (.inl (some (.int w))) (mz_k S R N2 b t)) (hp : cp_214_0 v1 v2 v3 N) (hC : C0 (cf_214_0 v1 v2 v3 N)) : mz_G (d, mz_X0 L xs, some .int, [], mk_214, 4, Q) 0 mk_214 [(0, .ref 41), (1, .int v1), (2, .int v2), (3, .int v3)] [] true (mz_k S R N b t) := by
  unfold cf_214_0 at hC
  unfold cp_214_0 at hp
  refine g_iload_n rfl ?_
  refine g_ifeq (tg := 9) rfl ms_214_9 hC (fun h1 hC => ?_) (fun h1 hC => ?_)
  · have hp := hp.1 h1
    refine g_weak ?_ (g_cl (cg_214_9 hd hS hR v1 v2 v3 N hr hp hC))
    exact ⟨rfl, rfl, rfl, rfl, trivial⟩
  · have hp := hp.2 h1
    refine g_iload_n rfl (g_iconst mzi_1 ?_)
    refine g_icne (tg := 40) rfl ms_214_40 hC (fun h2 hC => ?_) (fun h2 hC => ?_)
    · have hp := hp.1 h2
      refine g_weak ?_ (g_cl (cg_214_9 hd hS hR v1 v2 v3 N hr hp hC))
      exact ⟨rfl, rfl, rfl, rfl, trivial⟩
    · have hp := hp.2 h2
      refine g_iload_n rfl (g_iconst mzi_1 ?_)
      refine g_iclt (tg := 52) rfl ms_214_52 hC (fun h3 hC => ?_) (fun h3 hC => ?_)
      · have hp := hp.1 h3
        refine g_iconst mzi_0 ?_
        exact g_iret rfl (hr _ _ hC)
      · have hp := hp.2 h3
        refine g_iload_n rfl (g_sipush mzs_196 ?_)
        refine g_icle (tg := 54) rfl ms_214_54 hC (fun h4 hC => ?_) (fun h4 hC => ?_)
        · have hp := hp.1 h4
          refine g_iconst mzi_0 ?_
          exact g_iret rfl (hr _ _ hC)
        · have hp := hp.2 h4
          refine g_iload_n rfl (g_iconst mzi_2 ?_)
          refine g_icne (tg := 76) rfl ms_214_76 hC (fun h5 hC => ?_) (fun h5 hC => ?_)
          · have hp := hp.1 h5
            refine g_aload_n rfl (g_iload_n rfl (g_aload_n rfl (g_getR (mz_at hS (Nat.le_of_ble_eq_true rfl) mzcS_41) mzcf_6_7 (mz_rb hR (Nat.le_of_ble_eq_true rfl) rfl mzcR_41_7) (g_iload_n rfl (g_iconst mzi_1 (g_isub ?_))))))
            obtain ⟨h6, hp⟩ := hp
            refine g_iald hS.1 (mz_at hS (Nat.le_of_ble_eq_true rfl) mzcS_54) h6 ?_
            have h7 := hp
            refine g_v3n (Nat.le_of_ble_eq_true rfl) (mz_at hS (Nat.le_of_ble_eq_true rfl) mzcS_41) (fun _ hq => cs_215 (Nat.le_trans (Nat.le_of_ble_eq_true rfl) hd) (hS.le (Nat.le_of_ble_eq_true rfl)) (hR.le (Nat.le_of_ble_eq_true rfl))  v2 (mz_gI N 54 (v3 - 1)) N h7 hq) (g_iload_n rfl (g_iconst mzi_1 (g_isub ?_)))
            exact g_iret rfl (hr _ _ hC)
          · have hp := hp.2 h5
            refine g_iload_n rfl (g_iconst mzi_3 ?_)
            refine g_icne (tg := 100) rfl ms_214_100 hC (fun h8 hC => ?_) (fun h8 hC => ?_)
            · have hp := hp.1 h8
              refine g_aload_n rfl (g_getR (mz_at hS (Nat.le_of_ble_eq_true rfl) mzcS_41) mzcf_6_7 (mz_rb hR (Nat.le_of_ble_eq_true rfl) rfl mzcR_41_7) (g_iload_n rfl (g_iconst mzi_1 (g_isub (g_aload_n rfl (g_getR (mz_at hS (Nat.le_of_ble_eq_true rfl) mzcS_41) mzcf_6_7 (mz_rb hR (Nat.le_of_ble_eq_true rfl) rfl mzcR_41_7) (g_iload_n rfl ?_)))))))
              refine g_iconst mzi_1 (g_isub ?_)
              obtain ⟨h9, hp⟩ := hp
              refine g_iald hS.1 (mz_at hS (Nat.le_of_ble_eq_true rfl) mzcS_54) h9 (g_ineg ?_)
              have h10 := hp
              refine g_iast (mz_at hS (Nat.le_of_ble_eq_true rfl) mzcS_54) h10 (g_iload_n rfl ?_)
              exact g_iret rfl (hr _ _ hC)
            · have hp := hp.2 h8
              refine g_iload_n rfl (g_bipush mzb_63 ?_)
              refine g_icne (tg := 112) rfl ms_214_112 hC (fun h11 hC => ?_) (fun h11 hC => ?_)
              · have hp := hp.1 h11
                refine g_aload_n rfl (g_iload_n rfl ?_)
                have h12 := hp
                refine g_v2v (Nat.le_of_ble_eq_true rfl) (mz_at hS (Nat.le_of_ble_eq_true rfl) mzcS_41) (fun _ hq => cs_216 (Nat.le_trans (Nat.le_of_ble_eq_true rfl) hd) (hS.le (Nat.le_of_ble_eq_true rfl)) (hR.le (Nat.le_of_ble_eq_true rfl))  v3 N h12 hq) ?_
                exact g_iret rfl (hr _ _ hC)
              · have hp := hp.2 h11
                refine g_iload_n rfl (g_iconst mzi_2 ?_)
                refine g_icge (tg := 119) rfl ms_214_119 hC (fun h13 hC => ?_) (fun h13 hC => ?_)
                · have hp := hp.1 h13
                  refine g_iconst mzi_0 ?_
                  exact g_iret rfl (hr _ _ hC)
                · have hp := hp.2 h13
                  refine g_aload_n rfl (g_getR (mz_at hS (Nat.le_of_ble_eq_true rfl) mzcS_41) mzcf_6_7 (mz_rb hR (Nat.le_of_ble_eq_true rfl) rfl mzcR_41_7) (g_iload_n rfl (g_iconst mzi_2 (g_isub (g_iload_n rfl (g_aload_n rfl (g_getR (mz_at hS (Nat.le_of_ble_eq_true rfl) mzcS_41) mzcf_6_7 (mz_rb hR (Nat.le_of_ble_eq_true rfl) rfl mzcR_41_7) ?_)))))))
                  refine g_iload_n rfl (g_iconst mzi_2 (g_isub ?_))
                  obtain ⟨h14, hp⟩ := hp
                  refine g_iald hS.1 (mz_at hS (Nat.le_of_ble_eq_true rfl) mzcS_54) h14 (g_aload_n rfl (g_getR (mz_at hS (Nat.le_of_ble_eq_true rfl) mzcS_41) mzcf_6_7 (mz_rb hR (Nat.le_of_ble_eq_true rfl) rfl mzcR_41_7) (g_iload_n rfl (g_iconst mzi_1 (g_isub ?_)))))
                  obtain ⟨h15, hp⟩ := hp
                  refine g_iald hS.1 (mz_at hS (Nat.le_of_ble_eq_true rfl) mzcS_54) h15 ?_
                  refine g_s3v (Nat.le_of_ble_eq_true rfl) (fun _ hq => cs_217 (Nat.le_trans (Nat.le_of_ble_eq_true rfl) hd) (hS.le (Nat.le_of_ble_eq_true rfl)) (hR.le (Nat.le_of_ble_eq_true rfl))  v1 (mz_gI N 54 (v3 - 2)) (mz_gI N 54 (v3 - 1)) trivial hq) ?_
                  obtain ⟨h17, hp⟩ := hp
                  refine g_iast (mz_at hS (Nat.le_of_ble_eq_true rfl) mzcS_54) h17 ?_
                  refine g_weak ?_ (g_cl (cg_214_147 hd hS hR v3 (mz_wI N 54 (v3 - 2) (cf_217_0 v1 (mz_gI N 54 (v3 - 2)) (mz_gI N 54 (v3 - 1)))) hr hp hC))
                  exact ⟨rfl, trivial⟩
theorem cs_214 (hd : 3 ≤ d) (hS : mz_ext S 232) (hR : mz_rok R 232)  (v1 : Int32) (v2 : Int32) (v3 : Int32) (N : mz_N) (hp : cp_214_0 v1 v2 v3 N) (hq : Q (.inl (some (.int ((cf_214_0 v1 v2 v3 N).1)))) (mz_k S R ((cf_214_0 v1 v2 v3 N).2) b t)) : mz_Ed (mz_X0 L xs) d 214 [.ref 41, .int v1, .int v2, .int v3] (mz_k S R N b t) Q :=
  by
  refine g_in mzq_214 (Nat.le_of_ble_eq_true rfl) (Nat.le_of_ble_eq_true rfl) (Nat.le_trans (Nat.le_of_ble_eq_true rfl) hd) ?_
  refine g_weak ?_ (cg_214_0 (d := d - 1) (by omega) hS hR v1 v2 v3 N (C0 := fun z => Q (.inl (some (.int z.1))) (mz_k S R z.2 b t)) (fun _ _ h => h) hp hq)
  exact ⟨rfl, rfl, rfl, rfl, trivial⟩
/-! 213 KeptHouse$Program.perform ()V -/
theorem ms_213_0 : mz_sf mk_213 0 = mk_213 := mz_sf_zero _
theorem ms_213_4 : mz_sf mk_213 4 = mt_213_4 := mz_sf_add ms_213_0 (t := 4) rfl rfl
theorem ms_213_39 : mz_sf mk_213 39 = mt_213_39 := mz_sf_add ms_213_4 (t := 35) rfl rfl
theorem ms_213_45 : mz_sf mk_213 45 = mt_213_45 := mz_sf_add ms_213_39 (t := 6) rfl rfl
set_option maxRecDepth 100000 in
theorem mzq_213 : mz_PG0 213 = some (6, ⟨"KeptHouse$Program", "perform", "()V"⟩, prog_8_method_6_code, 3, none, [], mk_213, []) := rfl
theorem cg_213_39 (hd : 3 ≤ d) (hS : mz_ext S 232) (hR : mz_rok R 232)  (v1 : Int32) (v2 : Int32) (N : mz_N) (b : Bool) {C0 : (mz_N) → Prop} (hr : ∀ (N2 : mz_N), C0 N2 → Q (.inl none) (mz_k S R N2 b t)) {C1 : ((Int32 × Int32 × mz_N) ⊕ (mz_N)) → Prop} (hc1 : ∀ s2, C1 (.inl s2) → mz_G (d, mz_X0 L xs, none, [], mk_213, 3, Q) 4 mt_213_4 [(0, .ref 41), (1, .int s2.1), (2, .int s2.2.1)] [] false (mz_k S R s2.2.2 b t)) (hx1 : ∀ z, C1 (.inr z) → C0 z) (hp : cp_213_39 v1 v2 N b) (hC : C1 (cf_213_39 v1 v2 N b)) : mz_G (d, mz_X0 L xs, none, [], mk_213, 3, Q) 39 mt_213_39 [(0, .ref 41), (1, .int v1), (2, .int v2)] [] false (mz_k S R N b t) := by
  unfold cf_213_39 at hC
  unfold cp_213_39 at hp
  refine g_iinc rfl mzi_1 (Nat.le_of_ble_eq_true rfl) rfl (g_goto (tg := 4) rfl ms_213_4 ?_)
  refine g_weak ?_ (g_cl (hc1 (v1, (v2 + 1), N) hC))
  exact ⟨rfl, rfl, rfl, trivial⟩
theorem cb_213_4 (hd : 3 ≤ d) (hS : mz_ext S 232) (hR : mz_rok R 232)  (b : Bool) (s : Int32 × Int32 × mz_N) {C0 : (mz_N) → Prop} (hr : ∀ (N2 : mz_N), C0 N2 → Q (.inl none) (mz_k S R N2 b t)) {C1 : ((Int32 × Int32 × mz_N) ⊕ (mz_N)) → Prop} (hc1 : ∀ s2, C1 (.inl s2) → mz_G (d, mz_X0 L xs, none, [], mk_213, 3, Q) 4 mt_213_4 [(0, .ref 41), (1, .int s2.1), (2, .int s2.2.1)] [] false (mz_k S R s2.2.2 b t)) (hx1 : ∀ z, C1 (.inr z) → C0 z) (hp : cd_213_4 b s) (hC : C1 (cq_213_4 b s)) : mz_G (d, mz_X0 L xs, none, [], mk_213, 3, Q) 4 mt_213_4 [(0, .ref 41), (1, .int s.1), (2, .int s.2.1)] [] false (mz_k S R s.2.2 b t) := by
  unfold cq_213_4 at hC
  unfold cd_213_4 at hp
  refine g_iload_n rfl (g_aload_n rfl (g_getR (mz_at hS (Nat.le_of_ble_eq_true rfl) mzcS_41) mzcf_6_2 (mz_rb_lv b R) (g_getI (mz_at hS (mz_oL0 (mz_lv_or b) (Nat.le_of_ble_eq_true rfl)) (mz_oA0 (mz_lv_or b))) mzcf_7_4 ?_)))
  refine g_icge (tg := 45) rfl ms_213_45 hC (fun h1 hC => ?_) (fun h1 hC => ?_)
  · have hp := hp.1 h1
    refine g_aload_n rfl (g_aload_n rfl (g_getR (mz_at hS (Nat.le_of_ble_eq_true rfl) mzcS_41) mzcf_6_2 (mz_rb_lv b R) (g_getR (mz_at hS (mz_oL0 (mz_lv_or b) (Nat.le_of_ble_eq_true rfl)) (mz_oA0 (mz_lv_or b))) mzcf_7_2 (mz_rb hR (mz_oL0 (mz_lv_or b) (Nat.le_of_ble_eq_true rfl)) (mz_o41 (mz_lv_or b)) (mz_oR2 (mz_lv_or b))) (g_iload_n rfl ?_))))
    obtain ⟨h2, hp⟩ := hp
    refine g_iald hS.1 (mz_at hS (mz_oL2 (mz_lv_or b) (Nat.le_of_ble_eq_true rfl)) (mz_oA2 (mz_lv_or b))) h2 (g_aload_n rfl (g_getR (mz_at hS (Nat.le_of_ble_eq_true rfl) mzcS_41) mzcf_6_2 (mz_rb_lv b R) (g_getR (mz_at hS (mz_oL0 (mz_lv_or b) (Nat.le_of_ble_eq_true rfl)) (mz_oA0 (mz_lv_or b))) mzcf_7_3 (mz_rb hR (mz_oL0 (mz_lv_or b) (Nat.le_of_ble_eq_true rfl)) (mz_o41 (mz_lv_or b)) (mz_oR3 (mz_lv_or b))) (g_iload_n rfl ?_))))
    obtain ⟨h3, hp⟩ := hp
    refine g_iald hS.1 (mz_at hS (mz_oL3 (mz_lv_or b) (Nat.le_of_ble_eq_true rfl)) (mz_oA3 (mz_lv_or b))) h3 (g_iload_n rfl ?_)
    obtain ⟨h4, hp⟩ := hp
    refine g_v4v (Nat.le_of_ble_eq_true rfl) (mz_at hS (Nat.le_of_ble_eq_true rfl) mzcS_41) (fun _ hq => cs_214 (Nat.le_trans (Nat.le_of_ble_eq_true rfl) hd) (hS.le (Nat.le_of_ble_eq_true rfl)) (hR.le (Nat.le_of_ble_eq_true rfl))  (mz_gI s.2.2 ((mz_lv b) + 2) s.2.1) (mz_gI s.2.2 ((mz_lv b) + 3) s.2.1) s.1 s.2.2 h4 hq) (g_istore_n (Nat.le_of_ble_eq_true rfl) rfl ?_)
    refine g_weak ?_ (g_cl (cg_213_39 hd hS hR ((cf_214_0 (mz_gI s.2.2 ((mz_lv b) + 2) s.2.1) (mz_gI s.2.2 ((mz_lv b) + 3) s.2.1) s.1 s.2.2).1) s.2.1 ((cf_214_0 (mz_gI s.2.2 ((mz_lv b) + 2) s.2.1) (mz_gI s.2.2 ((mz_lv b) + 3) s.2.1) s.1 s.2.2).2) b hr hc1 hx1 hp hC))
    exact ⟨rfl, rfl, rfl, trivial⟩
  · have hp := hp.2 h1
    exact g_vret rfl (hr _ (hx1 _ hC))
theorem cg_213_4 (hd : 3 ≤ d) (hS : mz_ext S 232) (hR : mz_rok R 232)  (v1 : Int32) (v2 : Int32) (N : mz_N) (b : Bool) {C0 : (mz_N) → Prop} (hr : ∀ (N2 : mz_N), C0 N2 → Q (.inl none) (mz_k S R N2 b t)) (hp : cp_213_4 v1 v2 N b) (hC : C0 (cf_213_4 v1 v2 N b)) : mz_G (d, mz_X0 L xs, none, [], mk_213, 3, Q) 4 mt_213_4 [(0, .ref 41), (1, .int v1), (2, .int v2)] [] false (mz_k S R N b t) := by
  obtain ⟨n, hn⟩ := hp
  exact g_loop (G := fun s => mz_G (d, mz_X0 L xs, none, [], mk_213, 3, Q) 4 mt_213_4 [(0, .ref 41), (1, .int s.1), (2, .int s.2.1)] [] false (mz_k S R s.2.2 b t)) (C := C0) (fun C2 hc hx s hP hC => cb_213_4 hd hS hR b s hr hc hx hP hC) n (v1, v2, N) hn hC
theorem cg_213_0 (hd : 3 ≤ d) (hS : mz_ext S 232) (hR : mz_rok R 232)  (N : mz_N) (b : Bool) {C0 : (mz_N) → Prop} (hr : ∀ (N2 : mz_N), C0 N2 → Q (.inl none) (mz_k S R N2 b t)) (hp : cp_213_0 N b) (hC : C0 (cf_213_0 N b)) : mz_G (d, mz_X0 L xs, none, [], mk_213, 3, Q) 0 mk_213 [(0, .ref 41)] [] true (mz_k S R N b t) := by
  unfold cf_213_0 at hC
  unfold cp_213_0 at hp
  refine g_iconst mzi_0 (g_istore_n (Nat.le_of_ble_eq_true rfl) rfl (g_iconst mzi_0 (g_istore_n (Nat.le_of_ble_eq_true rfl) rfl ?_)))
  refine g_weak ?_ (g_cl (cg_213_4 hd hS hR 0 0 N b hr hp hC))
  exact ⟨rfl, rfl, rfl, trivial⟩
theorem cs_213 (hd : 4 ≤ d) (hS : mz_ext S 232) (hR : mz_rok R 232)  (N : mz_N) (b : Bool) (hp : cp_213_0 N b) (hq : Q (.inl none) (mz_k S R (cf_213_0 N b) b t)) : mz_Ed (mz_X0 L xs) d 213 [.ref 41] (mz_k S R N b t) Q :=
  by
  refine g_in mzq_213 (Nat.le_of_ble_eq_true rfl) (Nat.le_of_ble_eq_true rfl) (Nat.le_trans (Nat.le_of_ble_eq_true rfl) hd) ?_
  refine g_weak ?_ (cg_213_0 (d := d - 1) (by omega) hS hR N b (C0 := fun z => Q (.inl none) (mz_k S R z b t)) (fun _ h => h) hp hq)
  exact ⟨rfl, trivial⟩
/-! 208 KeptHouse.followProgram (I)V -/
theorem ms_208_0 : mz_sf mk_208 0 = mk_208 := mz_sf_zero _
theorem ms_208_14 : mz_sf mk_208 14 = mt_208_14 := mz_sf_add ms_208_0 (t := 14) rfl rfl
theorem ms_208_16 : mz_sf mk_208 16 = mt_208_16 := mz_sf_add ms_208_14 (t := 2) rfl rfl
theorem ms_208_37 : mz_sf mk_208 37 = mt_208_37 := mz_sf_add ms_208_16 (t := 21) rfl rfl
theorem ms_208_41 : mz_sf mk_208 41 = mt_208_41 := mz_sf_add ms_208_37 (t := 4) rfl rfl
theorem ms_208_42 : mz_sf mk_208 42 = mt_208_42 := mz_sf_add ms_208_41 (t := 1) rfl rfl
theorem ms_208_73 : mz_sf mk_208 73 = mt_208_73 := mz_sf_add ms_208_42 (t := 31) rfl rfl
theorem ms_208_74 : mz_sf mk_208 74 = mt_208_74 := mz_sf_add ms_208_73 (t := 1) rfl rfl
theorem ms_208_104 : mz_sf mk_208 104 = mt_208_104 := mz_sf_add ms_208_74 (t := 30) rfl rfl
theorem ms_208_105 : mz_sf mk_208 105 = mt_208_105 := mz_sf_add ms_208_104 (t := 1) rfl rfl
theorem ms_208_138 : mz_sf mk_208 138 = mt_208_138 := mz_sf_add ms_208_105 (t := 33) rfl rfl
theorem ms_208_139 : mz_sf mk_208 139 = mt_208_139 := mz_sf_add ms_208_138 (t := 1) rfl rfl
theorem ms_208_146 : mz_sf mk_208 146 = mt_208_146 := mz_sf_add ms_208_139 (t := 7) rfl rfl
theorem ms_208_170 : mz_sf mk_208 170 = mt_208_170 := mz_sf_add ms_208_146 (t := 24) rfl rfl
theorem ms_208_171 : mz_sf mk_208 171 = mt_208_171 := mz_sf_add ms_208_170 (t := 1) rfl rfl
theorem ms_208_196 : mz_sf mk_208 196 = mt_208_196 := mz_sf_add ms_208_171 (t := 25) rfl rfl
theorem ms_208_228 : mz_sf mk_208 228 = mt_208_228 := mz_sf_add ms_208_196 (t := 32) rfl rfl
theorem ms_208_262 : mz_sf mk_208 262 = mt_208_262 := mz_sf_add ms_208_228 (t := 34) rfl rfl
theorem ms_208_263 : mz_sf mk_208 263 = mt_208_263 := mz_sf_add ms_208_262 (t := 1) rfl rfl
set_option maxRecDepth 100000 in
theorem mzq_208 : mz_PG0 208 = some (11, ⟨"KeptHouse", "followProgram", "(I)V"⟩, prog_1_method_76_code, 5, none, [], mk_208, []) := rfl
theorem cg_208_139 (hd : 4 ≤ d) (hS : mz_ext S 232) (hR : mz_rok R 232)  (s1 : Int32) (s2 : Bool) (v1 : Int32) (v2 : Int32) (N : mz_N) (b : Bool) {C0 : (mz_N) → Prop} (hr : ∀ (N2 : mz_N), C0 N2 → Q (.inl none) (mz_k S R N2 b t)) {C1 : ((Int32 × mz_N) ⊕ (mz_N)) → Prop} (hc1 : ∀ s2, C1 (.inl s2) → mz_G (d, mz_X0 L xs, none, [], mk_208, 5, Q) 16 mt_208_16 [(0, .ref 0), (1, .int v1), (2, .int s2.1)] [] false (mz_k S R s2.2 b t)) (hx1 : ∀ z, C1 (.inr z) → C0 z) (hp : cp_208_139 s1 s2 v1 v2 N b) (hC : C1 (cf_208_139 s1 s2 v1 v2 N b)) : mz_G (d, mz_X0 L xs, none, [], mk_208, 5, Q) 139 mt_208_139 [(0, .ref 0), (1, .int v1), (2, .int v2)] [.int (mz_b01 s2), .int s1, .ref 53] false (mz_k S R N b t) := by
  unfold cf_208_139 at hC
  unfold cp_208_139 at hp
  have h1 := hp
  refine g_iast (mz_at hS (Nat.le_of_ble_eq_true rfl) mzcS_53) h1 (g_iinc rfl mzi_1 (Nat.le_of_ble_eq_true rfl) rfl (g_goto (tg := 16) rfl ms_208_16 ?_))
  refine g_weak ?_ (g_cl (hc1 ((v2 + 1), mz_wI N 53 s1 (mz_b01 s2)) hC))
  exact ⟨rfl, rfl, rfl, trivial⟩
theorem cg_208_138 (hd : 4 ≤ d) (hS : mz_ext S 232) (hR : mz_rok R 232)  (s1 : Int32) (v1 : Int32) (v2 : Int32) (N : mz_N) (b : Bool) {C0 : (mz_N) → Prop} (hr : ∀ (N2 : mz_N), C0 N2 → Q (.inl none) (mz_k S R N2 b t)) {C1 : ((Int32 × mz_N) ⊕ (mz_N)) → Prop} (hc1 : ∀ s2, C1 (.inl s2) → mz_G (d, mz_X0 L xs, none, [], mk_208, 5, Q) 16 mt_208_16 [(0, .ref 0), (1, .int v1), (2, .int s2.1)] [] false (mz_k S R s2.2 b t)) (hx1 : ∀ z, C1 (.inr z) → C0 z) (hp : cp_208_138 s1 v1 v2 N b) (hC : C1 (cf_208_138 s1 v1 v2 N b)) : mz_G (d, mz_X0 L xs, none, [], mk_208, 5, Q) 138 mt_208_138 [(0, .ref 0), (1, .int v1), (2, .int v2)] [.int s1, .ref 53] false (mz_k S R N b t) := by
  unfold cf_208_138 at hC
  unfold cp_208_138 at hp
  refine g_iconst mzi_0 ?_
  refine g_weak ?_ (g_cl (cg_208_139 hd hS hR s1 false v1 v2 N b hr hc1 hx1 hp hC))
  exact ⟨rfl, rfl, rfl, trivial⟩
theorem cg_208_105 (hd : 4 ≤ d) (hS : mz_ext S 232) (hR : mz_rok R 232)  (s1 : Int32) (s2 : Int32) (v1 : Int32) (v2 : Int32) (v3 : Int32) (v4 : Bool) (N : mz_N) (b : Bool) {C0 : (mz_N) → Prop} (hr : ∀ (N2 : mz_N), C0 N2 → Q (.inl none) (mz_k S R N2 b t)) {C1 : ((Int32 × mz_N) ⊕ (mz_N)) → Prop} (hc1 : ∀ s2, C1 (.inl s2) → mz_G (d, mz_X0 L xs, none, [], mk_208, 5, Q) 16 mt_208_16 [(0, .ref 0), (1, .int v1), (2, .int s2.1)] [] false (mz_k S R s2.2 b t)) (hx1 : ∀ z, C1 (.inr z) → C0 z) (hp : cp_208_105 s1 s2 v1 v2 v3 v4 N b) (hC : C1 (cf_208_105 s1 s2 v1 v2 v3 v4 N b)) : mz_G (d, mz_X0 L xs, none, [], mk_208, 5, Q) 105 mt_208_105 [(0, .ref 0), (1, .int v1), (2, .int v2), (3, .int v3), (4, .int (mz_b01 v4))] [.int s2, .int s1, .ref 53] false (mz_k S R N b t) := by
  unfold cf_208_105 at hC
  unfold cp_208_105 at hp
  obtain ⟨h1, hp⟩ := hp
  refine g_iast (mz_at hS (Nat.le_of_ble_eq_true rfl) mzcS_53) h1 (g_aload_n rfl (g_getR (mz_at hS (Nat.le_of_ble_eq_true rfl) mzcS_0) mzcf_11_10 (mz_rb hR (Nat.le_of_ble_eq_true rfl) rfl mzcR_0_10) (g_bipush mzb_36 (g_iload_n rfl (g_iadd (g_iload rfl ?_))))))
  refine g_zeq (tg := 138) rfl ms_208_138 hC (fun h2 hC => ?_) (fun h2 hC => ?_)
  · have hp := hp.1 h2
    refine g_aload_n rfl (g_getR (mz_at hS (Nat.le_of_ble_eq_true rfl) mzcS_0) mzcf_11_4 (mz_rb hR (Nat.le_of_ble_eq_true rfl) rfl mzcR_0_4) (g_aload_n rfl (g_getR (mz_at hS (Nat.le_of_ble_eq_true rfl) mzcS_0) mzcf_11_1 (mz_rb hR (Nat.le_of_ble_eq_true rfl) rfl mzcR_0_1) (g_iload_n rfl ?_))))
    obtain ⟨h3, hp⟩ := hp
    refine g_v3v (Nat.le_of_ble_eq_true rfl) (mz_at hS (Nat.le_of_ble_eq_true rfl) mzcS_65) (fun _ hq => cs_210 (Nat.le_trans (Nat.le_of_ble_eq_true rfl) hd) (hS.le (Nat.le_of_ble_eq_true rfl)) (hR.le (Nat.le_of_ble_eq_true rfl))  v3 (mz_wI N 53 s1 s2) h3 hq) ?_
    refine g_zeq (tg := 138) rfl ms_208_138 hC (fun h4 hC => ?_) (fun h4 hC => ?_)
    · have hp := hp.1 h4
      refine g_iconst mzi_1 (g_goto (tg := 139) rfl ms_208_139 ?_)
      refine g_weak ?_ (g_cl (cg_208_139 hd hS hR (36 + v2) true v1 v2 (mz_wI N 53 s1 s2) b hr hc1 hx1 hp hC))
      exact ⟨rfl, rfl, rfl, trivial⟩
    · have hp := hp.2 h4
      refine g_weak ?_ (g_cl (cg_208_138 hd hS hR (36 + v2) v1 v2 (mz_wI N 53 s1 s2) b hr hc1 hx1 hp hC))
      exact ⟨rfl, rfl, rfl, trivial⟩
  · have hp := hp.2 h2
    refine g_weak ?_ (g_cl (cg_208_138 hd hS hR (36 + v2) v1 v2 (mz_wI N 53 s1 s2) b hr hc1 hx1 hp hC))
    exact ⟨rfl, rfl, rfl, trivial⟩
theorem cg_208_74 (hd : 4 ≤ d) (hS : mz_ext S 232) (hR : mz_rok R 232)  (s1 : Int32) (s2 : Int32) (v1 : Int32) (v2 : Int32) (v3 : Int32) (v4 : Bool) (N : mz_N) (b : Bool) {C0 : (mz_N) → Prop} (hr : ∀ (N2 : mz_N), C0 N2 → Q (.inl none) (mz_k S R N2 b t)) {C1 : ((Int32 × mz_N) ⊕ (mz_N)) → Prop} (hc1 : ∀ s2, C1 (.inl s2) → mz_G (d, mz_X0 L xs, none, [], mk_208, 5, Q) 16 mt_208_16 [(0, .ref 0), (1, .int v1), (2, .int s2.1)] [] false (mz_k S R s2.2 b t)) (hx1 : ∀ z, C1 (.inr z) → C0 z) (hp : cp_208_74 s1 s2 v1 v2 v3 v4 N b) (hC : C1 (cf_208_74 s1 s2 v1 v2 v3 v4 N b)) : mz_G (d, mz_X0 L xs, none, [], mk_208, 5, Q) 74 mt_208_74 [(0, .ref 0), (1, .int v1), (2, .int v2), (3, .int v3), (4, .int (mz_b01 v4))] [.int s2, .int s1, .ref 53] false (mz_k S R N b t) := by
  unfold cf_208_74 at hC
  unfold cp_208_74 at hp
  obtain ⟨h1, hp⟩ := hp
  refine g_iast (mz_at hS (Nat.le_of_ble_eq_true rfl) mzcS_53) h1 (g_aload_n rfl (g_getR (mz_at hS (Nat.le_of_ble_eq_true rfl) mzcS_0) mzcf_11_10 (mz_rb hR (Nat.le_of_ble_eq_true rfl) rfl mzcR_0_10) (g_bipush mzb_26 (g_iload_n rfl (g_iadd (g_iload rfl ?_))))))
  refine g_zeq (tg := 104) rfl ms_208_104 hC (fun h2 hC => ?_) (fun h2 hC => ?_)
  · have hp := hp.1 h2
    refine g_aload_n rfl (g_getR (mz_at hS (Nat.le_of_ble_eq_true rfl) mzcS_0) mzcf_11_4 (mz_rb hR (Nat.le_of_ble_eq_true rfl) rfl mzcR_0_4) (g_aload_n rfl (g_getR (mz_at hS (Nat.le_of_ble_eq_true rfl) mzcS_0) mzcf_11_1 (mz_rb hR (Nat.le_of_ble_eq_true rfl) rfl mzcR_0_1) (g_iload_n rfl ?_))))
    obtain ⟨h3, hp⟩ := hp
    refine g_v3v (Nat.le_of_ble_eq_true rfl) (mz_at hS (Nat.le_of_ble_eq_true rfl) mzcS_65) (fun _ hq => cs_209 (Nat.le_trans (Nat.le_of_ble_eq_true rfl) hd) (hS.le (Nat.le_of_ble_eq_true rfl)) (hR.le (Nat.le_of_ble_eq_true rfl))  v3 (mz_wI N 53 s1 s2) h3 hq) (g_l2i (g_goto (tg := 105) rfl ms_208_105 ?_))
    refine g_weak ?_ (g_cl (cg_208_105 hd hS hR (26 + v2) ((cf_209_0 v3 (mz_wI N 53 s1 s2)).toInt32) v1 v2 v3 v4 (mz_wI N 53 s1 s2) b hr hc1 hx1 hp hC))
    exact ⟨rfl, rfl, rfl, rfl, rfl, trivial⟩
  · have hp := hp.2 h2
    refine g_iconst mzi_0 ?_
    refine g_weak ?_ (g_cl (cg_208_105 hd hS hR (26 + v2) 0 v1 v2 v3 v4 (mz_wI N 53 s1 s2) b hr hc1 hx1 hp hC))
    exact ⟨rfl, rfl, rfl, rfl, rfl, trivial⟩
theorem cg_208_42 (hd : 4 ≤ d) (hS : mz_ext S 232) (hR : mz_rok R 232)  (s0 : Bool) (v1 : Int32) (v2 : Int32) (v3 : Int32) (N : mz_N) (b : Bool) {C0 : (mz_N) → Prop} (hr : ∀ (N2 : mz_N), C0 N2 → Q (.inl none) (mz_k S R N2 b t)) {C1 : ((Int32 × mz_N) ⊕ (mz_N)) → Prop} (hc1 : ∀ s2, C1 (.inl s2) → mz_G (d, mz_X0 L xs, none, [], mk_208, 5, Q) 16 mt_208_16 [(0, .ref 0), (1, .int v1), (2, .int s2.1)] [] false (mz_k S R s2.2 b t)) (hx1 : ∀ z, C1 (.inr z) → C0 z) (hp : cp_208_42 s0 v1 v2 v3 N b) (hC : C1 (cf_208_42 s0 v1 v2 v3 N b)) : mz_G (d, mz_X0 L xs, none, [], mk_208, 5, Q) 42 mt_208_42 [(0, .ref 0), (1, .int v1), (2, .int v2), (3, .int v3)] [.int (mz_b01 s0)] false (mz_k S R N b t) := by
  unfold cf_208_42 at hC
  unfold cp_208_42 at hp
  refine g_istore (Nat.le_of_ble_eq_true rfl) rfl (g_aload_n rfl (g_getR (mz_at hS (Nat.le_of_ble_eq_true rfl) mzcS_0) mzcf_11_10 (mz_rb hR (Nat.le_of_ble_eq_true rfl) rfl mzcR_0_10) (g_bipush mzb_16 (g_iload_n rfl (g_iadd (g_iload rfl ?_))))))
  refine g_zeq (tg := 73) rfl ms_208_73 hC (fun h1 hC => ?_) (fun h1 hC => ?_)
  · have hp := hp.1 h1
    refine g_aload_n rfl (g_getR (mz_at hS (Nat.le_of_ble_eq_true rfl) mzcS_0) mzcf_11_4 (mz_rb hR (Nat.le_of_ble_eq_true rfl) rfl mzcR_0_4) (g_aload_n rfl (g_getR (mz_at hS (Nat.le_of_ble_eq_true rfl) mzcS_0) mzcf_11_1 (mz_rb hR (Nat.le_of_ble_eq_true rfl) rfl mzcR_0_1) (g_iload_n rfl ?_))))
    obtain ⟨h2, hp⟩ := hp
    refine g_v3v (Nat.le_of_ble_eq_true rfl) (mz_at hS (Nat.le_of_ble_eq_true rfl) mzcS_65) (fun _ hq => cs_157 (Nat.le_trans (Nat.le_of_ble_eq_true rfl) hd) (hS.le (Nat.le_of_ble_eq_true rfl)) (hR.le (Nat.le_of_ble_eq_true rfl))  v3 N h2 hq) (g_l2i (g_goto (tg := 74) rfl ms_208_74 ?_))
    refine g_weak ?_ (g_cl (cg_208_74 hd hS hR (16 + v2) ((cf_157_0 v3 N).toInt32) v1 v2 v3 s0 N b hr hc1 hx1 hp hC))
    exact ⟨rfl, rfl, rfl, rfl, rfl, trivial⟩
  · have hp := hp.2 h1
    refine g_iconst mzi_0 ?_
    refine g_weak ?_ (g_cl (cg_208_74 hd hS hR (16 + v2) 0 v1 v2 v3 s0 N b hr hc1 hx1 hp hC))
    exact ⟨rfl, rfl, rfl, rfl, rfl, trivial⟩
theorem cg_208_263 (hd : 4 ≤ d) (hS : mz_ext S 232) (hR : mz_rok R 232)  (s1 : Int32) (s2 : Bool) (N : mz_N) (b : Bool) {C0 : (mz_N) → Prop} (hr : ∀ (N2 : mz_N), C0 N2 → Q (.inl none) (mz_k S R N2 b t)) (hp : cp_208_263 s1 s2 N b) (hC : C0 (cf_208_263 s1 s2 N b)) : mz_G (d, mz_X0 L xs, none, [], mk_208, 5, Q) 263 mt_208_263 [(0, .ref 0)] [.int (mz_b01 s2), .int s1, .ref 53] false (mz_k S R N b t) := by
  unfold cf_208_263 at hC
  unfold cp_208_263 at hp
  obtain ⟨h1, hp⟩ := hp
  refine g_iast (mz_at hS (Nat.le_of_ble_eq_true rfl) mzcS_53) h1 (g_aload_n rfl (g_getR (mz_at hS (Nat.le_of_ble_eq_true rfl) mzcS_0) mzcf_11_2 (mz_rb hR (Nat.le_of_ble_eq_true rfl) rfl mzcR_0_2) ?_))
  have h2 := hp
  refine g_v1n (Nat.le_of_ble_eq_true rfl) (mz_at hS (Nat.le_of_ble_eq_true rfl) mzcS_41) (fun _ hq => cs_213 (Nat.le_trans (Nat.le_of_ble_eq_true rfl) hd) (hS.le (Nat.le_of_ble_eq_true rfl)) (hR.le (Nat.le_of_ble_eq_true rfl))  (mz_wI N 53 s1 (mz_b01 s2)) b h2 hq) ?_
  exact g_vret rfl (hr _ hC)
theorem cg_208_228 (hd : 4 ≤ d) (hS : mz_ext S 232) (hR : mz_rok R 232)  (N : mz_N) (b : Bool) {C0 : (mz_N) → Prop} (hr : ∀ (N2 : mz_N), C0 N2 → Q (.inl none) (mz_k S R N2 b t)) (hp : cp_208_228 N b) (hC : C0 (cf_208_228 N b)) : mz_G (d, mz_X0 L xs, none, [], mk_208, 5, Q) 228 mt_208_228 [(0, .ref 0)] [] false (mz_k S R N b t) := by
  unfold cf_208_228 at hC
  unfold cp_208_228 at hp
  refine g_aload_n rfl (g_getR (mz_at hS (Nat.le_of_ble_eq_true rfl) mzcS_0) mzcf_11_10 (mz_rb hR (Nat.le_of_ble_eq_true rfl) rfl mzcR_0_10) (g_bipush mzb_51 (g_aload_n rfl (g_getR (mz_at hS (Nat.le_of_ble_eq_true rfl) mzcS_0) mzcf_11_3 (mz_rb hR (Nat.le_of_ble_eq_true rfl) rfl mzcR_0_3) ?_))))
  obtain ⟨h1, hp⟩ := hp
  refine g_v1v (Nat.le_of_ble_eq_true rfl) (mz_at hS (Nat.le_of_ble_eq_true rfl) mzcS_56) (fun _ hq => cs_212 (Nat.le_trans (Nat.le_of_ble_eq_true rfl) hd) (hS.le (Nat.le_of_ble_eq_true rfl)) (hR.le (Nat.le_of_ble_eq_true rfl))  N h1 hq) (g_iast (mz_at hS (Nat.le_of_ble_eq_true rfl) mzcS_53) (mz_ibd (by decide)) (g_aload_n rfl (g_getR (mz_at hS (Nat.le_of_ble_eq_true rfl) mzcS_0) mzcf_11_10 (mz_rb hR (Nat.le_of_ble_eq_true rfl) rfl mzcR_0_10) (g_bipush mzb_52 (g_aload_n rfl (g_getR (mz_at hS (Nat.le_of_ble_eq_true rfl) mzcS_0) mzcf_11_3 (mz_rb hR (Nat.le_of_ble_eq_true rfl) rfl mzcR_0_3) ?_))))))
  obtain ⟨h2, hp⟩ := hp
  refine g_getZ (mz_at hS (Nat.le_of_ble_eq_true rfl) mzcS_56) mzcf_9_4 h2 ?_
  refine g_zeq (tg := 262) rfl ms_208_262 hC (fun h3 hC => ?_) (fun h3 hC => ?_)
  · have hp := hp.1 h3
    refine g_iconst mzi_1 (g_goto (tg := 263) rfl ms_208_263 ?_)
    refine g_weak ?_ (g_cl (cg_208_263 hd hS hR 52 true (mz_wI N 53 51 (cf_212_0 N)) b hr hp hC))
    exact ⟨rfl, trivial⟩
  · have hp := hp.2 h3
    refine g_iconst mzi_0 ?_
    refine g_weak ?_ (g_cl (cg_208_263 hd hS hR 52 false (mz_wI N 53 51 (cf_212_0 N)) b hr hp hC))
    exact ⟨rfl, trivial⟩
theorem cg_208_196 (hd : 4 ≤ d) (hS : mz_ext S 232) (hR : mz_rok R 232)  (N : mz_N) (b : Bool) {C0 : (mz_N) → Prop} (hr : ∀ (N2 : mz_N), C0 N2 → Q (.inl none) (mz_k S R N2 b t)) (hp : cp_208_196 N b) (hC : C0 (cf_208_196 N b)) : mz_G (d, mz_X0 L xs, none, [], mk_208, 5, Q) 196 mt_208_196 [(0, .ref 0)] [] false (mz_k S R N b t) := by
  unfold cf_208_196 at hC
  unfold cp_208_196 at hp
  refine g_aload_n rfl (g_getR (mz_at hS (Nat.le_of_ble_eq_true rfl) mzcS_0) mzcf_11_10 (mz_rb hR (Nat.le_of_ble_eq_true rfl) rfl mzcR_0_10) (g_bipush mzb_49 (g_aload_n rfl (g_getR (mz_at hS (Nat.le_of_ble_eq_true rfl) mzcS_0) mzcf_11_8 (mz_rb hR (Nat.le_of_ble_eq_true rfl) rfl mzcR_0_8) (g_getI (mz_at hS (Nat.le_of_ble_eq_true rfl) mzcS_208) mzcf_1_0 (g_sipush mzs_240 (g_irem (by decide) ?_)))))))
  refine g_iast (mz_at hS (Nat.le_of_ble_eq_true rfl) mzcS_53) (mz_ibd (by decide)) (g_aload_n rfl (g_getR (mz_at hS (Nat.le_of_ble_eq_true rfl) mzcS_0) mzcf_11_10 (mz_rb hR (Nat.le_of_ble_eq_true rfl) rfl mzcR_0_10) (g_bipush mzb_50 (g_aload_n rfl (g_getR (mz_at hS (Nat.le_of_ble_eq_true rfl) mzcS_0) mzcf_11_3 (mz_rb hR (Nat.le_of_ble_eq_true rfl) rfl mzcR_0_3) (g_getI (mz_at hS (Nat.le_of_ble_eq_true rfl) mzcS_56) mzcf_9_7 (g_iast (mz_at hS (Nat.le_of_ble_eq_true rfl) mzcS_53) (mz_ibd (by decide)) ?_)))))))
  refine g_weak ?_ (g_cl (cg_208_228 hd hS hR (mz_wI (mz_wI N 53 49 (mz_irem (N.1 208 0) 240)) 53 50 ((mz_wI N 53 49 (mz_irem (N.1 208 0) 240)).1 56 7)) b hr hp hC))
  exact ⟨rfl, trivial⟩
theorem cg_208_171 (hd : 4 ≤ d) (hS : mz_ext S 232) (hR : mz_rok R 232)  (s1 : Int32) (s2 : Bool) (v1 : Int32) (N : mz_N) (b : Bool) {C0 : (mz_N) → Prop} (hr : ∀ (N2 : mz_N), C0 N2 → Q (.inl none) (mz_k S R N2 b t)) (hp : cp_208_171 s1 s2 v1 N b) (hC : C0 (cf_208_171 s1 s2 v1 N b)) : mz_G (d, mz_X0 L xs, none, [], mk_208, 5, Q) 171 mt_208_171 [(0, .ref 0), (1, .int v1)] [.int (mz_b01 s2), .int s1, .ref 53] false (mz_k S R N b t) := by
  unfold cf_208_171 at hC
  unfold cp_208_171 at hp
  obtain ⟨h1, hp⟩ := hp
  refine g_iast (mz_at hS (Nat.le_of_ble_eq_true rfl) mzcS_53) h1 (g_aload_n rfl (g_getR (mz_at hS (Nat.le_of_ble_eq_true rfl) mzcS_0) mzcf_11_10 (mz_rb hR (Nat.le_of_ble_eq_true rfl) rfl mzcR_0_10) (g_bipush mzb_47 (g_aload_n rfl (g_getR (mz_at hS (Nat.le_of_ble_eq_true rfl) mzcS_0) mzcf_11_4 (mz_rb hR (Nat.le_of_ble_eq_true rfl) rfl mzcR_0_4) (g_getR (mz_at hS (Nat.le_of_ble_eq_true rfl) mzcS_65) mzcf_3_0 (mz_rb hR (Nat.le_of_ble_eq_true rfl) rfl mzcR_65_0) (g_iload_n rfl ?_)))))))
  obtain ⟨h2, hp⟩ := hp
  refine g_iald hS.1 (mz_at hS (Nat.le_of_ble_eq_true rfl) mzcS_66) h2 (g_iast (mz_at hS (Nat.le_of_ble_eq_true rfl) mzcS_53) (mz_ibd (by decide)) (g_aload_n rfl (g_getR (mz_at hS (Nat.le_of_ble_eq_true rfl) mzcS_0) mzcf_11_10 (mz_rb hR (Nat.le_of_ble_eq_true rfl) rfl mzcR_0_10) (g_bipush mzb_48 (g_iload_n rfl (g_iast (mz_at hS (Nat.le_of_ble_eq_true rfl) mzcS_53) (mz_ibd (by decide)) ?_))))))
  refine g_weak ?_ (g_cl (cg_208_196 hd hS hR (mz_wI (mz_wI (mz_wI N 53 s1 (mz_b01 s2)) 53 47 (mz_gI (mz_wI N 53 s1 (mz_b01 s2)) 66 v1)) 53 48 v1) b hr hp hC))
  exact ⟨rfl, trivial⟩
theorem cb_208_16 (hd : 4 ≤ d) (hS : mz_ext S 232) (hR : mz_rok R 232)  (v1 : Int32) (b : Bool) (s : Int32 × mz_N) {C0 : (mz_N) → Prop} (hr : ∀ (N2 : mz_N), C0 N2 → Q (.inl none) (mz_k S R N2 b t)) {C1 : ((Int32 × mz_N) ⊕ (mz_N)) → Prop} (hc1 : ∀ s2, C1 (.inl s2) → mz_G (d, mz_X0 L xs, none, [], mk_208, 5, Q) 16 mt_208_16 [(0, .ref 0), (1, .int v1), (2, .int s2.1)] [] false (mz_k S R s2.2 b t)) (hx1 : ∀ z, C1 (.inr z) → C0 z) (hp : cd_208_16 v1 b s) (hC : C1 (cq_208_16 v1 b s)) : mz_G (d, mz_X0 L xs, none, [], mk_208, 5, Q) 16 mt_208_16 [(0, .ref 0), (1, .int v1), (2, .int s.1)] [] false (mz_k S R s.2 b t) := by
  unfold cq_208_16 at hC
  unfold cd_208_16 at hp
  refine g_iload_n rfl (g_bipush mzb_10 ?_)
  refine g_icge (tg := 146) rfl ms_208_146 hC (fun h1 hC => ?_) (fun h1 hC => ?_)
  · have hp := hp.1 h1
    refine g_aload_n rfl (g_getR (mz_at hS (Nat.le_of_ble_eq_true rfl) mzcS_0) mzcf_11_1 (mz_rb hR (Nat.le_of_ble_eq_true rfl) rfl mzcR_0_1) (g_getR (mz_at hS (Nat.le_of_ble_eq_true rfl) mzcS_2) mzcf_5_16 (mz_rb hR (Nat.le_of_ble_eq_true rfl) rfl mzcR_2_16) (g_iload_n rfl ?_)))
    obtain ⟨h2, hp⟩ := hp
    refine g_iald hS.1 (mz_at hS (Nat.le_of_ble_eq_true rfl) mzcS_38) h2 (g_istore_n (Nat.le_of_ble_eq_true rfl) rfl (g_iload_n rfl (g_iconst mzi_m1 ?_)))
    refine g_iceq (tg := 41) rfl ms_208_41 hC (fun h3 hC => ?_) (fun h3 hC => ?_)
    · have hp := hp.1 h3
      refine g_iconst mzi_0 ?_
      refine g_weak ?_ (g_cl (cg_208_42 hd hS hR false v1 s.1 (mz_gI s.2 38 s.1) s.2 b hr hc1 hx1 hp hC))
      exact ⟨rfl, rfl, rfl, rfl, trivial⟩
    · have hp := hp.2 h3
      refine g_iconst mzi_1 (g_goto (tg := 42) rfl ms_208_42 ?_)
      refine g_weak ?_ (g_cl (cg_208_42 hd hS hR true v1 s.1 (mz_gI s.2 38 s.1) s.2 b hr hc1 hx1 hp hC))
      exact ⟨rfl, rfl, rfl, rfl, trivial⟩
  · have hp := hp.2 h1
    refine g_aload_n rfl (g_getR (mz_at hS (Nat.le_of_ble_eq_true rfl) mzcS_0) mzcf_11_10 (mz_rb hR (Nat.le_of_ble_eq_true rfl) rfl mzcR_0_10) (g_bipush mzb_46 (g_aload_n rfl (g_getR (mz_at hS (Nat.le_of_ble_eq_true rfl) mzcS_0) mzcf_11_4 (mz_rb hR (Nat.le_of_ble_eq_true rfl) rfl mzcR_0_4) (g_aload_n rfl (g_getR (mz_at hS (Nat.le_of_ble_eq_true rfl) mzcS_0) mzcf_11_1 (mz_rb hR (Nat.le_of_ble_eq_true rfl) rfl mzcR_0_1) ?_))))))
    obtain ⟨h4, hp⟩ := hp
    refine g_v2v (Nat.le_of_ble_eq_true rfl) (mz_at hS (Nat.le_of_ble_eq_true rfl) mzcS_65) (fun _ hq => cs_211 (Nat.le_trans (Nat.le_of_ble_eq_true rfl) hd) (hS.le (Nat.le_of_ble_eq_true rfl)) (hR.le (Nat.le_of_ble_eq_true rfl))  s.2 h4 hq) ?_
    refine g_zeq (tg := 170) rfl ms_208_170 hC (fun h5 hC => ?_) (fun h5 hC => ?_)
    · have hp := hp.1 h5
      refine g_iconst mzi_1 (g_goto (tg := 171) rfl ms_208_171 ?_)
      refine g_weak ?_ (g_cl (cg_208_171 hd hS hR 46 true v1 s.2 b hr hp (hx1 _ hC)))
      exact ⟨rfl, rfl, trivial⟩
    · have hp := hp.2 h5
      refine g_iconst mzi_0 ?_
      refine g_weak ?_ (g_cl (cg_208_171 hd hS hR 46 false v1 s.2 b hr hp (hx1 _ hC)))
      exact ⟨rfl, rfl, trivial⟩
theorem cg_208_16 (hd : 4 ≤ d) (hS : mz_ext S 232) (hR : mz_rok R 232)  (v1 : Int32) (v2 : Int32) (N : mz_N) (b : Bool) {C0 : (mz_N) → Prop} (hr : ∀ (N2 : mz_N), C0 N2 → Q (.inl none) (mz_k S R N2 b t)) (hp : cp_208_16 v1 v2 N b) (hC : C0 (cf_208_16 v1 v2 N b)) : mz_G (d, mz_X0 L xs, none, [], mk_208, 5, Q) 16 mt_208_16 [(0, .ref 0), (1, .int v1), (2, .int v2)] [] false (mz_k S R N b t) := by
  obtain ⟨n, hn⟩ := hp
  exact g_loop (G := fun s => mz_G (d, mz_X0 L xs, none, [], mk_208, 5, Q) 16 mt_208_16 [(0, .ref 0), (1, .int v1), (2, .int s.1)] [] false (mz_k S R s.2 b t)) (C := C0) (fun C2 hc hx s hP hC => cb_208_16 hd hS hR v1 b s hr hc hx hP hC) n (v2, N) hn hC
theorem cg_208_0 (hd : 4 ≤ d) (hS : mz_ext S 232) (hR : mz_rok R 232)  (v1 : Int32) (N : mz_N) (b : Bool) {C0 : (mz_N) → Prop} (hr : ∀ (N2 : mz_N), C0 N2 → Q (.inl none) (mz_k S R N2 b t)) (hp : cp_208_0 v1 N b) (hC : C0 (cf_208_0 v1 N b)) : mz_G (d, mz_X0 L xs, none, [], mk_208, 5, Q) 0 mk_208 [(0, .ref 0), (1, .int v1)] [] true (mz_k S R N b t) := by
  unfold cf_208_0 at hC
  unfold cp_208_0 at hp
  refine g_aload_n rfl (g_getR (mz_at hS (Nat.le_of_ble_eq_true rfl) mzcS_0) mzcf_11_2 (mz_rb hR (Nat.le_of_ble_eq_true rfl) rfl mzcR_0_2) (g_getR (mz_at hS (Nat.le_of_ble_eq_true rfl) mzcS_41) mzcf_6_2 (mz_rb_lv b R) (g_getI (mz_at hS (mz_oL0 (mz_lv_or b) (Nat.le_of_ble_eq_true rfl)) (mz_oA0 (mz_lv_or b))) mzcf_7_5 ?_)))
  refine g_ifne (tg := 14) rfl ms_208_14 hC (fun h1 hC => ?_) (fun h1 hC => ?_)
  · have hp := hp.1 h1
    exact g_vret rfl (hr _ hC)
  · have hp := hp.2 h1
    refine g_iconst mzi_0 (g_istore_n (Nat.le_of_ble_eq_true rfl) rfl ?_)
    refine g_weak ?_ (g_cl (cg_208_16 hd hS hR v1 0 N b hr hp hC))
    exact ⟨rfl, rfl, rfl, trivial⟩
theorem cs_208 (hd : 5 ≤ d) (hS : mz_ext S 232) (hR : mz_rok R 232)  (v1 : Int32) (N : mz_N) (b : Bool) (hp : cp_208_0 v1 N b) (hq : Q (.inl none) (mz_k S R (cf_208_0 v1 N b) b t)) : mz_Ed (mz_X0 L xs) d 208 [.ref 0, .int v1] (mz_k S R N b t) Q :=
  by
  refine g_in mzq_208 (Nat.le_of_ble_eq_true rfl) (Nat.le_of_ble_eq_true rfl) (Nat.le_trans (Nat.le_of_ble_eq_true rfl) hd) ?_
  refine g_weak ?_ (cg_208_0 (d := d - 1) (by omega) hS hR v1 N b (C0 := fun z => Q (.inl none) (mz_k S R z b t)) (fun _ h => h) hp hq)
  exact ⟨rfl, rfl, trivial⟩
/-! 222 KeptHouse$Plan.hasHeart (I)Z -/
theorem ms_222_0 : mz_sf mk_222 0 = mk_222 := mz_sf_zero _
theorem ms_222_24 : mz_sf mk_222 24 = mt_222_24 := mz_sf_add ms_222_0 (t := 24) rfl rfl
theorem ms_222_25 : mz_sf mk_222 25 = mt_222_25 := mz_sf_add ms_222_24 (t := 1) rfl rfl
set_option maxRecDepth 100000 in
theorem mzq_222 : mz_PG0 222 = some (5, ⟨"KeptHouse$Plan", "hasHeart", "(I)Z"⟩, prog_7_method_35_code, 2, some .boolean, [], mk_222, []) := rfl
theorem cg_222_0 (hd : 0 ≤ d) (hS : mz_ext S 232) (hR : mz_rok R 232)  (v1 : Int32) (N : mz_N) {C0 : (Bool) → Prop} (hr : ∀ (w : Bool), C0 w → Q (.inl (some (.int (mz_b01 w)))) (mz_k S R N b t)) (hp : cp_222_0 v1 N) (hC : C0 (cf_222_0 v1 N)) : mz_G (d, mz_X0 L xs, some .boolean, [], mk_222, 2, Q) 0 mk_222 [(0, .ref 2), (1, .int v1)] [] true (mz_k S R N b t) := by
  unfold cf_222_0 at hC
  unfold cp_222_0 at hp
  refine g_iload_n rfl ?_
  refine g_iflt (tg := 24) rfl ms_222_24 hC (fun h1 hC => ?_) (fun h1 hC => ?_)
  · have hp := hp.1 h1
    refine g_iconst mzi_0 ?_
    exact g_zret (z := false) rfl (hr _ hC)
  · have hp := hp.2 h1
    refine g_iload_n rfl (g_bipush mzb_10 ?_)
    refine g_icge (tg := 24) rfl ms_222_24 hC (fun h2 hC => ?_) (fun h2 hC => ?_)
    · have hp := hp.1 h2
      refine g_aload_n rfl (g_getR (mz_at hS (Nat.le_of_ble_eq_true rfl) mzcS_2) mzcf_5_16 (mz_rb hR (Nat.le_of_ble_eq_true rfl) rfl mzcR_2_16) (g_iload_n rfl ?_))
      have h3 := hp
      refine g_iald hS.1 (mz_at hS (Nat.le_of_ble_eq_true rfl) mzcS_38) h3 (g_iconst mzi_m1 ?_)
      refine g_iceq (tg := 24) rfl ms_222_24 hC (fun h4 hC => ?_) (fun h4 hC => ?_)
      · refine g_iconst mzi_0 ?_
        exact g_zret (z := false) rfl (hr _ hC)
      · refine g_iconst mzi_1 (g_goto (tg := 25) rfl ms_222_25 ?_)
        exact g_zret (z := true) rfl (hr _ hC)
    · have hp := hp.2 h2
      refine g_iconst mzi_0 ?_
      exact g_zret (z := false) rfl (hr _ hC)
theorem cs_222 (hd : 1 ≤ d) (hS : mz_ext S 232) (hR : mz_rok R 232)  (v1 : Int32) (N : mz_N) (hp : cp_222_0 v1 N) (hq : Q (.inl (some (.int (mz_b01 (cf_222_0 v1 N))))) (mz_k S R N b t)) : mz_Ed (mz_X0 L xs) d 222 [.ref 2, .int v1] (mz_k S R N b t) Q :=
  by
  refine g_in mzq_222 (Nat.le_of_ble_eq_true rfl) (Nat.le_of_ble_eq_true rfl) (Nat.le_trans (Nat.le_of_ble_eq_true rfl) hd) ?_
  refine g_weak ?_ (cg_222_0 (d := d - 1) (by omega) hS hR v1 N (C0 := fun z => Q (.inl (some (.int (mz_b01 z)))) (mz_k S R N b t)) (fun _ h => h) hp hq)
  exact ⟨rfl, rfl, trivial⟩
/-! 221 KeptHouse$Plan.present (II)I -/
theorem ms_221_0 : mz_sf mk_221 0 = mk_221 := mz_sf_zero _
theorem ms_221_22 : mz_sf mk_221 22 = mt_221_22 := mz_sf_add ms_221_0 (t := 22) rfl rfl
theorem ms_221_23 : mz_sf mk_221 23 = mt_221_23 := mz_sf_add ms_221_22 (t := 1) rfl rfl
set_option maxRecDepth 100000 in
theorem mzq_221 : mz_PG0 221 = some (5, ⟨"KeptHouse$Plan", "present", "(II)I"⟩, prog_7_method_36_code, 3, some .int, [], mk_221, []) := rfl
theorem cg_221_0 (hd : 1 ≤ d) (hS : mz_ext S 232) (hR : mz_rok R 232)  (v1 : Int32) (v2 : Int32) (N : mz_N) {C0 : (Int32) → Prop} (hr : ∀ (w : Int32), C0 w → Q (.inl (some (.int w))) (mz_k S R N b t)) (hp : cp_221_0 v1 v2 N) (hC : C0 (cf_221_0 v1 v2 N)) : mz_G (d, mz_X0 L xs, some .int, [], mk_221, 3, Q) 0 mk_221 [(0, .ref 2), (1, .int v1), (2, .int v2)] [] true (mz_k S R N b t) := by
  unfold cf_221_0 at hC
  unfold cp_221_0 at hp
  refine g_aload_n rfl (g_iload_n rfl ?_)
  obtain ⟨h1, hp⟩ := hp
  refine g_v2v (Nat.le_of_ble_eq_true rfl) (mz_at hS (Nat.le_of_ble_eq_true rfl) mzcS_2) (fun _ hq => cs_222 (Nat.le_trans (Nat.le_of_ble_eq_true rfl) hd) (hS.le (Nat.le_of_ble_eq_true rfl)) (hR.le (Nat.le_of_ble_eq_true rfl))  v1 N h1 hq) ?_
  refine g_zeq (tg := 22) rfl ms_221_22 hC (fun h2 hC => ?_) (fun h2 hC => ?_)
  · have hp := hp.1 h2
    refine g_aload_n rfl (g_getR (mz_at hS (Nat.le_of_ble_eq_true rfl) mzcS_2) mzcf_5_18 (mz_rb hR (Nat.le_of_ble_eq_true rfl) rfl mzcR_2_18) (g_iload_n rfl (g_bipush mzb_24 (g_imul (g_iload_n rfl (g_iadd ?_))))))
    have h3 := hp
    refine g_iald hS.1 (mz_at hS (Nat.le_of_ble_eq_true rfl) mzcS_40) h3 (g_goto (tg := 23) rfl ms_221_23 ?_)
    exact g_iret rfl (hr _ hC)
  · have hp := hp.2 h2
    refine g_iconst mzi_0 ?_
    exact g_iret rfl (hr _ hC)
theorem cs_221 (hd : 2 ≤ d) (hS : mz_ext S 232) (hR : mz_rok R 232)  (v1 : Int32) (v2 : Int32) (N : mz_N) (hp : cp_221_0 v1 v2 N) (hq : Q (.inl (some (.int (cf_221_0 v1 v2 N)))) (mz_k S R N b t)) : mz_Ed (mz_X0 L xs) d 221 [.ref 2, .int v1, .int v2] (mz_k S R N b t) Q :=
  by
  refine g_in mzq_221 (Nat.le_of_ble_eq_true rfl) (Nat.le_of_ble_eq_true rfl) (Nat.le_trans (Nat.le_of_ble_eq_true rfl) hd) ?_
  refine g_weak ?_ (cg_221_0 (d := d - 1) (by omega) hS hR v1 v2 N (C0 := fun z => Q (.inl (some (.int z))) (mz_k S R N b t)) (fun _ h => h) hp hq)
  exact ⟨rfl, rfl, rfl, trivial⟩
/-! 220 KeptHouse$Supply.setLoads (LKeptHouse$Plan;[II)V -/
theorem ms_220_0 : mz_sf mk_220 0 = mk_220 := mz_sf_zero _
theorem ms_220_12 : mz_sf mk_220 12 = mt_220_12 := mz_sf_add ms_220_0 (t := 12) rfl rfl
theorem ms_220_16 : mz_sf mk_220 16 = mt_220_16 := mz_sf_add ms_220_12 (t := 4) rfl rfl
theorem ms_220_17 : mz_sf mk_220 17 = mt_220_17 := mz_sf_add ms_220_16 (t := 1) rfl rfl
theorem ms_220_22 : mz_sf mk_220 22 = mt_220_22 := mz_sf_add ms_220_17 (t := 5) rfl rfl
theorem ms_220_48 : mz_sf mk_220 48 = mt_220_48 := mz_sf_add ms_220_22 (t := 26) rfl rfl
theorem ms_220_60 : mz_sf mk_220 60 = mt_220_60 := mz_sf_add ms_220_48 (t := 12) rfl rfl
theorem ms_220_61 : mz_sf mk_220 61 = mt_220_61 := mz_sf_add ms_220_60 (t := 1) rfl rfl
theorem ms_220_94 : mz_sf mk_220 94 = mt_220_94 := mz_sf_add ms_220_61 (t := 33) rfl rfl
theorem ms_220_95 : mz_sf mk_220 95 = mt_220_95 := mz_sf_add ms_220_94 (t := 1) rfl rfl
theorem ms_220_103 : mz_sf mk_220 103 = mt_220_103 := mz_sf_add ms_220_95 (t := 8) rfl rfl
theorem ms_220_132 : mz_sf mk_220 132 = mt_220_132 := mz_sf_add ms_220_103 (t := 29) rfl rfl
theorem ms_220_133 : mz_sf mk_220 133 = mt_220_133 := mz_sf_add ms_220_132 (t := 1) rfl rfl
theorem ms_220_146 : mz_sf mk_220 146 = mt_220_146 := mz_sf_add ms_220_133 (t := 13) rfl rfl
theorem ms_220_147 : mz_sf mk_220 147 = mt_220_147 := mz_sf_add ms_220_146 (t := 1) rfl rfl
theorem ms_220_152 : mz_sf mk_220 152 = mt_220_152 := mz_sf_add ms_220_147 (t := 5) rfl rfl
theorem ms_220_182 : mz_sf mk_220 182 = mt_220_182 := mz_sf_add ms_220_152 (t := 30) rfl rfl
theorem ms_220_192 : mz_sf mk_220 192 = mt_220_192 := mz_sf_add ms_220_182 (t := 10) rfl rfl
theorem ms_220_198 : mz_sf mk_220 198 = mt_220_198 := mz_sf_add ms_220_192 (t := 6) rfl rfl
set_option maxRecDepth 100000 in
theorem mzq_220 : mz_PG0 220 = some (9, ⟨"KeptHouse$Supply", "setLoads", "(LKeptHouse$Plan;[II)V"⟩, prog_11_method_3_code, 8, none, [], mk_220, []) := rfl
theorem cg_220_95 (hd : 2 ≤ d) (hS : mz_ext S 232) (hR : mz_rok R 232)  (s1 : Int32) (s2 : Int32) (s3 : Int32) (v3 : Int32) (v4 : Bool) (v5 : Int32) (N : mz_N) {C0 : (mz_N) → Prop} (hr : ∀ (N2 : mz_N), C0 N2 → Q (.inl none) (mz_k S R N2 b t)) {C1 : ((Int32 × mz_N) ⊕ (mz_N)) → Prop} (hc1 : ∀ s2, C1 (.inl s2) → mz_G (d, mz_X0 L xs, none, [], mk_220, 8, Q) 22 mt_220_22 [(0, .ref 56), (1, .ref 2), (2, .ref 53), (3, .int v3), (4, .int (mz_b01 v4)), (5, .int s2.1)] [] false (mz_k S R s2.2 b t)) (hx1 : ∀ z, C1 (.inr z) → C0 z) (hp : cp_220_95 s1 s2 s3 v3 v4 v5 N) (hC : C1 (cf_220_95 s1 s2 s3 v3 v4 v5 N)) : mz_G (d, mz_X0 L xs, none, [], mk_220, 8, Q) 95 mt_220_95 [(0, .ref 56), (1, .ref 2), (2, .ref 53), (3, .int v3), (4, .int (mz_b01 v4)), (5, .int v5)] [.int s3, .int s2, .int s1, .ref 58] false (mz_k S R N b t) := by
  unfold cf_220_95 at hC
  unfold cp_220_95 at hp
  refine g_iadd ?_
  have h1 := hp
  refine g_iast (mz_at hS (Nat.le_of_ble_eq_true rfl) mzcS_58) h1 (g_iinc rfl mzi_1 (Nat.le_of_ble_eq_true rfl) rfl (g_goto (tg := 22) rfl ms_220_22 ?_))
  refine g_weak ?_ (g_cl (hc1 ((v5 + 1), mz_wI N 58 s1 (s2 + s3)) hC))
  exact ⟨rfl, rfl, rfl, rfl, rfl, rfl, trivial⟩
theorem cg_220_61 (hd : 2 ≤ d) (hS : mz_ext S 232) (hR : mz_rok R 232)  (s0 : Bool) (v3 : Int32) (v4 : Bool) (v5 : Int32) (v6 : Int32) (N : mz_N) {C0 : (mz_N) → Prop} (hr : ∀ (N2 : mz_N), C0 N2 → Q (.inl none) (mz_k S R N2 b t)) {C1 : ((Int32 × mz_N) ⊕ (mz_N)) → Prop} (hc1 : ∀ s2, C1 (.inl s2) → mz_G (d, mz_X0 L xs, none, [], mk_220, 8, Q) 22 mt_220_22 [(0, .ref 56), (1, .ref 2), (2, .ref 53), (3, .int v3), (4, .int (mz_b01 v4)), (5, .int s2.1)] [] false (mz_k S R s2.2 b t)) (hx1 : ∀ z, C1 (.inr z) → C0 z) (hp : cp_220_61 s0 v3 v4 v5 v6 N) (hC : C1 (cf_220_61 s0 v3 v4 v5 v6 N)) : mz_G (d, mz_X0 L xs, none, [], mk_220, 8, Q) 61 mt_220_61 [(0, .ref 56), (1, .ref 2), (2, .ref 53), (3, .int v3), (4, .int (mz_b01 v4)), (5, .int v5), (6, .int v6)] [.int (mz_b01 s0)] false (mz_k S R N b t) := by
  unfold cf_220_61 at hC
  unfold cp_220_61 at hp
  refine g_istore (Nat.le_of_ble_eq_true rfl) rfl (g_aload_n rfl (g_getR (mz_at hS (Nat.le_of_ble_eq_true rfl) mzcS_56) mzcf_9_0 (mz_rb hR (Nat.le_of_ble_eq_true rfl) rfl mzcR_56_0) (g_iconst mzi_0 (g_aald4 (m := 58) (mz_at hS (Nat.le_of_ble_eq_true rfl) mzcS_57) (mz_ibd (by decide)) (mz_rb hR (Nat.le_of_ble_eq_true rfl) rfl mzcRr_57_0) (g_iload rfl (g_bipush mzb_15 (g_iload rfl ?_)))))))
  refine g_imul (g_iload rfl ?_)
  refine g_zeq (tg := 94) rfl ms_220_94 hC (fun h1 hC => ?_) (fun h1 hC => ?_)
  · have hp := hp.1 h1
    refine g_bipush mzb_6 (g_aload_n rfl (g_getR (mz_at hS (Nat.le_of_ble_eq_true rfl) mzcS_2) mzcf_5_17 (mz_rb hR (Nat.le_of_ble_eq_true rfl) rfl mzcR_2_17) (g_iload rfl ?_)))
    obtain ⟨h2, hp⟩ := hp
    refine g_iald hS.1 (mz_at hS (Nat.le_of_ble_eq_true rfl) mzcS_39) h2 (g_imul (g_goto (tg := 95) rfl ms_220_95 ?_))
    refine g_weak ?_ (g_cl (cg_220_95 hd hS hR v5 (15 * v6) (6 * (mz_gI N 39 v5)) v3 v4 v5 N hr hc1 hx1 hp hC))
    exact ⟨rfl, rfl, rfl, rfl, rfl, rfl, trivial⟩
  · have hp := hp.2 h1
    refine g_iconst mzi_0 ?_
    refine g_weak ?_ (g_cl (cg_220_95 hd hS hR v5 (15 * v6) 0 v3 v4 v5 N hr hc1 hx1 hp hC))
    exact ⟨rfl, rfl, rfl, rfl, rfl, rfl, trivial⟩
theorem cg_220_60 (hd : 2 ≤ d) (hS : mz_ext S 232) (hR : mz_rok R 232)  (v3 : Int32) (v4 : Bool) (v5 : Int32) (v6 : Int32) (N : mz_N) {C0 : (mz_N) → Prop} (hr : ∀ (N2 : mz_N), C0 N2 → Q (.inl none) (mz_k S R N2 b t)) {C1 : ((Int32 × mz_N) ⊕ (mz_N)) → Prop} (hc1 : ∀ s2, C1 (.inl s2) → mz_G (d, mz_X0 L xs, none, [], mk_220, 8, Q) 22 mt_220_22 [(0, .ref 56), (1, .ref 2), (2, .ref 53), (3, .int v3), (4, .int (mz_b01 v4)), (5, .int s2.1)] [] false (mz_k S R s2.2 b t)) (hx1 : ∀ z, C1 (.inr z) → C0 z) (hp : cp_220_60 v3 v4 v5 v6 N) (hC : C1 (cf_220_60 v3 v4 v5 v6 N)) : mz_G (d, mz_X0 L xs, none, [], mk_220, 8, Q) 60 mt_220_60 [(0, .ref 56), (1, .ref 2), (2, .ref 53), (3, .int v3), (4, .int (mz_b01 v4)), (5, .int v5), (6, .int v6)] [] false (mz_k S R N b t) := by
  unfold cf_220_60 at hC
  unfold cp_220_60 at hp
  refine g_iconst mzi_0 ?_
  refine g_weak ?_ (g_cl (cg_220_61 hd hS hR false v3 v4 v5 v6 N hr hc1 hx1 hp hC))
  exact ⟨rfl, rfl, rfl, rfl, rfl, rfl, rfl, trivial⟩
theorem cg_220_192 (hd : 2 ≤ d) (hS : mz_ext S 232) (hR : mz_rok R 232)  (v5 : Int32) (N : mz_N) {C0 : (mz_N) → Prop} (hr : ∀ (N2 : mz_N), C0 N2 → Q (.inl none) (mz_k S R N2 b t)) {C1 : ((Int32 × mz_N) ⊕ (mz_N)) → Prop} (hc1 : ∀ s2, C1 (.inl s2) → mz_G (d, mz_X0 L xs, none, [], mk_220, 8, Q) 152 mt_220_152 [(0, .ref 56), (5, .int s2.1)] [] false (mz_k S R s2.2 b t)) (hx1 : ∀ z, C1 (.inr z) → C0 z) (hp : cp_220_192 v5 N) (hC : C1 (cf_220_192 v5 N)) : mz_G (d, mz_X0 L xs, none, [], mk_220, 8, Q) 192 mt_220_192 [(0, .ref 56), (5, .int v5)] [] false (mz_k S R N b t) := by
  unfold cf_220_192 at hC
  unfold cp_220_192 at hp
  refine g_iinc rfl mzi_1 (Nat.le_of_ble_eq_true rfl) rfl (g_goto (tg := 152) rfl ms_220_152 ?_)
  refine g_weak ?_ (g_cl (hc1 ((v5 + 1), N) hC))
  exact ⟨rfl, rfl, trivial⟩
theorem cb_220_152 (hd : 2 ≤ d) (hS : mz_ext S 232) (hR : mz_rok R 232)   (s : Int32 × mz_N) {C0 : (mz_N) → Prop} (hr : ∀ (N2 : mz_N), C0 N2 → Q (.inl none) (mz_k S R N2 b t)) {C1 : ((Int32 × mz_N) ⊕ (mz_N)) → Prop} (hc1 : ∀ s2, C1 (.inl s2) → mz_G (d, mz_X0 L xs, none, [], mk_220, 8, Q) 152 mt_220_152 [(0, .ref 56), (5, .int s2.1)] [] false (mz_k S R s2.2 b t)) (hx1 : ∀ z, C1 (.inr z) → C0 z) (hp : cd_220_152  s) (hC : C1 (cq_220_152  s)) : mz_G (d, mz_X0 L xs, none, [], mk_220, 8, Q) 152 mt_220_152 [(0, .ref 56), (5, .int s.1)] [] false (mz_k S R s.2 b t) := by
  unfold cq_220_152 at hC
  unfold cd_220_152 at hp
  refine g_iload rfl (g_bipush mzb_11 ?_)
  refine g_icge (tg := 198) rfl ms_220_198 hC (fun h1 hC => ?_) (fun h1 hC => ?_)
  · have hp := hp.1 h1
    refine g_aload_n rfl (g_getR (mz_at hS (Nat.le_of_ble_eq_true rfl) mzcS_56) mzcf_9_0 (mz_rb hR (Nat.le_of_ble_eq_true rfl) rfl mzcR_56_0) (g_iconst mzi_3 (g_aald4 (m := 61) (mz_at hS (Nat.le_of_ble_eq_true rfl) mzcS_57) (mz_ibd (by decide)) (mz_rb hR (Nat.le_of_ble_eq_true rfl) rfl mzcRr_57_3) (g_iload rfl (g_iconst mzi_0 ?_)))))
    obtain ⟨h2, hp⟩ := hp
    refine g_iast (mz_at hS (Nat.le_of_ble_eq_true rfl) mzcS_61) h2 (g_aload_n rfl (g_getR (mz_at hS (Nat.le_of_ble_eq_true rfl) mzcS_56) mzcf_9_0 (mz_rb hR (Nat.le_of_ble_eq_true rfl) rfl mzcR_56_0) (g_iconst mzi_2 (g_aald4 (m := 60) (mz_at hS (Nat.le_of_ble_eq_true rfl) mzcS_57) (mz_ibd (by decide)) (mz_rb hR (Nat.le_of_ble_eq_true rfl) rfl mzcRr_57_2) (g_iload rfl ?_)))))
    obtain ⟨h3, hp⟩ := hp
    refine g_iald hS.1 (mz_at hS (Nat.le_of_ble_eq_true rfl) mzcS_60) h3 (g_iconst mzi_1 ?_)
    refine g_icne (tg := 192) rfl ms_220_192 hC (fun h4 hC => ?_) (fun h4 hC => ?_)
    · have hp := hp.1 h4
      refine g_aload_n rfl (g_getR (mz_at hS (Nat.le_of_ble_eq_true rfl) mzcS_56) mzcf_9_0 (mz_rb hR (Nat.le_of_ble_eq_true rfl) rfl mzcR_56_0) (g_iconst mzi_0 (g_aald4 (m := 58) (mz_at hS (Nat.le_of_ble_eq_true rfl) mzcS_57) (mz_ibd (by decide)) (mz_rb hR (Nat.le_of_ble_eq_true rfl) rfl mzcRr_57_0) (g_iload rfl (g_iconst mzi_0 ?_)))))
      obtain ⟨h5, hp⟩ := hp
      refine g_iast (mz_at hS (Nat.le_of_ble_eq_true rfl) mzcS_58) h5 ?_
      refine g_weak ?_ (g_cl (cg_220_192 hd hS hR s.1 (mz_wI (mz_wI s.2 61 s.1 0) 58 s.1 0) hr hc1 hx1 hp hC))
      exact ⟨rfl, rfl, trivial⟩
    · have hp := hp.2 h4
      refine g_weak ?_ (g_cl (cg_220_192 hd hS hR s.1 (mz_wI s.2 61 s.1 0) hr hc1 hx1 hp hC))
      exact ⟨rfl, rfl, trivial⟩
  · have hp := hp.2 h1
    exact g_vret rfl (hr _ (hx1 _ hC))
theorem cg_220_152 (hd : 2 ≤ d) (hS : mz_ext S 232) (hR : mz_rok R 232)  (v5 : Int32) (N : mz_N) {C0 : (mz_N) → Prop} (hr : ∀ (N2 : mz_N), C0 N2 → Q (.inl none) (mz_k S R N2 b t)) (hp : cp_220_152 v5 N) (hC : C0 (cf_220_152 v5 N)) : mz_G (d, mz_X0 L xs, none, [], mk_220, 8, Q) 152 mt_220_152 [(0, .ref 56), (5, .int v5)] [] false (mz_k S R N b t) := by
  obtain ⟨n, hn⟩ := hp
  exact g_loop (G := fun s => mz_G (d, mz_X0 L xs, none, [], mk_220, 8, Q) 152 mt_220_152 [(0, .ref 56), (5, .int s.1)] [] false (mz_k S R s.2 b t)) (C := C0) (fun C2 hc hx s hP hC => cb_220_152 hd hS hR  s hr hc hx hP hC) n (v5, N) hn hC
theorem cg_220_147 (hd : 2 ≤ d) (hS : mz_ext S 232) (hR : mz_rok R 232)  (s1 : Int32) (s2 : Int32) (s3 : Int32) (N : mz_N) {C0 : (mz_N) → Prop} (hr : ∀ (N2 : mz_N), C0 N2 → Q (.inl none) (mz_k S R N2 b t)) (hp : cp_220_147 s1 s2 s3 N) (hC : C0 (cf_220_147 s1 s2 s3 N)) : mz_G (d, mz_X0 L xs, none, [], mk_220, 8, Q) 147 mt_220_147 [(0, .ref 56)] [.int s3, .int s2, .int s1, .ref 58] false (mz_k S R N b t) := by
  unfold cf_220_147 at hC
  unfold cp_220_147 at hp
  refine g_iadd ?_
  obtain ⟨h1, hp⟩ := hp
  refine g_iast (mz_at hS (Nat.le_of_ble_eq_true rfl) mzcS_58) h1 (g_iconst mzi_0 (g_istore (Nat.le_of_ble_eq_true rfl) rfl ?_))
  refine g_weak ?_ (g_cl (cg_220_152 hd hS hR 0 (mz_wI N 58 s1 (s2 + s3)) hr hp hC))
  exact ⟨rfl, rfl, trivial⟩
theorem cg_220_133 (hd : 2 ≤ d) (hS : mz_ext S 232) (hR : mz_rok R 232)  (s1 : Int32) (s2 : Int32) (s3 : Int32) (N : mz_N) {C0 : (mz_N) → Prop} (hr : ∀ (N2 : mz_N), C0 N2 → Q (.inl none) (mz_k S R N2 b t)) (hp : cp_220_133 s1 s2 s3 N) (hC : C0 (cf_220_133 s1 s2 s3 N)) : mz_G (d, mz_X0 L xs, none, [], mk_220, 8, Q) 133 mt_220_133 [(0, .ref 56)] [.int s3, .int s2, .int s1, .ref 58] false (mz_k S R N b t) := by
  unfold cf_220_133 at hC
  unfold cp_220_133 at hp
  refine g_iadd (g_aload_n rfl ?_)
  obtain ⟨h1, hp⟩ := hp
  refine g_getZ (mz_at hS (Nat.le_of_ble_eq_true rfl) mzcS_56) mzcf_9_9 h1 ?_
  refine g_zeq (tg := 146) rfl ms_220_146 hC (fun h2 hC => ?_) (fun h2 hC => ?_)
  · have hp := hp.1 h2
    refine g_bipush mzb_40 (g_goto (tg := 147) rfl ms_220_147 ?_)
    refine g_weak ?_ (g_cl (cg_220_147 hd hS hR s1 (s2 + s3) 40 N hr hp hC))
    exact ⟨rfl, trivial⟩
  · have hp := hp.2 h2
    refine g_iconst mzi_0 ?_
    refine g_weak ?_ (g_cl (cg_220_147 hd hS hR s1 (s2 + s3) 0 N hr hp hC))
    exact ⟨rfl, trivial⟩
theorem cb_220_22 (hd : 2 ≤ d) (hS : mz_ext S 232) (hR : mz_rok R 232)  (v3 : Int32) (v4 : Bool) (s : Int32 × mz_N) {C0 : (mz_N) → Prop} (hr : ∀ (N2 : mz_N), C0 N2 → Q (.inl none) (mz_k S R N2 b t)) {C1 : ((Int32 × mz_N) ⊕ (mz_N)) → Prop} (hc1 : ∀ s2, C1 (.inl s2) → mz_G (d, mz_X0 L xs, none, [], mk_220, 8, Q) 22 mt_220_22 [(0, .ref 56), (1, .ref 2), (2, .ref 53), (3, .int v3), (4, .int (mz_b01 v4)), (5, .int s2.1)] [] false (mz_k S R s2.2 b t)) (hx1 : ∀ z, C1 (.inr z) → C0 z) (hp : cd_220_22 v3 v4 s) (hC : C1 (cq_220_22 v3 v4 s)) : mz_G (d, mz_X0 L xs, none, [], mk_220, 8, Q) 22 mt_220_22 [(0, .ref 56), (1, .ref 2), (2, .ref 53), (3, .int v3), (4, .int (mz_b01 v4)), (5, .int s.1)] [] false (mz_k S R s.2 b t) := by
  unfold cq_220_22 at hC
  unfold cd_220_22 at hp
  refine g_iload rfl (g_bipush mzb_10 ?_)
  refine g_icge (tg := 103) rfl ms_220_103 hC (fun h1 hC => ?_) (fun h1 hC => ?_)
  · have hp := hp.1 h1
    refine g_aload_n rfl (g_iload rfl (g_iload_n rfl ?_))
    obtain ⟨h2, hp⟩ := hp
    refine g_v3v (Nat.le_of_ble_eq_true rfl) (mz_at hS (Nat.le_of_ble_eq_true rfl) mzcS_2) (fun _ hq => cs_221 (Nat.le_trans (Nat.le_of_ble_eq_true rfl) hd) (hS.le (Nat.le_of_ble_eq_true rfl)) (hR.le (Nat.le_of_ble_eq_true rfl))  s.1 v3 s.2 h2 hq) (g_istore (Nat.le_of_ble_eq_true rfl) rfl (g_iload rfl ?_))
    refine g_ifle (tg := 60) rfl ms_220_60 hC (fun h3 hC => ?_) (fun h3 hC => ?_)
    · have hp := hp.1 h3
      refine g_iload rfl ?_
      refine g_zeq (tg := 60) rfl ms_220_60 hC (fun h4 hC => ?_) (fun h4 hC => ?_)
      · have hp := hp.1 h4
        refine g_aload_n rfl (g_bipush mzb_10 (g_iald hS.1 (mz_at hS (Nat.le_of_ble_eq_true rfl) mzcS_53) (mz_ibd (by decide)) (g_iconst mzi_1 ?_)))
        refine g_icne (tg := 60) rfl ms_220_60 hC (fun h5 hC => ?_) (fun h5 hC => ?_)
        · have hp := hp.1 h5
          refine g_iconst mzi_1 (g_goto (tg := 61) rfl ms_220_61 ?_)
          refine g_weak ?_ (g_cl (cg_220_61 hd hS hR true v3 v4 s.1 (cf_221_0 s.1 v3 s.2) s.2 hr hc1 hx1 hp hC))
          exact ⟨rfl, rfl, rfl, rfl, rfl, rfl, rfl, trivial⟩
        · have hp := hp.2 h5
          refine g_weak ?_ (g_cl (cg_220_60 hd hS hR v3 v4 s.1 (cf_221_0 s.1 v3 s.2) s.2 hr hc1 hx1 hp hC))
          exact ⟨rfl, rfl, rfl, rfl, rfl, rfl, rfl, trivial⟩
      · have hp := hp.2 h4
        refine g_weak ?_ (g_cl (cg_220_60 hd hS hR v3 v4 s.1 (cf_221_0 s.1 v3 s.2) s.2 hr hc1 hx1 hp hC))
        exact ⟨rfl, rfl, rfl, rfl, rfl, rfl, rfl, trivial⟩
    · have hp := hp.2 h3
      refine g_weak ?_ (g_cl (cg_220_60 hd hS hR v3 v4 s.1 (cf_221_0 s.1 v3 s.2) s.2 hr hc1 hx1 hp hC))
      exact ⟨rfl, rfl, rfl, rfl, rfl, rfl, rfl, trivial⟩
  · have hp := hp.2 h1
    refine g_aload_n rfl (g_getR (mz_at hS (Nat.le_of_ble_eq_true rfl) mzcS_56) mzcf_9_0 (mz_rb hR (Nat.le_of_ble_eq_true rfl) rfl mzcR_56_0) (g_iconst mzi_0 (g_aald4 (m := 58) (mz_at hS (Nat.le_of_ble_eq_true rfl) mzcS_57) (mz_ibd (by decide)) (mz_rb hR (Nat.le_of_ble_eq_true rfl) rfl mzcRr_57_0) (g_bipush mzb_10 (g_bipush mzb_20 (g_iconst mzi_5 (g_aload_n rfl ?_)))))))
    refine g_bipush mzb_13 (g_iald hS.1 (mz_at hS (Nat.le_of_ble_eq_true rfl) mzcS_53) (mz_ibd (by decide)) (g_imul (g_iadd (g_aload_n rfl (g_getI (mz_at hS (Nat.le_of_ble_eq_true rfl) mzcS_56) mzcf_9_13 ?_)))))
    refine g_ifle (tg := 132) rfl ms_220_132 hC (fun h6 hC => ?_) (fun h6 hC => ?_)
    · have hp := hp.1 h6
      refine g_bipush mzb_30 (g_goto (tg := 133) rfl ms_220_133 ?_)
      refine g_weak ?_ (g_cl (cg_220_133 hd hS hR 10 (20 + (5 * (mz_gI s.2 53 13))) 30 s.2 hr hp (hx1 _ hC)))
      exact ⟨rfl, trivial⟩
    · have hp := hp.2 h6
      refine g_iconst mzi_0 ?_
      refine g_weak ?_ (g_cl (cg_220_133 hd hS hR 10 (20 + (5 * (mz_gI s.2 53 13))) 0 s.2 hr hp (hx1 _ hC)))
      exact ⟨rfl, trivial⟩
theorem cg_220_22 (hd : 2 ≤ d) (hS : mz_ext S 232) (hR : mz_rok R 232)  (v3 : Int32) (v4 : Bool) (v5 : Int32) (N : mz_N) {C0 : (mz_N) → Prop} (hr : ∀ (N2 : mz_N), C0 N2 → Q (.inl none) (mz_k S R N2 b t)) (hp : cp_220_22 v3 v4 v5 N) (hC : C0 (cf_220_22 v3 v4 v5 N)) : mz_G (d, mz_X0 L xs, none, [], mk_220, 8, Q) 22 mt_220_22 [(0, .ref 56), (1, .ref 2), (2, .ref 53), (3, .int v3), (4, .int (mz_b01 v4)), (5, .int v5)] [] false (mz_k S R N b t) := by
  obtain ⟨n, hn⟩ := hp
  exact g_loop (G := fun s => mz_G (d, mz_X0 L xs, none, [], mk_220, 8, Q) 22 mt_220_22 [(0, .ref 56), (1, .ref 2), (2, .ref 53), (3, .int v3), (4, .int (mz_b01 v4)), (5, .int s.1)] [] false (mz_k S R s.2 b t)) (C := C0) (fun C2 hc hx s hP hC => cb_220_22 hd hS hR v3 v4 s hr hc hx hP hC) n (v5, N) hn hC
theorem cg_220_17 (hd : 2 ≤ d) (hS : mz_ext S 232) (hR : mz_rok R 232)  (s0 : Bool) (v3 : Int32) (N : mz_N) {C0 : (mz_N) → Prop} (hr : ∀ (N2 : mz_N), C0 N2 → Q (.inl none) (mz_k S R N2 b t)) (hp : cp_220_17 s0 v3 N) (hC : C0 (cf_220_17 s0 v3 N)) : mz_G (d, mz_X0 L xs, none, [], mk_220, 8, Q) 17 mt_220_17 [(0, .ref 56), (1, .ref 2), (2, .ref 53), (3, .int v3)] [.int (mz_b01 s0)] false (mz_k S R N b t) := by
  unfold cf_220_17 at hC
  unfold cp_220_17 at hp
  refine g_istore (Nat.le_of_ble_eq_true rfl) rfl (g_iconst mzi_0 (g_istore (Nat.le_of_ble_eq_true rfl) rfl ?_))
  refine g_weak ?_ (g_cl (cg_220_22 hd hS hR v3 s0 0 N hr hp hC))
  exact ⟨rfl, rfl, rfl, rfl, rfl, rfl, trivial⟩
theorem cg_220_12 (hd : 2 ≤ d) (hS : mz_ext S 232) (hR : mz_rok R 232)  (v3 : Int32) (N : mz_N) {C0 : (mz_N) → Prop} (hr : ∀ (N2 : mz_N), C0 N2 → Q (.inl none) (mz_k S R N2 b t)) (hp : cp_220_12 v3 N) (hC : C0 (cf_220_12 v3 N)) : mz_G (d, mz_X0 L xs, none, [], mk_220, 8, Q) 12 mt_220_12 [(0, .ref 56), (1, .ref 2), (2, .ref 53), (3, .int v3)] [] false (mz_k S R N b t) := by
  unfold cf_220_12 at hC
  unfold cp_220_12 at hp
  refine g_iconst mzi_1 (g_goto (tg := 17) rfl ms_220_17 ?_)
  refine g_weak ?_ (g_cl (cg_220_17 hd hS hR true v3 N hr hp hC))
  exact ⟨rfl, rfl, rfl, rfl, trivial⟩
theorem cg_220_0 (hd : 2 ≤ d) (hS : mz_ext S 232) (hR : mz_rok R 232)  (v3 : Int32) (N : mz_N) {C0 : (mz_N) → Prop} (hr : ∀ (N2 : mz_N), C0 N2 → Q (.inl none) (mz_k S R N2 b t)) (hp : cp_220_0 v3 N) (hC : C0 (cf_220_0 v3 N)) : mz_G (d, mz_X0 L xs, none, [], mk_220, 8, Q) 0 mk_220 [(0, .ref 56), (1, .ref 2), (2, .ref 53), (3, .int v3)] [] true (mz_k S R N b t) := by
  unfold cf_220_0 at hC
  unfold cp_220_0 at hp
  refine g_iload_n rfl (g_bipush mzb_7 ?_)
  refine g_iclt (tg := 12) rfl ms_220_12 hC (fun h1 hC => ?_) (fun h1 hC => ?_)
  · have hp := hp.1 h1
    refine g_weak ?_ (g_cl (cg_220_12 hd hS hR v3 N hr hp hC))
    exact ⟨rfl, rfl, rfl, rfl, trivial⟩
  · have hp := hp.2 h1
    refine g_iload_n rfl (g_bipush mzb_18 ?_)
    refine g_iclt (tg := 16) rfl ms_220_16 hC (fun h2 hC => ?_) (fun h2 hC => ?_)
    · have hp := hp.1 h2
      refine g_iconst mzi_0 ?_
      refine g_weak ?_ (g_cl (cg_220_17 hd hS hR false v3 N hr hp hC))
      exact ⟨rfl, rfl, rfl, rfl, trivial⟩
    · have hp := hp.2 h2
      refine g_weak ?_ (g_cl (cg_220_12 hd hS hR v3 N hr hp hC))
      exact ⟨rfl, rfl, rfl, rfl, trivial⟩
theorem cs_220 (hd : 3 ≤ d) (hS : mz_ext S 232) (hR : mz_rok R 232)  (v3 : Int32) (N : mz_N) (hp : cp_220_0 v3 N) (hq : Q (.inl none) (mz_k S R (cf_220_0 v3 N) b t)) : mz_Ed (mz_X0 L xs) d 220 [.ref 56, .ref 2, .ref 53, .int v3] (mz_k S R N b t) Q :=
  by
  refine g_in mzq_220 (Nat.le_of_ble_eq_true rfl) (Nat.le_of_ble_eq_true rfl) (Nat.le_trans (Nat.le_of_ble_eq_true rfl) hd) ?_
  refine g_weak ?_ (cg_220_0 (d := d - 1) (by omega) hS hR v3 N (C0 := fun z => Q (.inl none) (mz_k S R z b t)) (fun _ h => h) hp hq)
  exact ⟨rfl, rfl, rfl, rfl, trivial⟩
/-! 223 KeptHouse$Supply.chargeUp ()V -/
theorem ms_223_0 : mz_sf mk_223 0 = mk_223 := mz_sf_zero _
theorem ms_223_27 : mz_sf mk_223 27 = mt_223_27 := mz_sf_add ms_223_0 (t := 27) rfl rfl
set_option maxRecDepth 100000 in
theorem mzq_223 : mz_PG0 223 = some (9, ⟨"KeptHouse$Supply", "chargeUp", "()V"⟩, prog_11_method_6_code, 1, none, [], mk_223, []) := rfl
theorem cg_223_27 (hd : 0 ≤ d) (hS : mz_ext S 232) (hR : mz_rok R 232)  (N : mz_N) {C0 : (mz_N) → Prop} (hr : ∀ (N2 : mz_N), C0 N2 → Q (.inl none) (mz_k S R N2 b t)) (hp : cp_223_27 N) (hC : C0 (cf_223_27 N)) : mz_G (d, mz_X0 L xs, none, [], mk_223, 1, Q) 27 mt_223_27 [] [] false (mz_k S R N b t) := by
  unfold cf_223_27 at hC
  unfold cp_223_27 at hp
  exact g_vret rfl (hr _ hC)
theorem cg_223_0 (hd : 0 ≤ d) (hS : mz_ext S 232) (hR : mz_rok R 232)  (N : mz_N) {C0 : (mz_N) → Prop} (hr : ∀ (N2 : mz_N), C0 N2 → Q (.inl none) (mz_k S R N2 b t)) (hp : cp_223_0 N) (hC : C0 (cf_223_0 N)) : mz_G (d, mz_X0 L xs, none, [], mk_223, 1, Q) 0 mk_223 [(0, .ref 56)] [] true (mz_k S R N b t) := by
  unfold cf_223_0 at hC
  unfold cp_223_0 at hp
  refine g_aload_n rfl (g_iconst mzi_0 (g_putZ (z := false) (mz_at hS (Nat.le_of_ble_eq_true rfl) mzcS_56) mzcf_9_5 (g_aload_n rfl (g_sipush mzs_3000 (g_aload_n rfl (g_getI (mz_at hS (Nat.le_of_ble_eq_true rfl) mzcS_56) mzcf_9_1 (g_bipush mzb_30 ?_)))))))
  refine g_iadd (g_imin (Nat.le_of_ble_eq_true rfl) (g_putI (mz_at hS (Nat.le_of_ble_eq_true rfl) mzcS_56) mzcf_9_1 (g_aload_n rfl (g_iconst mzi_0 (g_putI (mz_at hS (Nat.le_of_ble_eq_true rfl) mzcS_56) mzcf_9_3 ?_)))))
  refine g_weak ?_ (g_cl (cg_223_27 hd hS hR (mz_pI (mz_pI (mz_pI N 56 5 (mz_b01 false)) 56 1 (mz_imin 3000 (((mz_pI N 56 5 (mz_b01 false)).1 56 1) + 30))) 56 3 0) hr hp hC))
  exact trivial
theorem cs_223 (hd : 1 ≤ d) (hS : mz_ext S 232) (hR : mz_rok R 232)  (N : mz_N) (hp : cp_223_0 N) (hq : Q (.inl none) (mz_k S R (cf_223_0 N) b t)) : mz_Ed (mz_X0 L xs) d 223 [.ref 56] (mz_k S R N b t) Q :=
  by
  refine g_in mzq_223 (Nat.le_of_ble_eq_true rfl) (Nat.le_of_ble_eq_true rfl) (Nat.le_trans (Nat.le_of_ble_eq_true rfl) hd) ?_
  refine g_weak ?_ (cg_223_0 (d := d - 1) (by omega) hS hR N (C0 := fun z => Q (.inl none) (mz_k S R z b t)) (fun _ h => h) hp hq)
  exact ⟨rfl, trivial⟩
/-! 224 KeptHouse$Care.isFit (I)Z -/
theorem ms_224_0 : mz_sf mk_224 0 = mk_224 := mz_sf_zero _
theorem ms_224_15 : mz_sf mk_224 15 = mt_224_15 := mz_sf_add ms_224_0 (t := 15) rfl rfl
theorem ms_224_16 : mz_sf mk_224 16 = mt_224_16 := mz_sf_add ms_224_15 (t := 1) rfl rfl
set_option maxRecDepth 100000 in
theorem mzq_224 : mz_PG0 224 = some (2, ⟨"KeptHouse$Care", "isFit", "(I)Z"⟩, prog_4_method_25_code, 2, some .boolean, [], mk_224, []) := rfl
theorem cg_224_0 (hd : 0 ≤ d) (hS : mz_ext S 232) (hR : mz_rok R 232)  (v1 : Int32) (N : mz_N) {C0 : (Bool) → Prop} (hr : ∀ (w : Bool), C0 w → Q (.inl (some (.int (mz_b01 w)))) (mz_k S R N b t)) (hp : cp_224_0 v1 N) (hC : C0 (cf_224_0 v1 N)) : mz_G (d, mz_X0 L xs, some .boolean, [], mk_224, 2, Q) 0 mk_224 [(0, .ref 115), (1, .int v1)] [] true (mz_k S R N b t) := by
  unfold cf_224_0 at hC
  unfold cp_224_0 at hp
  refine g_aload_n rfl (g_getR (mz_at hS (Nat.le_of_ble_eq_true rfl) mzcS_115) mzcf_2_3 (mz_rb hR (Nat.le_of_ble_eq_true rfl) rfl mzcR_115_3) (g_iconst mzi_3 (g_aald4 (m := 128) (mz_at hS (Nat.le_of_ble_eq_true rfl) mzcS_124) (mz_ibd (by decide)) (mz_rb hR (Nat.le_of_ble_eq_true rfl) rfl mzcRr_124_3) (g_iload_n rfl ?_))))
  have h1 := hp
  refine g_iald hS.1 (mz_at hS (Nat.le_of_ble_eq_true rfl) mzcS_128) h1 ?_
  refine g_ifne (tg := 15) rfl ms_224_15 hC (fun h2 hC => ?_) (fun h2 hC => ?_)
  · refine g_iconst mzi_1 (g_goto (tg := 16) rfl ms_224_16 ?_)
    exact g_zret (z := true) rfl (hr _ hC)
  · refine g_iconst mzi_0 ?_
    exact g_zret (z := false) rfl (hr _ hC)
theorem cs_224 (hd : 1 ≤ d) (hS : mz_ext S 232) (hR : mz_rok R 232)  (v1 : Int32) (N : mz_N) (hp : cp_224_0 v1 N) (hq : Q (.inl (some (.int (mz_b01 (cf_224_0 v1 N))))) (mz_k S R N b t)) : mz_Ed (mz_X0 L xs) d 224 [.ref 115, .int v1] (mz_k S R N b t) Q :=
  by
  refine g_in mzq_224 (Nat.le_of_ble_eq_true rfl) (Nat.le_of_ble_eq_true rfl) (Nat.le_trans (Nat.le_of_ble_eq_true rfl) hd) ?_
  refine g_weak ?_ (cg_224_0 (d := d - 1) (by omega) hS hR v1 N (C0 := fun z => Q (.inl (some (.int (mz_b01 z)))) (mz_k S R N b t)) (fun _ h => h) hp hq)
  exact ⟨rfl, rfl, trivial⟩
/-! 226 KeptHouse$Supply.shedOne ()V -/
theorem ms_226_0 : mz_sf mk_226 0 = mk_226 := mz_sf_zero _
theorem ms_226_4 : mz_sf mk_226 4 = mt_226_4 := mz_sf_add ms_226_0 (t := 4) rfl rfl
theorem ms_226_26 : mz_sf mk_226 26 = mt_226_26 := mz_sf_add ms_226_4 (t := 22) rfl rfl
theorem ms_226_45 : mz_sf mk_226 45 = mt_226_45 := mz_sf_add ms_226_26 (t := 19) rfl rfl
theorem ms_226_47 : mz_sf mk_226 47 = mt_226_47 := mz_sf_add ms_226_45 (t := 2) rfl rfl
theorem ms_226_53 : mz_sf mk_226 53 = mt_226_53 := mz_sf_add ms_226_47 (t := 6) rfl rfl
theorem ms_226_76 : mz_sf mk_226 76 = mt_226_76 := mz_sf_add ms_226_53 (t := 23) rfl rfl
set_option maxRecDepth 100000 in
theorem mzq_226 : mz_PG0 226 = some (9, ⟨"KeptHouse$Supply", "shedOne", "()V"⟩, prog_11_method_8_code, 3, none, [], mk_226, []) := rfl
theorem cg_226_47 (hd : 0 ≤ d) (hS : mz_ext S 232) (hR : mz_rok R 232)  (v1 : Int32) (v2 : Int32) (N : mz_N) {C0 : (mz_N) → Prop} (hr : ∀ (N2 : mz_N), C0 N2 → Q (.inl none) (mz_k S R N2 b t)) {C1 : ((Int32 × Int32) ⊕ (mz_N)) → Prop} (hc1 : ∀ s2, C1 (.inl s2) → mz_G (d, mz_X0 L xs, none, [], mk_226, 3, Q) 4 mt_226_4 [(0, .ref 56), (1, .int s2.1), (2, .int s2.2)] [] false (mz_k S R N b t)) (hx1 : ∀ z, C1 (.inr z) → C0 z) (hp : cp_226_47 v1 v2 N) (hC : C1 (cf_226_47 v1 v2 N)) : mz_G (d, mz_X0 L xs, none, [], mk_226, 3, Q) 47 mt_226_47 [(0, .ref 56), (1, .int v1), (2, .int v2)] [] false (mz_k S R N b t) := by
  unfold cf_226_47 at hC
  unfold cp_226_47 at hp
  refine g_iinc rfl mzi_1 (Nat.le_of_ble_eq_true rfl) rfl (g_goto (tg := 4) rfl ms_226_4 ?_)
  refine g_weak ?_ (g_cl (hc1 (v1, (v2 + 1)) hC))
  exact ⟨rfl, rfl, rfl, trivial⟩
theorem cg_226_45 (hd : 0 ≤ d) (hS : mz_ext S 232) (hR : mz_rok R 232)  (v2 : Int32) (N : mz_N) {C0 : (mz_N) → Prop} (hr : ∀ (N2 : mz_N), C0 N2 → Q (.inl none) (mz_k S R N2 b t)) {C1 : ((Int32 × Int32) ⊕ (mz_N)) → Prop} (hc1 : ∀ s2, C1 (.inl s2) → mz_G (d, mz_X0 L xs, none, [], mk_226, 3, Q) 4 mt_226_4 [(0, .ref 56), (1, .int s2.1), (2, .int s2.2)] [] false (mz_k S R N b t)) (hx1 : ∀ z, C1 (.inr z) → C0 z) (hp : cp_226_45 v2 N) (hC : C1 (cf_226_45 v2 N)) : mz_G (d, mz_X0 L xs, none, [], mk_226, 3, Q) 45 mt_226_45 [(0, .ref 56), (2, .int v2)] [] false (mz_k S R N b t) := by
  unfold cf_226_45 at hC
  unfold cp_226_45 at hp
  refine g_iload_n rfl (g_istore_n (Nat.le_of_ble_eq_true rfl) rfl ?_)
  refine g_weak ?_ (g_cl (cg_226_47 hd hS hR v2 v2 N hr hc1 hx1 hp hC))
  exact ⟨rfl, rfl, rfl, trivial⟩
theorem cb_226_4 (hd : 0 ≤ d) (hS : mz_ext S 232) (hR : mz_rok R 232)  (N : mz_N) (s : Int32 × Int32) {C0 : (mz_N) → Prop} (hr : ∀ (N2 : mz_N), C0 N2 → Q (.inl none) (mz_k S R N2 b t)) {C1 : ((Int32 × Int32) ⊕ (mz_N)) → Prop} (hc1 : ∀ s2, C1 (.inl s2) → mz_G (d, mz_X0 L xs, none, [], mk_226, 3, Q) 4 mt_226_4 [(0, .ref 56), (1, .int s2.1), (2, .int s2.2)] [] false (mz_k S R N b t)) (hx1 : ∀ z, C1 (.inr z) → C0 z) (hp : cd_226_4 N s) (hC : C1 (cq_226_4 N s)) : mz_G (d, mz_X0 L xs, none, [], mk_226, 3, Q) 4 mt_226_4 [(0, .ref 56), (1, .int s.1), (2, .int s.2)] [] false (mz_k S R N b t) := by
  unfold cq_226_4 at hC
  unfold cd_226_4 at hp
  refine g_iload_n rfl (g_bipush mzb_11 ?_)
  refine g_icge (tg := 53) rfl ms_226_53 hC (fun h1 hC => ?_) (fun h1 hC => ?_)
  · have hp := hp.1 h1
    refine g_aload_n rfl (g_getR (mz_at hS (Nat.le_of_ble_eq_true rfl) mzcS_56) mzcf_9_0 (mz_rb hR (Nat.le_of_ble_eq_true rfl) rfl mzcR_56_0) (g_iconst mzi_0 (g_aald4 (m := 58) (mz_at hS (Nat.le_of_ble_eq_true rfl) mzcS_57) (mz_ibd (by decide)) (mz_rb hR (Nat.le_of_ble_eq_true rfl) rfl mzcRr_57_0) (g_iload_n rfl ?_))))
    obtain ⟨h2, hp⟩ := hp
    refine g_iald hS.1 (mz_at hS (Nat.le_of_ble_eq_true rfl) mzcS_58) h2 ?_
    refine g_ifle (tg := 47) rfl ms_226_47 hC (fun h3 hC => ?_) (fun h3 hC => ?_)
    · have hp := hp.1 h3
      refine g_iload_n rfl (g_iconst mzi_m1 ?_)
      refine g_iceq (tg := 45) rfl ms_226_45 hC (fun h4 hC => ?_) (fun h4 hC => ?_)
      · have hp := hp.1 h4
        refine g_weak ?_ (g_cl (cg_226_45 hd hS hR s.2 N hr hc1 hx1 hp hC))
        exact ⟨rfl, rfl, trivial⟩
      · have hp := hp.2 h4
        refine g_aload_n rfl (g_getR (mz_at hS (Nat.le_of_ble_eq_true rfl) mzcS_56) mzcf_9_0 (mz_rb hR (Nat.le_of_ble_eq_true rfl) rfl mzcR_56_0) (g_iconst mzi_5 (g_aald4 (m := 63) (mz_at hS (Nat.le_of_ble_eq_true rfl) mzcS_57) (mz_ibd (by decide)) (mz_rb hR (Nat.le_of_ble_eq_true rfl) rfl mzcRr_57_5) (g_iload_n rfl ?_))))
        obtain ⟨h5, hp⟩ := hp
        refine g_iald hS.1 (mz_at hS (Nat.le_of_ble_eq_true rfl) mzcS_63) h5 (g_aload_n rfl (g_getR (mz_at hS (Nat.le_of_ble_eq_true rfl) mzcS_56) mzcf_9_0 (mz_rb hR (Nat.le_of_ble_eq_true rfl) rfl mzcR_56_0) (g_iconst mzi_5 (g_aald4 (m := 63) (mz_at hS (Nat.le_of_ble_eq_true rfl) mzcS_57) (mz_ibd (by decide)) (mz_rb hR (Nat.le_of_ble_eq_true rfl) rfl mzcRr_57_5) (g_iload_n rfl ?_)))))
        obtain ⟨h6, hp⟩ := hp
        refine g_iald hS.1 (mz_at hS (Nat.le_of_ble_eq_true rfl) mzcS_63) h6 ?_
        refine g_iclt (tg := 47) rfl ms_226_47 hC (fun h7 hC => ?_) (fun h7 hC => ?_)
        · have hp := hp.1 h7
          refine g_weak ?_ (g_cl (cg_226_47 hd hS hR s.1 s.2 N hr hc1 hx1 hp hC))
          exact ⟨rfl, rfl, rfl, trivial⟩
        · have hp := hp.2 h7
          refine g_weak ?_ (g_cl (cg_226_45 hd hS hR s.2 N hr hc1 hx1 hp hC))
          exact ⟨rfl, rfl, trivial⟩
    · have hp := hp.2 h3
      refine g_weak ?_ (g_cl (cg_226_47 hd hS hR s.1 s.2 N hr hc1 hx1 hp hC))
      exact ⟨rfl, rfl, rfl, trivial⟩
  · have hp := hp.2 h1
    refine g_iload_n rfl (g_iconst mzi_m1 ?_)
    refine g_iceq (tg := 76) rfl ms_226_76 hC (fun h8 hC => ?_) (fun h8 hC => ?_)
    · have hp := hp.1 h8
      exact g_vret rfl (hr _ (hx1 _ hC))
    · have hp := hp.2 h8
      refine g_aload_n rfl (g_getR (mz_at hS (Nat.le_of_ble_eq_true rfl) mzcS_56) mzcf_9_0 (mz_rb hR (Nat.le_of_ble_eq_true rfl) rfl mzcR_56_0) (g_iconst mzi_0 (g_aald4 (m := 58) (mz_at hS (Nat.le_of_ble_eq_true rfl) mzcS_57) (mz_ibd (by decide)) (mz_rb hR (Nat.le_of_ble_eq_true rfl) rfl mzcRr_57_0) (g_iload_n rfl (g_iconst mzi_0 ?_)))))
      obtain ⟨h9, hp⟩ := hp
      refine g_iast (mz_at hS (Nat.le_of_ble_eq_true rfl) mzcS_58) h9 (g_aload_n rfl (g_getR (mz_at hS (Nat.le_of_ble_eq_true rfl) mzcS_56) mzcf_9_0 (mz_rb hR (Nat.le_of_ble_eq_true rfl) rfl mzcR_56_0) (g_iconst mzi_3 (g_aald4 (m := 61) (mz_at hS (Nat.le_of_ble_eq_true rfl) mzcS_57) (mz_ibd (by decide)) (mz_rb hR (Nat.le_of_ble_eq_true rfl) rfl mzcRr_57_3) (g_iload_n rfl (g_iconst mzi_1 ?_))))))
      have h10 := hp
      refine g_iast (mz_at hS (Nat.le_of_ble_eq_true rfl) mzcS_61) h10 ?_
      exact g_vret rfl (hr _ (hx1 _ hC))
theorem cg_226_4 (hd : 0 ≤ d) (hS : mz_ext S 232) (hR : mz_rok R 232)  (v1 : Int32) (v2 : Int32) (N : mz_N) {C0 : (mz_N) → Prop} (hr : ∀ (N2 : mz_N), C0 N2 → Q (.inl none) (mz_k S R N2 b t)) (hp : cp_226_4 v1 v2 N) (hC : C0 (cf_226_4 v1 v2 N)) : mz_G (d, mz_X0 L xs, none, [], mk_226, 3, Q) 4 mt_226_4 [(0, .ref 56), (1, .int v1), (2, .int v2)] [] false (mz_k S R N b t) := by
  obtain ⟨n, hn⟩ := hp
  exact g_loop (G := fun s => mz_G (d, mz_X0 L xs, none, [], mk_226, 3, Q) 4 mt_226_4 [(0, .ref 56), (1, .int s.1), (2, .int s.2)] [] false (mz_k S R N b t)) (C := C0) (fun C2 hc hx s hP hC => cb_226_4 hd hS hR N s hr hc hx hP hC) n (v1, v2) hn hC
theorem cg_226_0 (hd : 0 ≤ d) (hS : mz_ext S 232) (hR : mz_rok R 232)  (N : mz_N) {C0 : (mz_N) → Prop} (hr : ∀ (N2 : mz_N), C0 N2 → Q (.inl none) (mz_k S R N2 b t)) (hp : cp_226_0 N) (hC : C0 (cf_226_0 N)) : mz_G (d, mz_X0 L xs, none, [], mk_226, 3, Q) 0 mk_226 [(0, .ref 56)] [] true (mz_k S R N b t) := by
  unfold cf_226_0 at hC
  unfold cp_226_0 at hp
  refine g_iconst mzi_m1 (g_istore_n (Nat.le_of_ble_eq_true rfl) rfl (g_iconst mzi_0 (g_istore_n (Nat.le_of_ble_eq_true rfl) rfl ?_)))
  refine g_weak ?_ (g_cl (cg_226_4 hd hS hR (-1) 0 N hr hp hC))
  exact ⟨rfl, rfl, rfl, trivial⟩
theorem cs_226 (hd : 1 ≤ d) (hS : mz_ext S 232) (hR : mz_rok R 232)  (N : mz_N) (hp : cp_226_0 N) (hq : Q (.inl none) (mz_k S R (cf_226_0 N) b t)) : mz_Ed (mz_X0 L xs) d 226 [.ref 56] (mz_k S R N b t) Q :=
  by
  refine g_in mzq_226 (Nat.le_of_ble_eq_true rfl) (Nat.le_of_ble_eq_true rfl) (Nat.le_trans (Nat.le_of_ble_eq_true rfl) hd) ?_
  refine g_weak ?_ (cg_226_0 (d := d - 1) (by omega) hS hR N (C0 := fun z => Q (.inl none) (mz_k S R z b t)) (fun _ h => h) hp hq)
  exact ⟨rfl, trivial⟩
/-! 225 KeptHouse$Supply.liveOnCharge (Z)V -/
theorem ms_225_0 : mz_sf mk_225 0 = mk_225 := mz_sf_zero _
theorem ms_225_24 : mz_sf mk_225 24 = mt_225_24 := mz_sf_add ms_225_0 (t := 24) rfl rfl
theorem ms_225_25 : mz_sf mk_225 25 = mt_225_25 := mz_sf_add ms_225_24 (t := 1) rfl rfl
theorem ms_225_41 : mz_sf mk_225 41 = mt_225_41 := mz_sf_add ms_225_25 (t := 16) rfl rfl
theorem ms_225_42 : mz_sf mk_225 42 = mt_225_42 := mz_sf_add ms_225_41 (t := 1) rfl rfl
theorem ms_225_60 : mz_sf mk_225 60 = mt_225_60 := mz_sf_add ms_225_42 (t := 18) rfl rfl
theorem ms_225_72 : mz_sf mk_225 72 = mt_225_72 := mz_sf_add ms_225_60 (t := 12) rfl rfl
theorem ms_225_95 : mz_sf mk_225 95 = mt_225_95 := mz_sf_add ms_225_72 (t := 23) rfl rfl
theorem ms_225_101 : mz_sf mk_225 101 = mt_225_101 := mz_sf_add ms_225_95 (t := 6) rfl rfl
set_option maxRecDepth 100000 in
theorem mzq_225 : mz_PG0 225 = some (9, ⟨"KeptHouse$Supply", "liveOnCharge", "(Z)V"⟩, prog_11_method_7_code, 4, none, [], mk_225, []) := rfl
theorem cg_225_101 (hd : 1 ≤ d) (hS : mz_ext S 232) (hR : mz_rok R 232)  (v2 : Int32) (N : mz_N) {C0 : (mz_N) → Prop} (hr : ∀ (N2 : mz_N), C0 N2 → Q (.inl none) (mz_k S R N2 b t)) (hp : cp_225_101 v2 N) (hC : C0 (cf_225_101 v2 N)) : mz_G (d, mz_X0 L xs, none, [], mk_225, 4, Q) 101 mt_225_101 [(0, .ref 56), (2, .int v2)] [] false (mz_k S R N b t) := by
  unfold cf_225_101 at hC
  unfold cp_225_101 at hp
  refine g_aload_n rfl (g_dup rfl (g_getI (mz_at hS (Nat.le_of_ble_eq_true rfl) mzcS_56) mzcf_9_1 (g_iconst mzi_0 (g_aload_n rfl ?_))))
  have h1 := hp
  refine g_v1v (Nat.le_of_ble_eq_true rfl) (mz_at hS (Nat.le_of_ble_eq_true rfl) mzcS_56) (fun _ hq => cs_212 (Nat.le_trans (Nat.le_of_ble_eq_true rfl) hd) (hS.le (Nat.le_of_ble_eq_true rfl)) (hR.le (Nat.le_of_ble_eq_true rfl))  N h1 hq) (g_iload_n rfl (g_isub (g_imax (Nat.le_of_ble_eq_true rfl) (g_isub (g_putI (mz_at hS (Nat.le_of_ble_eq_true rfl) mzcS_56) mzcf_9_1 ?_)))))
  exact g_vret rfl (hr _ hC)
theorem cb_225_72 (hd : 1 ≤ d) (hS : mz_ext S 232) (hR : mz_rok R 232)  (v2 : Int32) (s : Int32 × mz_N) {C0 : (mz_N) → Prop} (hr : ∀ (N2 : mz_N), C0 N2 → Q (.inl none) (mz_k S R N2 b t)) {C1 : ((Int32 × mz_N) ⊕ (mz_N)) → Prop} (hc1 : ∀ s2, C1 (.inl s2) → mz_G (d, mz_X0 L xs, none, [], mk_225, 4, Q) 72 mt_225_72 [(0, .ref 56), (2, .int v2), (3, .int s2.1)] [] false (mz_k S R s2.2 b t)) (hx1 : ∀ z, C1 (.inr z) → C0 z) (hp : cd_225_72 v2 s) (hC : C1 (cq_225_72 v2 s)) : mz_G (d, mz_X0 L xs, none, [], mk_225, 4, Q) 72 mt_225_72 [(0, .ref 56), (2, .int v2), (3, .int s.1)] [] false (mz_k S R s.2 b t) := by
  unfold cq_225_72 at hC
  unfold cd_225_72 at hp
  refine g_iload_n rfl (g_bipush mzb_11 ?_)
  refine g_icge (tg := 101) rfl ms_225_101 hC (fun h1 hC => ?_) (fun h1 hC => ?_)
  · have hp := hp.1 h1
    refine g_aload_n rfl ?_
    obtain ⟨h2, hp⟩ := hp
    refine g_v1v (Nat.le_of_ble_eq_true rfl) (mz_at hS (Nat.le_of_ble_eq_true rfl) mzcS_56) (fun _ hq => cs_212 (Nat.le_trans (Nat.le_of_ble_eq_true rfl) hd) (hS.le (Nat.le_of_ble_eq_true rfl)) (hR.le (Nat.le_of_ble_eq_true rfl))  s.2 h2 hq) (g_iload_n rfl (g_aload_n rfl (g_getI (mz_at hS (Nat.le_of_ble_eq_true rfl) mzcS_56) mzcf_9_1 (g_iadd ?_))))
    refine g_icle (tg := 101) rfl ms_225_101 hC (fun h3 hC => ?_) (fun h3 hC => ?_)
    · have hp := hp.1 h3
      refine g_aload_n rfl ?_
      have h4 := hp
      refine g_v1n (Nat.le_of_ble_eq_true rfl) (mz_at hS (Nat.le_of_ble_eq_true rfl) mzcS_56) (fun _ hq => cs_226 (Nat.le_trans (Nat.le_of_ble_eq_true rfl) hd) (hS.le (Nat.le_of_ble_eq_true rfl)) (hR.le (Nat.le_of_ble_eq_true rfl))  s.2 h4 hq) (g_iinc rfl mzi_1 (Nat.le_of_ble_eq_true rfl) rfl (g_goto (tg := 72) rfl ms_225_72 ?_))
      refine g_weak ?_ (g_cl (hc1 ((s.1 + 1), (cf_226_0 s.2)) hC))
      exact ⟨rfl, rfl, rfl, trivial⟩
    · have hp := hp.2 h3
      refine g_weak ?_ (g_cl (cg_225_101 hd hS hR v2 s.2 hr hp (hx1 _ hC)))
      exact ⟨rfl, rfl, trivial⟩
  · have hp := hp.2 h1
    refine g_weak ?_ (g_cl (cg_225_101 hd hS hR v2 s.2 hr hp (hx1 _ hC)))
    exact ⟨rfl, rfl, trivial⟩
theorem cg_225_72 (hd : 1 ≤ d) (hS : mz_ext S 232) (hR : mz_rok R 232)  (v2 : Int32) (v3 : Int32) (N : mz_N) {C0 : (mz_N) → Prop} (hr : ∀ (N2 : mz_N), C0 N2 → Q (.inl none) (mz_k S R N2 b t)) (hp : cp_225_72 v2 v3 N) (hC : C0 (cf_225_72 v2 v3 N)) : mz_G (d, mz_X0 L xs, none, [], mk_225, 4, Q) 72 mt_225_72 [(0, .ref 56), (2, .int v2), (3, .int v3)] [] false (mz_k S R N b t) := by
  obtain ⟨n, hn⟩ := hp
  exact g_loop (G := fun s => mz_G (d, mz_X0 L xs, none, [], mk_225, 4, Q) 72 mt_225_72 [(0, .ref 56), (2, .int v2), (3, .int s.1)] [] false (mz_k S R s.2 b t)) (C := C0) (fun C2 hc hx s hP hC => cb_225_72 hd hS hR v2 s hr hc hx hP hC) n (v3, N) hn hC
theorem cg_225_60 (hd : 1 ≤ d) (hS : mz_ext S 232) (hR : mz_rok R 232)  (v2 : Int32) (N : mz_N) {C0 : (mz_N) → Prop} (hr : ∀ (N2 : mz_N), C0 N2 → Q (.inl none) (mz_k S R N2 b t)) (hp : cp_225_60 v2 N) (hC : C0 (cf_225_60 v2 N)) : mz_G (d, mz_X0 L xs, none, [], mk_225, 4, Q) 60 mt_225_60 [(0, .ref 56), (2, .int v2)] [] false (mz_k S R N b t) := by
  unfold cf_225_60 at hC
  unfold cp_225_60 at hp
  refine g_aload_n rfl (g_dup rfl (g_getI (mz_at hS (Nat.le_of_ble_eq_true rfl) mzcS_56) mzcf_9_3 (g_iconst mzi_1 (g_iadd (g_putI (mz_at hS (Nat.le_of_ble_eq_true rfl) mzcS_56) mzcf_9_3 (g_iconst mzi_0 (g_istore_n (Nat.le_of_ble_eq_true rfl) rfl ?_)))))))
  refine g_weak ?_ (g_cl (cg_225_72 hd hS hR v2 0 (mz_pI N 56 3 ((N.1 56 3) + 1)) hr hp hC))
  exact ⟨rfl, rfl, rfl, trivial⟩
theorem cg_225_42 (hd : 1 ≤ d) (hS : mz_ext S 232) (hR : mz_rok R 232)  (s0 : Int32) (N : mz_N) {C0 : (mz_N) → Prop} (hr : ∀ (N2 : mz_N), C0 N2 → Q (.inl none) (mz_k S R N2 b t)) (hp : cp_225_42 s0 N) (hC : C0 (cf_225_42 s0 N)) : mz_G (d, mz_X0 L xs, none, [], mk_225, 4, Q) 42 mt_225_42 [(0, .ref 56)] [.int s0] false (mz_k S R N b t) := by
  unfold cf_225_42 at hC
  unfold cp_225_42 at hp
  refine g_istore_n (Nat.le_of_ble_eq_true rfl) rfl (g_aload_n rfl ?_)
  obtain ⟨h1, hp⟩ := hp
  refine g_getZ (mz_at hS (Nat.le_of_ble_eq_true rfl) mzcS_56) mzcf_9_5 h1 ?_
  refine g_zeq (tg := 60) rfl ms_225_60 hC (fun h2 hC => ?_) (fun h2 hC => ?_)
  · have hp := hp.1 h2
    refine g_aload_n rfl (g_dup rfl (g_getI (mz_at hS (Nat.le_of_ble_eq_true rfl) mzcS_56) mzcf_9_2 (g_iconst mzi_1 (g_isub (g_putI (mz_at hS (Nat.le_of_ble_eq_true rfl) mzcS_56) mzcf_9_2 ?_)))))
    refine g_weak ?_ (g_cl (cg_225_60 hd hS hR s0 (mz_pI N 56 2 ((N.1 56 2) - 1)) hr hp hC))
    exact ⟨rfl, rfl, trivial⟩
  · have hp := hp.2 h2
    refine g_weak ?_ (g_cl (cg_225_60 hd hS hR s0 N hr hp hC))
    exact ⟨rfl, rfl, trivial⟩
theorem cg_225_25 (hd : 1 ≤ d) (hS : mz_ext S 232) (hR : mz_rok R 232)  (s1 : Bool) (N : mz_N) {C0 : (mz_N) → Prop} (hr : ∀ (N2 : mz_N), C0 N2 → Q (.inl none) (mz_k S R N2 b t)) (hp : cp_225_25 s1 N) (hC : C0 (cf_225_25 s1 N)) : mz_G (d, mz_X0 L xs, none, [], mk_225, 4, Q) 25 mt_225_25 [(0, .ref 56)] [.int (mz_b01 s1), .ref 56] false (mz_k S R N b t) := by
  unfold cf_225_25 at hC
  unfold cp_225_25 at hp
  refine g_putZ (z := s1) (mz_at hS (Nat.le_of_ble_eq_true rfl) mzcS_56) mzcf_9_5 (g_aload_n rfl ?_)
  obtain ⟨h1, hp⟩ := hp
  refine g_getZ (mz_at hS (Nat.le_of_ble_eq_true rfl) mzcS_56) mzcf_9_5 h1 ?_
  refine g_zeq (tg := 41) rfl ms_225_41 hC (fun h2 hC => ?_) (fun h2 hC => ?_)
  · have hp := hp.1 h2
    refine g_sipush mzs_150 (g_goto (tg := 42) rfl ms_225_42 ?_)
    refine g_weak ?_ (g_cl (cg_225_42 hd hS hR 150 (mz_pI N 56 5 (mz_b01 s1)) hr hp hC))
    exact ⟨rfl, trivial⟩
  · have hp := hp.2 h2
    refine g_iconst mzi_0 ?_
    refine g_weak ?_ (g_cl (cg_225_42 hd hS hR 0 (mz_pI N 56 5 (mz_b01 s1)) hr hp hC))
    exact ⟨rfl, trivial⟩
theorem cg_225_24 (hd : 1 ≤ d) (hS : mz_ext S 232) (hR : mz_rok R 232)  (N : mz_N) {C0 : (mz_N) → Prop} (hr : ∀ (N2 : mz_N), C0 N2 → Q (.inl none) (mz_k S R N2 b t)) (hp : cp_225_24 N) (hC : C0 (cf_225_24 N)) : mz_G (d, mz_X0 L xs, none, [], mk_225, 4, Q) 24 mt_225_24 [(0, .ref 56)] [.ref 56] false (mz_k S R N b t) := by
  unfold cf_225_24 at hC
  unfold cp_225_24 at hp
  refine g_iconst mzi_0 ?_
  refine g_weak ?_ (g_cl (cg_225_25 hd hS hR false N hr hp hC))
  exact ⟨rfl, trivial⟩
theorem cg_225_0 (hd : 1 ≤ d) (hS : mz_ext S 232) (hR : mz_rok R 232)  (v1 : Bool) (N : mz_N) {C0 : (mz_N) → Prop} (hr : ∀ (N2 : mz_N), C0 N2 → Q (.inl none) (mz_k S R N2 b t)) (hp : cp_225_0 v1 N) (hC : C0 (cf_225_0 v1 N)) : mz_G (d, mz_X0 L xs, none, [], mk_225, 4, Q) 0 mk_225 [(0, .ref 56), (1, .int (mz_b01 v1))] [] true (mz_k S R N b t) := by
  unfold cf_225_0 at hC
  unfold cp_225_0 at hp
  refine g_aload_n rfl (g_aload_n rfl (g_getI (mz_at hS (Nat.le_of_ble_eq_true rfl) mzcS_56) mzcf_9_3 (g_iconst mzi_2 ?_)))
  refine g_iclt (tg := 24) rfl ms_225_24 hC (fun h1 hC => ?_) (fun h1 hC => ?_)
  · have hp := hp.1 h1
    refine g_weak ?_ (g_cl (cg_225_24 hd hS hR N hr hp hC))
    exact ⟨rfl, trivial⟩
  · have hp := hp.2 h1
    refine g_aload_n rfl (g_getI (mz_at hS (Nat.le_of_ble_eq_true rfl) mzcS_56) mzcf_9_2 ?_)
    refine g_ifle (tg := 24) rfl ms_225_24 hC (fun h2 hC => ?_) (fun h2 hC => ?_)
    · have hp := hp.1 h2
      refine g_iload_n rfl ?_
      refine g_zeq (tg := 24) rfl ms_225_24 hC (fun h3 hC => ?_) (fun h3 hC => ?_)
      · have hp := hp.1 h3
        refine g_iconst mzi_1 (g_goto (tg := 25) rfl ms_225_25 ?_)
        refine g_weak ?_ (g_cl (cg_225_25 hd hS hR true N hr hp hC))
        exact ⟨rfl, trivial⟩
      · have hp := hp.2 h3
        refine g_weak ?_ (g_cl (cg_225_24 hd hS hR N hr hp hC))
        exact ⟨rfl, trivial⟩
    · have hp := hp.2 h2
      refine g_weak ?_ (g_cl (cg_225_24 hd hS hR N hr hp hC))
      exact ⟨rfl, trivial⟩
theorem cs_225 (hd : 2 ≤ d) (hS : mz_ext S 232) (hR : mz_rok R 232)  (v1 : Bool) (N : mz_N) (hp : cp_225_0 v1 N) (hq : Q (.inl none) (mz_k S R (cf_225_0 v1 N) b t)) : mz_Ed (mz_X0 L xs) d 225 [.ref 56, .int (mz_b01 v1)] (mz_k S R N b t) Q :=
  by
  refine g_in mzq_225 (Nat.le_of_ble_eq_true rfl) (Nat.le_of_ble_eq_true rfl) (Nat.le_trans (Nat.le_of_ble_eq_true rfl) hd) ?_
  refine g_weak ?_ (cg_225_0 (d := d - 1) (by omega) hS hR v1 N (C0 := fun z => Q (.inl none) (mz_k S R z b t)) (fun _ h => h) hp hq)
  exact ⟨rfl, rfl, trivial⟩
/-! 227 KeptHouse$Supply.isLive (I)Z -/
theorem ms_227_0 : mz_sf mk_227 0 = mk_227 := mz_sf_zero _
theorem ms_227_22 : mz_sf mk_227 22 = mt_227_22 := mz_sf_add ms_227_0 (t := 22) rfl rfl
theorem ms_227_26 : mz_sf mk_227 26 = mt_227_26 := mz_sf_add ms_227_22 (t := 4) rfl rfl
theorem ms_227_27 : mz_sf mk_227 27 = mt_227_27 := mz_sf_add ms_227_26 (t := 1) rfl rfl
set_option maxRecDepth 100000 in
theorem mzq_227 : mz_PG0 227 = some (9, ⟨"KeptHouse$Supply", "isLive", "(I)Z"⟩, prog_11_method_9_code, 2, some .boolean, [], mk_227, []) := rfl
theorem cg_227_0 (hd : 0 ≤ d) (hS : mz_ext S 232) (hR : mz_rok R 232)  (v1 : Int32) (N : mz_N) {C0 : (Bool) → Prop} (hr : ∀ (w : Bool), C0 w → Q (.inl (some (.int (mz_b01 w)))) (mz_k S R N b t)) (hp : cp_227_0 v1 N) (hC : C0 (cf_227_0 v1 N)) : mz_G (d, mz_X0 L xs, some .boolean, [], mk_227, 2, Q) 0 mk_227 [(0, .ref 56), (1, .int v1)] [] true (mz_k S R N b t) := by
  unfold cf_227_0 at hC
  unfold cp_227_0 at hp
  refine g_aload_n rfl (g_getR (mz_at hS (Nat.le_of_ble_eq_true rfl) mzcS_56) mzcf_9_0 (mz_rb hR (Nat.le_of_ble_eq_true rfl) rfl mzcR_56_0) (g_iconst mzi_2 (g_aald4 (m := 60) (mz_at hS (Nat.le_of_ble_eq_true rfl) mzcS_57) (mz_ibd (by decide)) (mz_rb hR (Nat.le_of_ble_eq_true rfl) rfl mzcRr_57_2) (g_iload_n rfl ?_))))
  obtain ⟨h1, hp⟩ := hp
  refine g_iald hS.1 (mz_at hS (Nat.le_of_ble_eq_true rfl) mzcS_60) h1 ?_
  refine g_ifne (tg := 26) rfl ms_227_26 hC (fun h2 hC => ?_) (fun h2 hC => ?_)
  · have hp := hp.1 h2
    refine g_aload_n rfl (g_getR (mz_at hS (Nat.le_of_ble_eq_true rfl) mzcS_56) mzcf_9_0 (mz_rb hR (Nat.le_of_ble_eq_true rfl) rfl mzcR_56_0) (g_iconst mzi_3 (g_aald4 (m := 61) (mz_at hS (Nat.le_of_ble_eq_true rfl) mzcS_57) (mz_ibd (by decide)) (mz_rb hR (Nat.le_of_ble_eq_true rfl) rfl mzcRr_57_3) (g_iload_n rfl ?_))))
    have h3 := hp
    refine g_iald hS.1 (mz_at hS (Nat.le_of_ble_eq_true rfl) mzcS_61) h3 ?_
    refine g_ifne (tg := 26) rfl ms_227_26 hC (fun h4 hC => ?_) (fun h4 hC => ?_)
    · refine g_iconst mzi_1 (g_goto (tg := 27) rfl ms_227_27 ?_)
      exact g_zret (z := true) rfl (hr _ hC)
    · refine g_iconst mzi_0 ?_
      exact g_zret (z := false) rfl (hr _ hC)
  · have hp := hp.2 h2
    refine g_iconst mzi_0 ?_
    exact g_zret (z := false) rfl (hr _ hC)
theorem cs_227 (hd : 1 ≤ d) (hS : mz_ext S 232) (hR : mz_rok R 232)  (v1 : Int32) (N : mz_N) (hp : cp_227_0 v1 N) (hq : Q (.inl (some (.int (mz_b01 (cf_227_0 v1 N))))) (mz_k S R N b t)) : mz_Ed (mz_X0 L xs) d 227 [.ref 56, .int v1] (mz_k S R N b t) Q :=
  by
  refine g_in mzq_227 (Nat.le_of_ble_eq_true rfl) (Nat.le_of_ble_eq_true rfl) (Nat.le_trans (Nat.le_of_ble_eq_true rfl) hd) ?_
  refine g_weak ?_ (cg_227_0 (d := d - 1) (by omega) hS hR v1 N (C0 := fun z => Q (.inl (some (.int (mz_b01 z)))) (mz_k S R N b t)) (fun _ h => h) hp hq)
  exact ⟨rfl, rfl, trivial⟩
end Fn9
