/-! THE FUNCTIONS: written by program: each method comes to its function. -/
section Fn28
variable {L : Nat} {xs : Nat → Int32} {d : Nat} {S : mz_S} {R : Nat → Nat → Option Nat} {Q : mz_Q} {N : mz_N} {b : Bool} {t : Nat}
/-! 511 KeptHouseModel.doProgram (I)V -/
theorem ms_511_0 : mz_sf mk_511 0 = mk_511 := mz_sf_zero _
theorem ms_511_9 : mz_sf mk_511 9 = mt_511_9 := mz_sf_add ms_511_0 (t := 9) rfl rfl
theorem ms_511_23 : mz_sf mk_511 23 = mt_511_23 := mz_sf_add ms_511_9 (t := 14) rfl rfl
theorem ms_511_54 : mz_sf mk_511 54 = mt_511_54 := mz_sf_add ms_511_23 (t := 31) rfl rfl
theorem ms_511_75 : mz_sf mk_511 75 = mt_511_75 := mz_sf_add ms_511_54 (t := 21) rfl rfl
theorem ms_511_98 : mz_sf mk_511 98 = mt_511_98 := mz_sf_add ms_511_75 (t := 23) rfl rfl
theorem ms_511_104 : mz_sf mk_511 104 = mt_511_104 := mz_sf_add ms_511_98 (t := 6) rfl rfl
set_option maxRecDepth 100000 in
theorem mzq_511 : mz_PG0 511 = some (12, ⟨"KeptHouseModel", "doProgram", "(I)V"⟩, prog_14_method_77_code, 6, none, [], mk_511, []) := rfl
theorem cb_511_23 (hd : 2 ≤ d) (hS : mz_extR S 342) (hR : mz_rok R 342)  (v3 : Int32) (s : Int32 × Int32 × mz_N) {C0 : (mz_N) → Prop} (hr : ∀ (N2 : mz_N), C0 N2 → Q (.inl none) (mz_k S R N2 b t)) {C1 : ((Int32 × Int32 × mz_N) ⊕ (mz_N)) → Prop} (hc1 : ∀ s2, C1 (.inl s2) → mz_G (d, mz_X0 L xs, none, [], mk_511, 6, Q) 9 mt_511_9 [(0, .ref 232), (2, .int s2.1), (3, .int s2.2.1)] [] false (mz_k S R s2.2.2 b t)) (hx1 : ∀ z, C1 (.inr z) → C0 z) {C2 : ((Int32 × Int32 × mz_N) ⊕ ((Int32 × Int32 × mz_N) ⊕ (mz_N))) → Prop} (hc2 : ∀ s2, C2 (.inl s2) → mz_G (d, mz_X0 L xs, none, [], mk_511, 6, Q) 23 mt_511_23 [(0, .ref 232), (3, .int v3), (4, .int s2.1), (5, .int s2.2.1)] [] false (mz_k S R s2.2.2 b t)) (hx2 : ∀ z, C2 (.inr z) → C1 z) (hp : cd_511_23 v3 s) (hC : C2 (cq_511_23 v3 s)) : mz_G (d, mz_X0 L xs, none, [], mk_511, 6, Q) 23 mt_511_23 [(0, .ref 232), (3, .int v3), (4, .int s.1), (5, .int s.2.1)] [] false (mz_k S R s.2.2 b t) := by
  unfold cq_511_23 at hC
  unfold cd_511_23 at hp
  refine g_iload rfl (g_aload_n rfl (g_getR (mz_at hS (Nat.le_of_ble_eq_true rfl) mzcS_232) mzcf_12_32 (mz_rb hR (Nat.le_of_ble_eq_true rfl) rfl mzcR_232_32) (g_iload_n rfl ?_)))
  obtain ⟨h1, hp⟩ := hp
  refine g_iald hS.1 (mz_at hS (Nat.le_of_ble_eq_true rfl) mzcS_255) h1 ?_
  refine g_icge (tg := 75) rfl ms_511_75 hC (fun h2 hC => ?_) (fun h2 hC => ?_)
  · have hp := hp.1 h2
    refine g_aload_n rfl (g_aload_n rfl (g_getR (mz_at hS (Nat.le_of_ble_eq_true rfl) mzcS_232) mzcf_12_29 (mz_rb hR (Nat.le_of_ble_eq_true rfl) rfl mzcR_232_29) (g_iload rfl ?_)))
    obtain ⟨h3, hp⟩ := hp
    refine g_iald hS.1 (mz_at hS (Nat.le_of_ble_eq_true rfl) mzcS_253) h3 (g_aload_n rfl (g_getR (mz_at hS (Nat.le_of_ble_eq_true rfl) mzcS_232) mzcf_12_30 (mz_rb hR (Nat.le_of_ble_eq_true rfl) rfl mzcR_232_30) (g_iload rfl ?_)))
    obtain ⟨h4, hp⟩ := hp
    refine g_iald hS.1 (mz_at hS (Nat.le_of_ble_eq_true rfl) mzcS_254) h4 (g_iload rfl ?_)
    obtain ⟨h5, hp⟩ := hp
    refine g_v4n (Nat.le_of_ble_eq_true rfl) (mz_at hS (Nat.le_of_ble_eq_true rfl) mzcS_232) (fun _ hq => cs_514 (Nat.le_trans (Nat.le_of_ble_eq_true rfl) hd) (hS.le (Nat.le_of_ble_eq_true rfl)) (hR.le (Nat.le_of_ble_eq_true rfl))  (mz_gI s.2.2 253 s.2.1) (mz_gI s.2.2 254 s.2.1) s.1 s.2.2 h5 hq) (g_iload rfl (g_aload_n rfl (g_getR (mz_at hS (Nat.le_of_ble_eq_true rfl) mzcS_232) mzcf_12_29 (mz_rb hR (Nat.le_of_ble_eq_true rfl) rfl mzcR_232_29) (g_iload rfl ?_))))
    have h6 := hp
    refine g_iald hS.1 (mz_at hS (Nat.le_of_ble_eq_true rfl) mzcS_253) h6 ?_
    refine g_s1v (Nat.le_of_ble_eq_true rfl) (fun _ hq => cs_516 (Nat.le_trans (Nat.le_of_ble_eq_true rfl) hd) (hS.le (Nat.le_of_ble_eq_true rfl)) (hR.le (Nat.le_of_ble_eq_true rfl))  (mz_gI (cf_514_0 (mz_gI s.2.2 253 s.2.1) (mz_gI s.2.2 254 s.2.1) s.1 s.2.2) 253 s.2.1) trivial hq) (g_iadd (g_istore (Nat.le_of_ble_eq_true rfl) rfl (g_iinc rfl mzi_1 (Nat.le_of_ble_eq_true rfl) rfl (g_goto (tg := 23) rfl ms_511_23 ?_))))
    refine g_weak ?_ (g_cl (hc2 ((s.1 + (cf_516_0 (mz_gI (cf_514_0 (mz_gI s.2.2 253 s.2.1) (mz_gI s.2.2 254 s.2.1) s.1 s.2.2) 253 s.2.1))), (s.2.1 + 1), (cf_514_0 (mz_gI s.2.2 253 s.2.1) (mz_gI s.2.2 254 s.2.1) s.1 s.2.2)) hC))
    exact ⟨rfl, rfl, rfl, rfl, trivial⟩
  · have hp := hp.2 h2
    refine g_aload_n rfl (g_aload_n rfl (g_getR (mz_at hS (Nat.le_of_ble_eq_true rfl) mzcS_232) mzcf_12_33 (mz_rb hR (Nat.le_of_ble_eq_true rfl) rfl mzcR_232_33) (g_iload_n rfl ?_)))
    obtain ⟨h8, hp⟩ := hp
    refine g_iald hS.1 (mz_at hS (Nat.le_of_ble_eq_true rfl) mzcS_256) h8 (g_aload_n rfl (g_getR (mz_at hS (Nat.le_of_ble_eq_true rfl) mzcS_232) mzcf_12_39 (mz_rb hR (Nat.le_of_ble_eq_true rfl) rfl mzcR_232_39) (g_iconst mzi_0 (g_lald (mz_at hS (Nat.le_of_ble_eq_true rfl) mzcS_259) (mz_ibd (by decide)) ?_))))
    obtain ⟨h9, hp⟩ := hp
    refine g_v3n (Nat.le_of_ble_eq_true rfl) (mz_at hS (Nat.le_of_ble_eq_true rfl) mzcS_232) (fun _ hq => cs_517 (Nat.le_trans (Nat.le_of_ble_eq_true rfl) hd) (hS.le (Nat.le_of_ble_eq_true rfl)) (hR.le (Nat.le_of_ble_eq_true rfl))  (mz_gI s.2.2 256 v3) (mz_gL s.2.2 259 0) s.2.2 h9 hq) (g_aload_n rfl (g_getR (mz_at hS (Nat.le_of_ble_eq_true rfl) mzcS_232) mzcf_12_32 (mz_rb hR (Nat.le_of_ble_eq_true rfl) rfl mzcR_232_32) (g_iload_n rfl ?_)))
    have h10 := hp
    refine g_iald hS.1 (mz_at hS (Nat.le_of_ble_eq_true rfl) mzcS_255) h10 (g_istore_n (Nat.le_of_ble_eq_true rfl) rfl (g_iinc rfl mzi_1 (Nat.le_of_ble_eq_true rfl) rfl (g_goto (tg := 9) rfl ms_511_9 ?_)))
    refine g_weak ?_ (g_cl (hc1 ((mz_gI (cf_517_0 (mz_gI s.2.2 256 v3) (mz_gL s.2.2 259 0) s.2.2) 255 v3), (v3 + 1), (cf_517_0 (mz_gI s.2.2 256 v3) (mz_gL s.2.2 259 0) s.2.2)) (hx2 _ hC)))
    exact ⟨rfl, rfl, rfl, trivial⟩
theorem cg_511_23 (hd : 2 ≤ d) (hS : mz_extR S 342) (hR : mz_rok R 342)  (v3 : Int32) (v4 : Int32) (v5 : Int32) (N : mz_N) {C0 : (mz_N) → Prop} (hr : ∀ (N2 : mz_N), C0 N2 → Q (.inl none) (mz_k S R N2 b t)) {C1 : ((Int32 × Int32 × mz_N) ⊕ (mz_N)) → Prop} (hc1 : ∀ s2, C1 (.inl s2) → mz_G (d, mz_X0 L xs, none, [], mk_511, 6, Q) 9 mt_511_9 [(0, .ref 232), (2, .int s2.1), (3, .int s2.2.1)] [] false (mz_k S R s2.2.2 b t)) (hx1 : ∀ z, C1 (.inr z) → C0 z) (hp : cp_511_23 v3 v4 v5 N) (hC : C1 (cf_511_23 v3 v4 v5 N)) : mz_G (d, mz_X0 L xs, none, [], mk_511, 6, Q) 23 mt_511_23 [(0, .ref 232), (3, .int v3), (4, .int v4), (5, .int v5)] [] false (mz_k S R N b t) := by
  obtain ⟨n, hn⟩ := hp
  exact g_loop (G := fun s => mz_G (d, mz_X0 L xs, none, [], mk_511, 6, Q) 23 mt_511_23 [(0, .ref 232), (3, .int v3), (4, .int s.1), (5, .int s.2.1)] [] false (mz_k S R s.2.2 b t)) (C := C1) (fun C2 hc hx s hP hC => cb_511_23 hd hS hR v3 s hr hc1 hx1 hc hx hP hC) n (v4, v5, N) hn hC
theorem cb_511_9 (hd : 2 ≤ d) (hS : mz_extR S 342) (hR : mz_rok R 342)   (s : Int32 × Int32 × mz_N) {C0 : (mz_N) → Prop} (hr : ∀ (N2 : mz_N), C0 N2 → Q (.inl none) (mz_k S R N2 b t)) {C1 : ((Int32 × Int32 × mz_N) ⊕ (mz_N)) → Prop} (hc1 : ∀ s2, C1 (.inl s2) → mz_G (d, mz_X0 L xs, none, [], mk_511, 6, Q) 9 mt_511_9 [(0, .ref 232), (2, .int s2.1), (3, .int s2.2.1)] [] false (mz_k S R s2.2.2 b t)) (hx1 : ∀ z, C1 (.inr z) → C0 z) (hp : cd_511_9  s) (hC : C1 (cq_511_9  s)) : mz_G (d, mz_X0 L xs, none, [], mk_511, 6, Q) 9 mt_511_9 [(0, .ref 232), (2, .int s.1), (3, .int s.2.1)] [] false (mz_k S R s.2.2 b t) := by
  unfold cq_511_9 at hC
  unfold cd_511_9 at hp
  refine g_iload_n rfl (g_aload_n rfl (g_getI (mz_at hS (Nat.le_of_ble_eq_true rfl) mzcS_232) mzcf_12_28 ?_))
  refine g_icge (tg := 104) rfl ms_511_104 hC (fun h1 hC => ?_) (fun h1 hC => ?_)
  · have hp := hp.1 h1
    refine g_iconst mzi_0 (g_istore (Nat.le_of_ble_eq_true rfl) rfl (g_iload_n rfl (g_istore (Nat.le_of_ble_eq_true rfl) rfl ?_)))
    refine g_weak ?_ (g_cl (cg_511_23 hd hS hR s.2.1 0 s.1 s.2.2 hr hc1 hx1 hp hC))
    exact ⟨rfl, rfl, rfl, rfl, trivial⟩
  · have hp := hp.2 h1
    exact g_vret rfl (hr _ (hx1 _ hC))
theorem cg_511_9 (hd : 2 ≤ d) (hS : mz_extR S 342) (hR : mz_rok R 342)  (v2 : Int32) (v3 : Int32) (N : mz_N) {C0 : (mz_N) → Prop} (hr : ∀ (N2 : mz_N), C0 N2 → Q (.inl none) (mz_k S R N2 b t)) (hp : cp_511_9 v2 v3 N) (hC : C0 (cf_511_9 v2 v3 N)) : mz_G (d, mz_X0 L xs, none, [], mk_511, 6, Q) 9 mt_511_9 [(0, .ref 232), (2, .int v2), (3, .int v3)] [] false (mz_k S R N b t) := by
  obtain ⟨n, hn⟩ := hp
  exact g_loop (G := fun s => mz_G (d, mz_X0 L xs, none, [], mk_511, 6, Q) 9 mt_511_9 [(0, .ref 232), (2, .int s.1), (3, .int s.2.1)] [] false (mz_k S R s.2.2 b t)) (C := C0) (fun C2 hc hx s hP hC => cb_511_9 hd hS hR  s hr hc hx hP hC) n (v2, v3, N) hn hC
theorem cg_511_0 (hd : 2 ≤ d) (hS : mz_extR S 342) (hR : mz_rok R 342)  (v1 : Int32) (N : mz_N) {C0 : (mz_N) → Prop} (hr : ∀ (N2 : mz_N), C0 N2 → Q (.inl none) (mz_k S R N2 b t)) (hp : cp_511_0 v1 N) (hC : C0 (cf_511_0 v1 N)) : mz_G (d, mz_X0 L xs, none, [], mk_511, 6, Q) 0 mk_511 [(0, .ref 232), (1, .int v1)] [] true (mz_k S R N b t) := by
  unfold cf_511_0 at hC
  unfold cp_511_0 at hp
  refine g_aload_n rfl (g_iload_n rfl ?_)
  obtain ⟨h1, hp⟩ := hp
  refine g_v2n (Nat.le_of_ble_eq_true rfl) (mz_at hS (Nat.le_of_ble_eq_true rfl) mzcS_232) (fun _ hq => cs_512 (Nat.le_trans (Nat.le_of_ble_eq_true rfl) hd) (hS.le (Nat.le_of_ble_eq_true rfl)) (hR.le (Nat.le_of_ble_eq_true rfl))  v1 N h1 hq) (g_iconst mzi_0 (g_istore_n (Nat.le_of_ble_eq_true rfl) rfl (g_iconst mzi_0 (g_istore_n (Nat.le_of_ble_eq_true rfl) rfl ?_))))
  refine g_weak ?_ (g_cl (cg_511_9 hd hS hR 0 0 (cf_512_0 v1 N) hr hp hC))
  exact ⟨rfl, rfl, rfl, trivial⟩
theorem cs_511 (hd : 3 ≤ d) (hS : mz_extR S 342) (hR : mz_rok R 342)  (v1 : Int32) (N : mz_N) (hp : cp_511_0 v1 N) (hq : Q (.inl none) (mz_k S R (cf_511_0 v1 N) b t)) : mz_Ed (mz_X0 L xs) d 511 [.ref 232, .int v1] (mz_k S R N b t) Q :=
  by
  refine g_in mzq_511 (Nat.le_of_ble_eq_true rfl) (Nat.le_of_ble_eq_true rfl) (Nat.le_trans (Nat.le_of_ble_eq_true rfl) hd) ?_
  refine g_weak ?_ (cg_511_0 (d := d - 1) (by omega) hS hR v1 N (C0 := fun z => Q (.inl none) (mz_k S R z b t)) (fun _ h => h) hp hq)
  exact ⟨rfl, rfl, trivial⟩
/-! 519 KeptHouseModel.peopleIn (II)I -/
theorem ms_519_0 : mz_sf mk_519 0 = mk_519 := mz_sf_zero _
theorem ms_519_13 : mz_sf mk_519 13 = mt_519_13 := mz_sf_add ms_519_0 (t := 13) rfl rfl
theorem ms_519_24 : mz_sf mk_519 24 = mt_519_24 := mz_sf_add ms_519_13 (t := 11) rfl rfl
set_option maxRecDepth 100000 in
theorem mzq_519 : mz_PG0 519 = some (12, ⟨"KeptHouseModel", "peopleIn", "(II)I"⟩, prog_14_method_85_code, 3, some .int, [], mk_519, []) := rfl
theorem cg_519_0 (hd : 0 ≤ d) (hS : mz_extR S 342) (hR : mz_rok R 342)  (v1 : Int32) (v2 : Int32) (N : mz_N) {C0 : (Int32) → Prop} (hr : ∀ (w : Int32), C0 w → Q (.inl (some (.int w))) (mz_k S R N b t)) (hp : cp_519_0 v1 v2 N) (hC : C0 (cf_519_0 v1 v2 N)) : mz_G (d, mz_X0 L xs, some .int, [], mk_519, 3, Q) 0 mk_519 [(0, .ref 232), (1, .int v1), (2, .int v2)] [] true (mz_k S R N b t) := by
  unfold cf_519_0 at hC
  unfold cp_519_0 at hp
  refine g_aload_n rfl (g_getR (mz_at hS (Nat.le_of_ble_eq_true rfl) mzcS_232) mzcf_12_14 (mz_rb hR (Nat.le_of_ble_eq_true rfl) rfl mzcR_232_14) (g_iload_n rfl ?_))
  obtain ⟨h1, hp⟩ := hp
  refine g_iald hS.1 (mz_at hS (Nat.le_of_ble_eq_true rfl) mzcS_242) h1 ?_
  refine g_ifge (tg := 13) rfl ms_519_13 hC (fun h2 hC => ?_) (fun h2 hC => ?_)
  · have hp := hp.1 h2
    refine g_iconst mzi_0 (g_goto (tg := 24) rfl ms_519_24 ?_)
    exact g_iret rfl (hr _ hC)
  · have hp := hp.2 h2
    refine g_aload_n rfl (g_getR (mz_at hS (Nat.le_of_ble_eq_true rfl) mzcS_232) mzcf_12_16 (mz_rb hR (Nat.le_of_ble_eq_true rfl) rfl mzcR_232_16) (g_bipush mzb_24 (g_iload_n rfl (g_imul (g_iload_n rfl (g_iadd ?_))))))
    have h3 := hp
    refine g_iald hS.1 (mz_at hS (Nat.le_of_ble_eq_true rfl) mzcS_244) h3 ?_
    exact g_iret rfl (hr _ hC)
theorem cs_519 (hd : 1 ≤ d) (hS : mz_extR S 342) (hR : mz_rok R 342)  (v1 : Int32) (v2 : Int32) (N : mz_N) (hp : cp_519_0 v1 v2 N) (hq : Q (.inl (some (.int (cf_519_0 v1 v2 N)))) (mz_k S R N b t)) : mz_Ed (mz_X0 L xs) d 519 [.ref 232, .int v1, .int v2] (mz_k S R N b t) Q :=
  by
  refine g_in mzq_519 (Nat.le_of_ble_eq_true rfl) (Nat.le_of_ble_eq_true rfl) (Nat.le_trans (Nat.le_of_ble_eq_true rfl) hd) ?_
  refine g_weak ?_ (cg_519_0 (d := d - 1) (by omega) hS hR v1 v2 N (C0 := fun z => Q (.inl (some (.int z))) (mz_k S R N b t)) (fun _ h => h) hp hq)
  exact ⟨rfl, rfl, rfl, trivial⟩
/-! 521 KeptHouseModel.loads ()I -/
theorem ms_521_0 : mz_sf mk_521 0 = mk_521 := mz_sf_zero _
theorem ms_521_4 : mz_sf mk_521 4 = mt_521_4 := mz_sf_add ms_521_0 (t := 4) rfl rfl
theorem ms_521_25 : mz_sf mk_521 25 = mt_521_25 := mz_sf_add ms_521_4 (t := 21) rfl rfl
set_option maxRecDepth 100000 in
theorem mzq_521 : mz_PG0 521 = some (12, ⟨"KeptHouseModel", "loads", "()I"⟩, prog_14_method_88_code, 3, some .int, [], mk_521, []) := rfl
theorem cb_521_4 (hd : 0 ≤ d) (hS : mz_extR S 342) (hR : mz_rok R 342)  (N : mz_N) (s : Int32 × Int32) {C0 : (Int32) → Prop} (hr : ∀ (w : Int32), C0 w → Q (.inl (some (.int w))) (mz_k S R N b t)) {C1 : ((Int32 × Int32) ⊕ (Int32)) → Prop} (hc1 : ∀ s2, C1 (.inl s2) → mz_G (d, mz_X0 L xs, some .int, [], mk_521, 3, Q) 4 mt_521_4 [(0, .ref 232), (1, .int s2.1), (2, .int s2.2)] [] false (mz_k S R N b t)) (hx1 : ∀ z, C1 (.inr z) → C0 z) (hp : cd_521_4 N s) (hC : C1 (cq_521_4 N s)) : mz_G (d, mz_X0 L xs, some .int, [], mk_521, 3, Q) 4 mt_521_4 [(0, .ref 232), (1, .int s.1), (2, .int s.2)] [] false (mz_k S R N b t) := by
  unfold cq_521_4 at hC
  unfold cd_521_4 at hp
  refine g_iload_n rfl (g_bipush mzb_11 ?_)
  refine g_icge (tg := 25) rfl ms_521_25 hC (fun h1 hC => ?_) (fun h1 hC => ?_)
  · have hp := hp.1 h1
    refine g_iload_n rfl (g_aload_n rfl (g_getR (mz_at hS (Nat.le_of_ble_eq_true rfl) mzcS_232) mzcf_12_56 (mz_rb hR (Nat.le_of_ble_eq_true rfl) rfl mzcR_232_56) (g_iload_n rfl ?_)))
    have h2 := hp
    refine g_iald hS.1 (mz_at hS (Nat.le_of_ble_eq_true rfl) mzcS_272) h2 (g_iadd (g_istore_n (Nat.le_of_ble_eq_true rfl) rfl (g_iinc rfl mzi_1 (Nat.le_of_ble_eq_true rfl) rfl (g_goto (tg := 4) rfl ms_521_4 ?_))))
    refine g_weak ?_ (g_cl (hc1 ((s.1 + (mz_gI N 272 s.2)), (s.2 + 1)) hC))
    exact ⟨rfl, rfl, rfl, trivial⟩
  · have hp := hp.2 h1
    refine g_iload_n rfl ?_
    exact g_iret rfl (hr _ (hx1 _ hC))
theorem cg_521_4 (hd : 0 ≤ d) (hS : mz_extR S 342) (hR : mz_rok R 342)  (v1 : Int32) (v2 : Int32) (N : mz_N) {C0 : (Int32) → Prop} (hr : ∀ (w : Int32), C0 w → Q (.inl (some (.int w))) (mz_k S R N b t)) (hp : cp_521_4 v1 v2 N) (hC : C0 (cf_521_4 v1 v2 N)) : mz_G (d, mz_X0 L xs, some .int, [], mk_521, 3, Q) 4 mt_521_4 [(0, .ref 232), (1, .int v1), (2, .int v2)] [] false (mz_k S R N b t) := by
  obtain ⟨n, hn⟩ := hp
  exact g_loop (G := fun s => mz_G (d, mz_X0 L xs, some .int, [], mk_521, 3, Q) 4 mt_521_4 [(0, .ref 232), (1, .int s.1), (2, .int s.2)] [] false (mz_k S R N b t)) (C := C0) (fun C2 hc hx s hP hC => cb_521_4 hd hS hR N s hr hc hx hP hC) n (v1, v2) hn hC
theorem cg_521_0 (hd : 0 ≤ d) (hS : mz_extR S 342) (hR : mz_rok R 342)  (N : mz_N) {C0 : (Int32) → Prop} (hr : ∀ (w : Int32), C0 w → Q (.inl (some (.int w))) (mz_k S R N b t)) (hp : cp_521_0 N) (hC : C0 (cf_521_0 N)) : mz_G (d, mz_X0 L xs, some .int, [], mk_521, 3, Q) 0 mk_521 [(0, .ref 232)] [] true (mz_k S R N b t) := by
  unfold cf_521_0 at hC
  unfold cp_521_0 at hp
  refine g_iconst mzi_0 (g_istore_n (Nat.le_of_ble_eq_true rfl) rfl (g_iconst mzi_0 (g_istore_n (Nat.le_of_ble_eq_true rfl) rfl ?_)))
  refine g_weak ?_ (g_cl (cg_521_4 hd hS hR 0 0 N hr hp hC))
  exact ⟨rfl, rfl, rfl, trivial⟩
theorem cs_521 (hd : 1 ≤ d) (hS : mz_extR S 342) (hR : mz_rok R 342)  (N : mz_N) (hp : cp_521_0 N) (hq : Q (.inl (some (.int (cf_521_0 N)))) (mz_k S R N b t)) : mz_Ed (mz_X0 L xs) d 521 [.ref 232] (mz_k S R N b t) Q :=
  by
  refine g_in mzq_521 (Nat.le_of_ble_eq_true rfl) (Nat.le_of_ble_eq_true rfl) (Nat.le_trans (Nat.le_of_ble_eq_true rfl) hd) ?_
  refine g_weak ?_ (cg_521_0 (d := d - 1) (by omega) hS hR N (C0 := fun z => Q (.inl (some (.int z))) (mz_k S R N b t)) (fun _ h => h) hp hq)
  exact ⟨rfl, trivial⟩
/-! 520 KeptHouseModel.shedAll (I)V -/
theorem ms_520_0 : mz_sf mk_520 0 = mk_520 := mz_sf_zero _
theorem ms_520_17 : mz_sf mk_520 17 = mt_520_17 := mz_sf_add ms_520_0 (t := 17) rfl rfl
theorem ms_520_51 : mz_sf mk_520 51 = mt_520_51 := mz_sf_add ms_520_17 (t := 34) rfl rfl
theorem ms_520_55 : mz_sf mk_520 55 = mt_520_55 := mz_sf_add ms_520_51 (t := 4) rfl rfl
theorem ms_520_56 : mz_sf mk_520 56 = mt_520_56 := mz_sf_add ms_520_55 (t := 1) rfl rfl
theorem ms_520_63 : mz_sf mk_520 63 = mt_520_63 := mz_sf_add ms_520_56 (t := 7) rfl rfl
theorem ms_520_84 : mz_sf mk_520 84 = mt_520_84 := mz_sf_add ms_520_63 (t := 21) rfl rfl
theorem ms_520_87 : mz_sf mk_520 87 = mt_520_87 := mz_sf_add ms_520_84 (t := 3) rfl rfl
theorem ms_520_109 : mz_sf mk_520 109 = mt_520_109 := mz_sf_add ms_520_87 (t := 22) rfl rfl
theorem ms_520_110 : mz_sf mk_520 110 = mt_520_110 := mz_sf_add ms_520_109 (t := 1) rfl rfl
set_option maxRecDepth 100000 in
theorem mzq_520 : mz_PG0 520 = some (12, ⟨"KeptHouseModel", "shedAll", "(I)V"⟩, prog_14_method_89_code, 4, none, [], mk_520, []) := rfl
theorem cg_520_56 (hd : 1 ≤ d) (hS : mz_extR S 342) (hR : mz_rok R 342)  (s0 : Int32) (v1 : Int32) (v3 : Int32) (N : mz_N) {C0 : (mz_N) → Prop} (hr : ∀ (N2 : mz_N), C0 N2 → Q (.inl none) (mz_k S R N2 b t)) {C1 : ((mz_N) ⊕ (mz_N)) → Prop} (hc1 : ∀ s2, C1 (.inl s2) → mz_G (d, mz_X0 L xs, none, [], mk_520, 4, Q) 0 mk_520 [(0, .ref 232), (1, .int v1)] [] false (mz_k S R s2 b t)) (hx1 : ∀ z, C1 (.inr z) → C0 z) {C2 : ((Int32 × Int32) ⊕ ((mz_N) ⊕ (mz_N))) → Prop} (hc2 : ∀ s2, C2 (.inl s2) → mz_G (d, mz_X0 L xs, none, [], mk_520, 4, Q) 17 mt_520_17 [(0, .ref 232), (1, .int v1), (2, .int s2.1), (3, .int s2.2)] [] false (mz_k S R N b t)) (hx2 : ∀ z, C2 (.inr z) → C1 z) (hp : cp_520_56 s0 v1 v3 N) (hC : C2 (cf_520_56 s0 v1 v3 N)) : mz_G (d, mz_X0 L xs, none, [], mk_520, 4, Q) 56 mt_520_56 [(0, .ref 232), (1, .int v1), (3, .int v3)] [.int s0] false (mz_k S R N b t) := by
  unfold cf_520_56 at hC
  unfold cp_520_56 at hp
  refine g_istore_n (Nat.le_of_ble_eq_true rfl) rfl (g_iinc rfl mzi_1 (Nat.le_of_ble_eq_true rfl) rfl (g_goto (tg := 17) rfl ms_520_17 ?_))
  refine g_weak ?_ (g_cl (hc2 (s0, (v3 + 1)) hC))
  exact ⟨rfl, rfl, rfl, rfl, trivial⟩
theorem cg_520_51 (hd : 1 ≤ d) (hS : mz_extR S 342) (hR : mz_rok R 342)  (v1 : Int32) (v3 : Int32) (N : mz_N) {C0 : (mz_N) → Prop} (hr : ∀ (N2 : mz_N), C0 N2 → Q (.inl none) (mz_k S R N2 b t)) {C1 : ((mz_N) ⊕ (mz_N)) → Prop} (hc1 : ∀ s2, C1 (.inl s2) → mz_G (d, mz_X0 L xs, none, [], mk_520, 4, Q) 0 mk_520 [(0, .ref 232), (1, .int v1)] [] false (mz_k S R s2 b t)) (hx1 : ∀ z, C1 (.inr z) → C0 z) {C2 : ((Int32 × Int32) ⊕ ((mz_N) ⊕ (mz_N))) → Prop} (hc2 : ∀ s2, C2 (.inl s2) → mz_G (d, mz_X0 L xs, none, [], mk_520, 4, Q) 17 mt_520_17 [(0, .ref 232), (1, .int v1), (2, .int s2.1), (3, .int s2.2)] [] false (mz_k S R N b t)) (hx2 : ∀ z, C2 (.inr z) → C1 z) (hp : cp_520_51 v1 v3 N) (hC : C2 (cf_520_51 v1 v3 N)) : mz_G (d, mz_X0 L xs, none, [], mk_520, 4, Q) 51 mt_520_51 [(0, .ref 232), (1, .int v1), (3, .int v3)] [] false (mz_k S R N b t) := by
  unfold cf_520_51 at hC
  unfold cp_520_51 at hp
  refine g_iload_n rfl (g_goto (tg := 56) rfl ms_520_56 ?_)
  refine g_weak ?_ (g_cl (cg_520_56 hd hS hR v3 v1 v3 N hr hc1 hx1 hc2 hx2 hp hC))
  exact ⟨rfl, rfl, rfl, trivial⟩
theorem cg_520_84 (hd : 1 ≤ d) (hS : mz_extR S 342) (hR : mz_rok R 342)  (v1 : Int32) (N : mz_N) {C0 : (mz_N) → Prop} (hr : ∀ (N2 : mz_N), C0 N2 → Q (.inl none) (mz_k S R N2 b t)) {C1 : ((mz_N) ⊕ (mz_N)) → Prop} (hc1 : ∀ s2, C1 (.inl s2) → mz_G (d, mz_X0 L xs, none, [], mk_520, 4, Q) 0 mk_520 [(0, .ref 232), (1, .int v1)] [] false (mz_k S R s2 b t)) (hx1 : ∀ z, C1 (.inr z) → C0 z) (hp : cp_520_84 v1 N) (hC : C1 (cf_520_84 v1 N)) : mz_G (d, mz_X0 L xs, none, [], mk_520, 4, Q) 84 mt_520_84 [(0, .ref 232), (1, .int v1)] [] false (mz_k S R N b t) := by
  unfold cf_520_84 at hC
  unfold cp_520_84 at hp
  refine g_goto (tg := 0) rfl ms_520_0 ?_
  refine g_weak ?_ (g_cl (hc1 (N) hC))
  exact ⟨rfl, rfl, trivial⟩
theorem cg_520_55 (hd : 1 ≤ d) (hS : mz_extR S 342) (hR : mz_rok R 342)  (v1 : Int32) (v2 : Int32) (v3 : Int32) (N : mz_N) {C0 : (mz_N) → Prop} (hr : ∀ (N2 : mz_N), C0 N2 → Q (.inl none) (mz_k S R N2 b t)) {C1 : ((mz_N) ⊕ (mz_N)) → Prop} (hc1 : ∀ s2, C1 (.inl s2) → mz_G (d, mz_X0 L xs, none, [], mk_520, 4, Q) 0 mk_520 [(0, .ref 232), (1, .int v1)] [] false (mz_k S R s2 b t)) (hx1 : ∀ z, C1 (.inr z) → C0 z) {C2 : ((Int32 × Int32) ⊕ ((mz_N) ⊕ (mz_N))) → Prop} (hc2 : ∀ s2, C2 (.inl s2) → mz_G (d, mz_X0 L xs, none, [], mk_520, 4, Q) 17 mt_520_17 [(0, .ref 232), (1, .int v1), (2, .int s2.1), (3, .int s2.2)] [] false (mz_k S R N b t)) (hx2 : ∀ z, C2 (.inr z) → C1 z) (hp : cp_520_55 v1 v2 v3 N) (hC : C2 (cf_520_55 v1 v2 v3 N)) : mz_G (d, mz_X0 L xs, none, [], mk_520, 4, Q) 55 mt_520_55 [(0, .ref 232), (1, .int v1), (2, .int v2), (3, .int v3)] [] false (mz_k S R N b t) := by
  unfold cf_520_55 at hC
  unfold cp_520_55 at hp
  refine g_iload_n rfl ?_
  refine g_weak ?_ (g_cl (cg_520_56 hd hS hR v2 v1 v3 N hr hc1 hx1 hc2 hx2 hp hC))
  exact ⟨rfl, rfl, rfl, trivial⟩
theorem cb_520_17 (hd : 1 ≤ d) (hS : mz_extR S 342) (hR : mz_rok R 342)  (v1 : Int32) (N : mz_N) (s : Int32 × Int32) {C0 : (mz_N) → Prop} (hr : ∀ (N2 : mz_N), C0 N2 → Q (.inl none) (mz_k S R N2 b t)) {C1 : ((mz_N) ⊕ (mz_N)) → Prop} (hc1 : ∀ s2, C1 (.inl s2) → mz_G (d, mz_X0 L xs, none, [], mk_520, 4, Q) 0 mk_520 [(0, .ref 232), (1, .int v1)] [] false (mz_k S R s2 b t)) (hx1 : ∀ z, C1 (.inr z) → C0 z) {C2 : ((Int32 × Int32) ⊕ ((mz_N) ⊕ (mz_N))) → Prop} (hc2 : ∀ s2, C2 (.inl s2) → mz_G (d, mz_X0 L xs, none, [], mk_520, 4, Q) 17 mt_520_17 [(0, .ref 232), (1, .int v1), (2, .int s2.1), (3, .int s2.2)] [] false (mz_k S R N b t)) (hx2 : ∀ z, C2 (.inr z) → C1 z) (hp : cd_520_17 v1 N s) (hC : C2 (cq_520_17 v1 N s)) : mz_G (d, mz_X0 L xs, none, [], mk_520, 4, Q) 17 mt_520_17 [(0, .ref 232), (1, .int v1), (2, .int s.1), (3, .int s.2)] [] false (mz_k S R N b t) := by
  unfold cq_520_17 at hC
  unfold cd_520_17 at hp
  refine g_iload_n rfl (g_bipush mzb_11 ?_)
  refine g_icge (tg := 63) rfl ms_520_63 hC (fun h1 hC => ?_) (fun h1 hC => ?_)
  · have hp := hp.1 h1
    refine g_aload_n rfl (g_getR (mz_at hS (Nat.le_of_ble_eq_true rfl) mzcS_232) mzcf_12_56 (mz_rb hR (Nat.le_of_ble_eq_true rfl) rfl mzcR_232_56) (g_iload_n rfl ?_))
    obtain ⟨h2, hp⟩ := hp
    refine g_iald hS.1 (mz_at hS (Nat.le_of_ble_eq_true rfl) mzcS_272) h2 ?_
    refine g_ifle (tg := 55) rfl ms_520_55 hC (fun h3 hC => ?_) (fun h3 hC => ?_)
    · have hp := hp.1 h3
      refine g_iload_n rfl ?_
      refine g_iflt (tg := 51) rfl ms_520_51 hC (fun h4 hC => ?_) (fun h4 hC => ?_)
      · have hp := hp.1 h4
        refine g_weak ?_ (g_cl (cg_520_51 hd hS hR v1 s.2 N hr hc1 hx1 hc2 hx2 hp hC))
        exact ⟨rfl, rfl, rfl, trivial⟩
      · have hp := hp.2 h4
        refine g_aload_n rfl (g_getR (mz_at hS (Nat.le_of_ble_eq_true rfl) mzcS_232) mzcf_12_20 (mz_rb hR (Nat.le_of_ble_eq_true rfl) rfl mzcR_232_20) (g_iload_n rfl ?_))
        obtain ⟨h5, hp⟩ := hp
        refine g_iald hS.1 (mz_at hS (Nat.le_of_ble_eq_true rfl) mzcS_248) h5 (g_aload_n rfl (g_getR (mz_at hS (Nat.le_of_ble_eq_true rfl) mzcS_232) mzcf_12_20 (mz_rb hR (Nat.le_of_ble_eq_true rfl) rfl mzcR_232_20) (g_iload_n rfl ?_)))
        obtain ⟨h6, hp⟩ := hp
        refine g_iald hS.1 (mz_at hS (Nat.le_of_ble_eq_true rfl) mzcS_248) h6 ?_
        refine g_iclt (tg := 55) rfl ms_520_55 hC (fun h7 hC => ?_) (fun h7 hC => ?_)
        · have hp := hp.1 h7
          refine g_weak ?_ (g_cl (cg_520_55 hd hS hR v1 s.1 s.2 N hr hc1 hx1 hc2 hx2 hp hC))
          exact ⟨rfl, rfl, rfl, rfl, trivial⟩
        · have hp := hp.2 h7
          refine g_weak ?_ (g_cl (cg_520_51 hd hS hR v1 s.2 N hr hc1 hx1 hc2 hx2 hp hC))
          exact ⟨rfl, rfl, rfl, trivial⟩
    · have hp := hp.2 h3
      refine g_weak ?_ (g_cl (cg_520_55 hd hS hR v1 s.1 s.2 N hr hc1 hx1 hc2 hx2 hp hC))
      exact ⟨rfl, rfl, rfl, rfl, trivial⟩
  · have hp := hp.2 h1
    refine g_aload_n rfl (g_getR (mz_at hS (Nat.le_of_ble_eq_true rfl) mzcS_232) mzcf_12_56 (mz_rb hR (Nat.le_of_ble_eq_true rfl) rfl mzcR_232_56) (g_iload_n rfl (g_iconst mzi_0 ?_)))
    obtain ⟨h8, hp⟩ := hp
    refine g_iast (mz_at hS (Nat.le_of_ble_eq_true rfl) mzcS_272) h8 (g_aload_n rfl (g_getR (mz_at hS (Nat.le_of_ble_eq_true rfl) mzcS_232) mzcf_12_57 (mz_rb hR (Nat.le_of_ble_eq_true rfl) rfl mzcR_232_57) (g_iload_n rfl (g_iconst mzi_1 ?_))))
    obtain ⟨h9, hp⟩ := hp
    refine g_zast (z := true) (mz_at hS (Nat.le_of_ble_eq_true rfl) mzcS_273) h9 (g_aload_n rfl (g_getR (mz_at hS (Nat.le_of_ble_eq_true rfl) mzcS_232) mzcf_12_60 (mz_rb hR (Nat.le_of_ble_eq_true rfl) rfl mzcR_232_60) (g_iload_n rfl (g_iconst mzi_0 ?_))))
    obtain ⟨h10, hp⟩ := hp
    refine g_zast (z := false) (mz_at hS (Nat.le_of_ble_eq_true rfl) mzcS_276) h10 ?_
    refine g_weak ?_ (g_cl (cg_520_84 hd hS hR v1 (mz_wI (mz_wI (mz_wI N 272 s.1 0) 273 s.1 (mz_b01 true)) 276 s.1 (mz_b01 false)) hr hc1 hx1 hp (hx2 _ hC)))
    exact ⟨rfl, rfl, trivial⟩
theorem cg_520_17 (hd : 1 ≤ d) (hS : mz_extR S 342) (hR : mz_rok R 342)  (v1 : Int32) (v2 : Int32) (v3 : Int32) (N : mz_N) {C0 : (mz_N) → Prop} (hr : ∀ (N2 : mz_N), C0 N2 → Q (.inl none) (mz_k S R N2 b t)) {C1 : ((mz_N) ⊕ (mz_N)) → Prop} (hc1 : ∀ s2, C1 (.inl s2) → mz_G (d, mz_X0 L xs, none, [], mk_520, 4, Q) 0 mk_520 [(0, .ref 232), (1, .int v1)] [] false (mz_k S R s2 b t)) (hx1 : ∀ z, C1 (.inr z) → C0 z) (hp : cp_520_17 v1 v2 v3 N) (hC : C1 (cf_520_17 v1 v2 v3 N)) : mz_G (d, mz_X0 L xs, none, [], mk_520, 4, Q) 17 mt_520_17 [(0, .ref 232), (1, .int v1), (2, .int v2), (3, .int v3)] [] false (mz_k S R N b t) := by
  obtain ⟨n, hn⟩ := hp
  exact g_loop (G := fun s => mz_G (d, mz_X0 L xs, none, [], mk_520, 4, Q) 17 mt_520_17 [(0, .ref 232), (1, .int v1), (2, .int s.1), (3, .int s.2)] [] false (mz_k S R N b t)) (C := C1) (fun C2 hc hx s hP hC => cb_520_17 hd hS hR v1 N s hr hc1 hx1 hc hx hP hC) n (v2, v3) hn hC
theorem cg_520_110 (hd : 1 ≤ d) (hS : mz_extR S 342) (hR : mz_rok R 342)  (s1 : Int32) (s2 : Int32) (N : mz_N) {C0 : (mz_N) → Prop} (hr : ∀ (N2 : mz_N), C0 N2 → Q (.inl none) (mz_k S R N2 b t)) (hp : cp_520_110 s1 s2 N) (hC : C0 (cf_520_110 s1 s2 N)) : mz_G (d, mz_X0 L xs, none, [], mk_520, 4, Q) 110 mt_520_110 [] [.int s2, .int s1, .ref 232] false (mz_k S R N b t) := by
  unfold cf_520_110 at hC
  unfold cp_520_110 at hp
  refine g_isub (g_putI (mz_at hS (Nat.le_of_ble_eq_true rfl) mzcS_232) mzcf_12_54 ?_)
  exact g_vret rfl (hr _ hC)
theorem cb_520_0 (hd : 1 ≤ d) (hS : mz_extR S 342) (hR : mz_rok R 342)  (v1 : Int32) (s : mz_N) {C0 : (mz_N) → Prop} (hr : ∀ (N2 : mz_N), C0 N2 → Q (.inl none) (mz_k S R N2 b t)) {C1 : ((mz_N) ⊕ (mz_N)) → Prop} (hc1 : ∀ s2, C1 (.inl s2) → mz_G (d, mz_X0 L xs, none, [], mk_520, 4, Q) 0 mk_520 [(0, .ref 232), (1, .int v1)] [] false (mz_k S R s2 b t)) (hx1 : ∀ z, C1 (.inr z) → C0 z) (hp : cd_520_0 v1 s) (hC : C1 (cq_520_0 v1 s)) : mz_G (d, mz_X0 L xs, none, [], mk_520, 4, Q) 0 mk_520 [(0, .ref 232), (1, .int v1)] [] false (mz_k S R s b t) := by
  unfold cq_520_0 at hC
  unfold cd_520_0 at hp
  refine g_aload_n rfl ?_
  obtain ⟨h1, hp⟩ := hp
  refine g_v1v (Nat.le_of_ble_eq_true rfl) (mz_at hS (Nat.le_of_ble_eq_true rfl) mzcS_232) (fun _ hq => cs_521 (Nat.le_trans (Nat.le_of_ble_eq_true rfl) hd) (hS.le (Nat.le_of_ble_eq_true rfl)) (hR.le (Nat.le_of_ble_eq_true rfl))  s h1 hq) (g_iload_n rfl (g_aload_n rfl (g_getI (mz_at hS (Nat.le_of_ble_eq_true rfl) mzcS_232) mzcf_12_54 (g_iadd ?_))))
  refine g_icle (tg := 87) rfl ms_520_87 hC (fun h2 hC => ?_) (fun h2 hC => ?_)
  · have hp := hp.1 h2
    refine g_iconst mzi_m1 (g_istore_n (Nat.le_of_ble_eq_true rfl) rfl (g_iconst mzi_0 (g_istore_n (Nat.le_of_ble_eq_true rfl) rfl ?_)))
    refine g_weak ?_ (g_cl (cg_520_17 hd hS hR v1 (-1) 0 s hr hc1 hx1 hp hC))
    exact ⟨rfl, rfl, rfl, rfl, trivial⟩
  · have hp := hp.2 h2
    refine g_aload_n rfl (g_dup rfl (g_getI (mz_at hS (Nat.le_of_ble_eq_true rfl) mzcS_232) mzcf_12_54 (g_aload_n rfl ?_)))
    obtain ⟨h3, hp⟩ := hp
    refine g_v1v (Nat.le_of_ble_eq_true rfl) (mz_at hS (Nat.le_of_ble_eq_true rfl) mzcS_232) (fun _ hq => cs_521 (Nat.le_trans (Nat.le_of_ble_eq_true rfl) hd) (hS.le (Nat.le_of_ble_eq_true rfl)) (hR.le (Nat.le_of_ble_eq_true rfl))  s h3 hq) (g_iload_n rfl ?_)
    refine g_icle (tg := 109) rfl ms_520_109 hC (fun h4 hC => ?_) (fun h4 hC => ?_)
    · have hp := hp.1 h4
      refine g_aload_n rfl ?_
      obtain ⟨h5, hp⟩ := hp
      refine g_v1v (Nat.le_of_ble_eq_true rfl) (mz_at hS (Nat.le_of_ble_eq_true rfl) mzcS_232) (fun _ hq => cs_521 (Nat.le_trans (Nat.le_of_ble_eq_true rfl) hd) (hS.le (Nat.le_of_ble_eq_true rfl)) (hR.le (Nat.le_of_ble_eq_true rfl))  s h5 hq) (g_iload_n rfl (g_isub (g_goto (tg := 110) rfl ms_520_110 ?_)))
      refine g_weak ?_ (g_cl (cg_520_110 hd hS hR (s.1 232 54) ((cf_521_0 s) - v1) s hr hp (hx1 _ hC)))
      exact trivial
    · have hp := hp.2 h4
      refine g_iconst mzi_0 ?_
      refine g_weak ?_ (g_cl (cg_520_110 hd hS hR (s.1 232 54) 0 s hr hp (hx1 _ hC)))
      exact trivial
theorem cg_520_0 (hd : 1 ≤ d) (hS : mz_extR S 342) (hR : mz_rok R 342)  (v1 : Int32) (N : mz_N) {C0 : (mz_N) → Prop} (hr : ∀ (N2 : mz_N), C0 N2 → Q (.inl none) (mz_k S R N2 b t)) (hp : cp_520_0 v1 N) (hC : C0 (cf_520_0 v1 N)) : mz_G (d, mz_X0 L xs, none, [], mk_520, 4, Q) 0 mk_520 [(0, .ref 232), (1, .int v1)] [] false (mz_k S R N b t) := by
  obtain ⟨n, hn⟩ := hp
  exact g_loop (G := fun s => mz_G (d, mz_X0 L xs, none, [], mk_520, 4, Q) 0 mk_520 [(0, .ref 232), (1, .int v1)] [] false (mz_k S R s b t)) (C := C0) (fun C2 hc hx s hP hC => cb_520_0 hd hS hR v1 s hr hc hx hP hC) n (N) hn hC
theorem cs_520 (hd : 2 ≤ d) (hS : mz_extR S 342) (hR : mz_rok R 342)  (v1 : Int32) (N : mz_N) (hp : cp_520_0 v1 N) (hq : Q (.inl none) (mz_k S R (cf_520_0 v1 N) b t)) : mz_Ed (mz_X0 L xs) d 520 [.ref 232, .int v1] (mz_k S R N b t) Q :=
  by
  refine g_in mzq_520 (Nat.le_of_ble_eq_true rfl) (Nat.le_of_ble_eq_true rfl) (Nat.le_trans (Nat.le_of_ble_eq_true rfl) hd) ?_
  refine g_weak ?_ (g_cl (cg_520_0 (d := d - 1) (by omega) hS hR v1 N (C0 := fun z => Q (.inl none) (mz_k S R z b t)) (fun _ h => h) hp hq))
  exact ⟨rfl, rfl, trivial⟩
/-! 518 KeptHouseModel.power (I)V -/
theorem ms_518_0 : mz_sf mk_518 0 = mk_518 := mz_sf_zero _
theorem ms_518_2 : mz_sf mk_518 2 = mt_518_2 := mz_sf_add ms_518_0 (t := 2) rfl rfl
theorem ms_518_21 : mz_sf mk_518 21 = mt_518_21 := mz_sf_add ms_518_2 (t := 19) rfl rfl
theorem ms_518_22 : mz_sf mk_518 22 = mt_518_22 := mz_sf_add ms_518_21 (t := 1) rfl rfl
theorem ms_518_43 : mz_sf mk_518 43 = mt_518_43 := mz_sf_add ms_518_22 (t := 21) rfl rfl
theorem ms_518_52 : mz_sf mk_518 52 = mt_518_52 := mz_sf_add ms_518_43 (t := 9) rfl rfl
theorem ms_518_53 : mz_sf mk_518 53 = mt_518_53 := mz_sf_add ms_518_52 (t := 1) rfl rfl
theorem ms_518_72 : mz_sf mk_518 72 = mt_518_72 := mz_sf_add ms_518_53 (t := 19) rfl rfl
theorem ms_518_87 : mz_sf mk_518 87 = mt_518_87 := mz_sf_add ms_518_72 (t := 15) rfl rfl
theorem ms_518_88 : mz_sf mk_518 88 = mt_518_88 := mz_sf_add ms_518_87 (t := 1) rfl rfl
theorem ms_518_122 : mz_sf mk_518 122 = mt_518_122 := mz_sf_add ms_518_88 (t := 34) rfl rfl
theorem ms_518_123 : mz_sf mk_518 123 = mt_518_123 := mz_sf_add ms_518_122 (t := 1) rfl rfl
theorem ms_518_136 : mz_sf mk_518 136 = mt_518_136 := mz_sf_add ms_518_123 (t := 13) rfl rfl
theorem ms_518_137 : mz_sf mk_518 137 = mt_518_137 := mz_sf_add ms_518_136 (t := 1) rfl rfl
theorem ms_518_141 : mz_sf mk_518 141 = mt_518_141 := mz_sf_add ms_518_137 (t := 4) rfl rfl
theorem ms_518_163 : mz_sf mk_518 163 = mt_518_163 := mz_sf_add ms_518_141 (t := 22) rfl rfl
theorem ms_518_164 : mz_sf mk_518 164 = mt_518_164 := mz_sf_add ms_518_163 (t := 1) rfl rfl
theorem ms_518_165 : mz_sf mk_518 165 = mt_518_165 := mz_sf_add ms_518_164 (t := 1) rfl rfl
theorem ms_518_181 : mz_sf mk_518 181 = mt_518_181 := mz_sf_add ms_518_165 (t := 16) rfl rfl
theorem ms_518_182 : mz_sf mk_518 182 = mt_518_182 := mz_sf_add ms_518_181 (t := 1) rfl rfl
theorem ms_518_189 : mz_sf mk_518 189 = mt_518_189 := mz_sf_add ms_518_182 (t := 7) rfl rfl
theorem ms_518_221 : mz_sf mk_518 221 = mt_518_221 := mz_sf_add ms_518_189 (t := 32) rfl rfl
theorem ms_518_228 : mz_sf mk_518 228 = mt_518_228 := mz_sf_add ms_518_221 (t := 7) rfl rfl
theorem ms_518_239 : mz_sf mk_518 239 = mt_518_239 := mz_sf_add ms_518_228 (t := 11) rfl rfl
theorem ms_518_268 : mz_sf mk_518 268 = mt_518_268 := mz_sf_add ms_518_239 (t := 29) rfl rfl
theorem ms_518_269 : mz_sf mk_518 269 = mt_518_269 := mz_sf_add ms_518_268 (t := 1) rfl rfl
theorem ms_518_288 : mz_sf mk_518 288 = mt_518_288 := mz_sf_add ms_518_269 (t := 19) rfl rfl
theorem ms_518_289 : mz_sf mk_518 289 = mt_518_289 := mz_sf_add ms_518_288 (t := 1) rfl rfl
theorem ms_518_317 : mz_sf mk_518 317 = mt_518_317 := mz_sf_add ms_518_289 (t := 28) rfl rfl
theorem ms_518_318 : mz_sf mk_518 318 = mt_518_318 := mz_sf_add ms_518_317 (t := 1) rfl rfl
theorem ms_518_321 : mz_sf mk_518 321 = mt_518_321 := mz_sf_add ms_518_318 (t := 3) rfl rfl
theorem ms_518_323 : mz_sf mk_518 323 = mt_518_323 := mz_sf_add ms_518_321 (t := 2) rfl rfl
theorem ms_518_384 : mz_sf mk_518 384 = mt_518_384 := mz_sf_add ms_518_323 (t := 61) rfl rfl
theorem ms_518_398 : mz_sf mk_518 398 = mt_518_398 := mz_sf_add ms_518_384 (t := 14) rfl rfl
theorem ms_518_406 : mz_sf mk_518 406 = mt_518_406 := mz_sf_add ms_518_398 (t := 8) rfl rfl
theorem ms_518_432 : mz_sf mk_518 432 = mt_518_432 := mz_sf_add ms_518_406 (t := 26) rfl rfl
theorem ms_518_436 : mz_sf mk_518 436 = mt_518_436 := mz_sf_add ms_518_432 (t := 4) rfl rfl
theorem ms_518_437 : mz_sf mk_518 437 = mt_518_437 := mz_sf_add ms_518_436 (t := 1) rfl rfl
theorem ms_518_454 : mz_sf mk_518 454 = mt_518_454 := mz_sf_add ms_518_437 (t := 17) rfl rfl
theorem ms_518_460 : mz_sf mk_518 460 = mt_518_460 := mz_sf_add ms_518_454 (t := 6) rfl rfl
set_option maxRecDepth 100000 in
theorem mzq_518 : mz_PG0 518 = some (12, ⟨"KeptHouseModel", "power", "(I)V"⟩, prog_14_method_87_code, 7, none, [], mk_518, []) := rfl
theorem cg_518_454 (hd : 2 ≤ d) (hS : mz_extR S 342) (hR : mz_rok R 342)  (v2 : Int32) (N : mz_N) {C0 : (mz_N) → Prop} (hr : ∀ (N2 : mz_N), C0 N2 → Q (.inl none) (mz_k S R N2 b t)) {C1 : ((Int32 × mz_N) ⊕ (mz_N)) → Prop} (hc1 : ∀ s2, C1 (.inl s2) → mz_G (d, mz_X0 L xs, none, [], mk_518, 7, Q) 323 mt_518_323 [(0, .ref 232), (2, .int s2.1)] [] false (mz_k S R s2.2 b t)) (hx1 : ∀ z, C1 (.inr z) → C0 z) (hp : cp_518_454 v2 N) (hC : C1 (cf_518_454 v2 N)) : mz_G (d, mz_X0 L xs, none, [], mk_518, 7, Q) 454 mt_518_454 [(0, .ref 232), (2, .int v2)] [] false (mz_k S R N b t) := by
  unfold cf_518_454 at hC
  unfold cp_518_454 at hp
  refine g_iinc rfl mzi_1 (Nat.le_of_ble_eq_true rfl) rfl (g_goto (tg := 323) rfl ms_518_323 ?_)
  refine g_weak ?_ (g_cl (hc1 ((v2 + 1), N) hC))
  exact ⟨rfl, rfl, trivial⟩
theorem cg_518_437 (hd : 2 ≤ d) (hS : mz_extR S 342) (hR : mz_rok R 342)  (s1 : Int32) (s2 : Bool) (v2 : Int32) (N : mz_N) {C0 : (mz_N) → Prop} (hr : ∀ (N2 : mz_N), C0 N2 → Q (.inl none) (mz_k S R N2 b t)) {C1 : ((Int32 × mz_N) ⊕ (mz_N)) → Prop} (hc1 : ∀ s2, C1 (.inl s2) → mz_G (d, mz_X0 L xs, none, [], mk_518, 7, Q) 323 mt_518_323 [(0, .ref 232), (2, .int s2.1)] [] false (mz_k S R s2.2 b t)) (hx1 : ∀ z, C1 (.inr z) → C0 z) (hp : cp_518_437 s1 s2 v2 N) (hC : C1 (cf_518_437 s1 s2 v2 N)) : mz_G (d, mz_X0 L xs, none, [], mk_518, 7, Q) 437 mt_518_437 [(0, .ref 232), (2, .int v2)] [.int (mz_b01 s2), .int s1, .ref 275] false (mz_k S R N b t) := by
  unfold cf_518_437 at hC
  unfold cp_518_437 at hp
  obtain ⟨h1, hp⟩ := hp
  refine g_zast (z := s2) (mz_at hS (Nat.le_of_ble_eq_true rfl) mzcS_275) h1 (g_aload_n rfl (g_getR (mz_at hS (Nat.le_of_ble_eq_true rfl) mzcS_232) mzcf_12_118 (mz_rb hR (Nat.le_of_ble_eq_true rfl) rfl mzcR_232_118) (g_iload_n rfl (g_dup2 rfl rfl ?_))))
  obtain ⟨h2, hp⟩ := hp
  refine g_lald (mz_at hS (Nat.le_of_ble_eq_true rfl) mzcS_322) h2 (g_aload_n rfl (g_getR (mz_at hS (Nat.le_of_ble_eq_true rfl) mzcS_232) mzcf_12_56 (mz_rb hR (Nat.le_of_ble_eq_true rfl) rfl mzcR_232_56) (g_iload_n rfl ?_)))
  obtain ⟨h3, hp⟩ := hp
  refine g_iald hS.1 (mz_at hS (Nat.le_of_ble_eq_true rfl) mzcS_272) h3 (g_i2l (g_ladd ?_))
  obtain ⟨h4, hp⟩ := hp
  refine g_last (mz_at hS (Nat.le_of_ble_eq_true rfl) mzcS_322) h4 ?_
  refine g_weak ?_ (g_cl (cg_518_454 hd hS hR v2 (mz_wL (mz_wI N 275 s1 (mz_b01 s2)) 322 v2 ((mz_gL (mz_wI N 275 s1 (mz_b01 s2)) 322 v2) + ((mz_gI (mz_wI N 275 s1 (mz_b01 s2)) 272 v2).toInt64))) hr hc1 hx1 hp hC))
  exact ⟨rfl, rfl, trivial⟩
theorem cg_518_432 (hd : 2 ≤ d) (hS : mz_extR S 342) (hR : mz_rok R 342)  (s1 : Int32) (v2 : Int32) (N : mz_N) {C0 : (mz_N) → Prop} (hr : ∀ (N2 : mz_N), C0 N2 → Q (.inl none) (mz_k S R N2 b t)) {C1 : ((Int32 × mz_N) ⊕ (mz_N)) → Prop} (hc1 : ∀ s2, C1 (.inl s2) → mz_G (d, mz_X0 L xs, none, [], mk_518, 7, Q) 323 mt_518_323 [(0, .ref 232), (2, .int s2.1)] [] false (mz_k S R s2.2 b t)) (hx1 : ∀ z, C1 (.inr z) → C0 z) (hp : cp_518_432 s1 v2 N) (hC : C1 (cf_518_432 s1 v2 N)) : mz_G (d, mz_X0 L xs, none, [], mk_518, 7, Q) 432 mt_518_432 [(0, .ref 232), (2, .int v2)] [.int s1, .ref 275] false (mz_k S R N b t) := by
  unfold cf_518_432 at hC
  unfold cp_518_432 at hp
  refine g_iconst mzi_1 (g_goto (tg := 437) rfl ms_518_437 ?_)
  refine g_weak ?_ (g_cl (cg_518_437 hd hS hR s1 true v2 N hr hc1 hx1 hp hC))
  exact ⟨rfl, rfl, trivial⟩
theorem cg_518_406 (hd : 2 ≤ d) (hS : mz_extR S 342) (hR : mz_rok R 342)  (s1 : Int32) (s2 : Int32) (v2 : Int32) (N : mz_N) {C0 : (mz_N) → Prop} (hr : ∀ (N2 : mz_N), C0 N2 → Q (.inl none) (mz_k S R N2 b t)) {C1 : ((Int32 × mz_N) ⊕ (mz_N)) → Prop} (hc1 : ∀ s2, C1 (.inl s2) → mz_G (d, mz_X0 L xs, none, [], mk_518, 7, Q) 323 mt_518_323 [(0, .ref 232), (2, .int s2.1)] [] false (mz_k S R s2.2 b t)) (hx1 : ∀ z, C1 (.inr z) → C0 z) (hp : cp_518_406 s1 s2 v2 N) (hC : C1 (cf_518_406 s1 s2 v2 N)) : mz_G (d, mz_X0 L xs, none, [], mk_518, 7, Q) 406 mt_518_406 [(0, .ref 232), (2, .int v2)] [.int s2, .int s1, .ref 274] false (mz_k S R N b t) := by
  unfold cf_518_406 at hC
  unfold cp_518_406 at hp
  obtain ⟨h1, hp⟩ := hp
  refine g_iast (mz_at hS (Nat.le_of_ble_eq_true rfl) mzcS_274) h1 (g_aload_n rfl (g_getR (mz_at hS (Nat.le_of_ble_eq_true rfl) mzcS_232) mzcf_12_59 (mz_rb hR (Nat.le_of_ble_eq_true rfl) rfl mzcR_232_59) (g_iload_n rfl (g_aload_n rfl (g_getR (mz_at hS (Nat.le_of_ble_eq_true rfl) mzcS_232) mzcf_12_59 (mz_rb hR (Nat.le_of_ble_eq_true rfl) rfl mzcR_232_59) (g_iload_n rfl ?_))))))
  obtain ⟨h2, hp⟩ := hp
  obtain ⟨h3, hp⟩ := hp
  refine g_zald (mz_at hS (Nat.le_of_ble_eq_true rfl) mzcS_275) h2 h3 ?_
  refine g_zne (tg := 432) rfl ms_518_432 hC (fun h4 hC => ?_) (fun h4 hC => ?_)
  · have hp := hp.1 h4
    refine g_weak ?_ (g_cl (cg_518_432 hd hS hR v2 v2 (mz_wI N 274 s1 s2) hr hc1 hx1 hp hC))
    exact ⟨rfl, rfl, trivial⟩
  · have hp := hp.2 h4
    refine g_aload_n rfl (g_getR (mz_at hS (Nat.le_of_ble_eq_true rfl) mzcS_232) mzcf_12_58 (mz_rb hR (Nat.le_of_ble_eq_true rfl) rfl mzcR_232_58) (g_iload_n rfl ?_))
    obtain ⟨h5, hp⟩ := hp
    refine g_iald hS.1 (mz_at hS (Nat.le_of_ble_eq_true rfl) mzcS_274) h5 (g_bipush mzb_50 ?_)
    refine g_iclt (tg := 436) rfl ms_518_436 hC (fun h6 hC => ?_) (fun h6 hC => ?_)
    · have hp := hp.1 h6
      refine g_iconst mzi_0 ?_
      refine g_weak ?_ (g_cl (cg_518_437 hd hS hR v2 false v2 (mz_wI N 274 s1 s2) hr hc1 hx1 hp hC))
      exact ⟨rfl, rfl, trivial⟩
    · have hp := hp.2 h6
      refine g_weak ?_ (g_cl (cg_518_432 hd hS hR v2 v2 (mz_wI N 274 s1 s2) hr hc1 hx1 hp hC))
      exact ⟨rfl, rfl, trivial⟩
theorem cb_518_323 (hd : 2 ≤ d) (hS : mz_extR S 342) (hR : mz_rok R 342)   (s : Int32 × mz_N) {C0 : (mz_N) → Prop} (hr : ∀ (N2 : mz_N), C0 N2 → Q (.inl none) (mz_k S R N2 b t)) {C1 : ((Int32 × mz_N) ⊕ (mz_N)) → Prop} (hc1 : ∀ s2, C1 (.inl s2) → mz_G (d, mz_X0 L xs, none, [], mk_518, 7, Q) 323 mt_518_323 [(0, .ref 232), (2, .int s2.1)] [] false (mz_k S R s2.2 b t)) (hx1 : ∀ z, C1 (.inr z) → C0 z) (hp : cd_518_323  s) (hC : C1 (cq_518_323  s)) : mz_G (d, mz_X0 L xs, none, [], mk_518, 7, Q) 323 mt_518_323 [(0, .ref 232), (2, .int s.1)] [] false (mz_k S R s.2 b t) := by
  unfold cq_518_323 at hC
  unfold cd_518_323 at hp
  refine g_iload_n rfl (g_bipush mzb_11 ?_)
  refine g_icge (tg := 460) rfl ms_518_460 hC (fun h1 hC => ?_) (fun h1 hC => ?_)
  · have hp := hp.1 h1
    refine g_aload_n rfl (g_getR (mz_at hS (Nat.le_of_ble_eq_true rfl) mzcS_232) mzcf_12_58 (mz_rb hR (Nat.le_of_ble_eq_true rfl) rfl mzcR_232_58) (g_iload_n rfl (g_aload_n rfl (g_getR (mz_at hS (Nat.le_of_ble_eq_true rfl) mzcS_232) mzcf_12_56 (mz_rb hR (Nat.le_of_ble_eq_true rfl) rfl mzcR_232_56) (g_iload_n rfl ?_)))))
    obtain ⟨h2, hp⟩ := hp
    refine g_iald hS.1 (mz_at hS (Nat.le_of_ble_eq_true rfl) mzcS_272) h2 (g_aload_n rfl (g_getR (mz_at hS (Nat.le_of_ble_eq_true rfl) mzcS_232) mzcf_12_19 (mz_rb hR (Nat.le_of_ble_eq_true rfl) rfl mzcR_232_19) (g_iload_n rfl ?_)))
    obtain ⟨h3, hp⟩ := hp
    refine g_iald hS.1 (mz_at hS (Nat.le_of_ble_eq_true rfl) mzcS_247) h3 ?_
    refine g_icle (tg := 384) rfl ms_518_384 hC (fun h4 hC => ?_) (fun h4 hC => ?_)
    · have hp := hp.1 h4
      refine g_aload_n rfl (g_getR (mz_at hS (Nat.le_of_ble_eq_true rfl) mzcS_232) mzcf_12_58 (mz_rb hR (Nat.le_of_ble_eq_true rfl) rfl mzcR_232_58) (g_iload_n rfl ?_))
      obtain ⟨h5, hp⟩ := hp
      refine g_iald hS.1 (mz_at hS (Nat.le_of_ble_eq_true rfl) mzcS_274) h5 (g_iconst mzi_1 (g_iadd (g_bipush mzb_10 (g_aload_n rfl (g_getR (mz_at hS (Nat.le_of_ble_eq_true rfl) mzcS_232) mzcf_12_56 (mz_rb hR (Nat.le_of_ble_eq_true rfl) rfl mzcR_232_56) (g_iload_n rfl ?_))))))
      obtain ⟨h6, hp⟩ := hp
      refine g_iald hS.1 (mz_at hS (Nat.le_of_ble_eq_true rfl) mzcS_272) h6 (g_aload_n rfl (g_getR (mz_at hS (Nat.le_of_ble_eq_true rfl) mzcS_232) mzcf_12_19 (mz_rb hR (Nat.le_of_ble_eq_true rfl) rfl mzcR_232_19) (g_iload_n rfl ?_)))
      obtain ⟨h7, hp⟩ := hp
      refine g_iald hS.1 (mz_at hS (Nat.le_of_ble_eq_true rfl) mzcS_247) h7 (g_isub (g_imul (g_aload_n rfl (g_getR (mz_at hS (Nat.le_of_ble_eq_true rfl) mzcS_232) mzcf_12_19 (mz_rb hR (Nat.le_of_ble_eq_true rfl) rfl mzcR_232_19) (g_iload_n rfl ?_)))))
      obtain ⟨h8, hp⟩ := hp
      refine g_iald hS.1 (mz_at hS (Nat.le_of_ble_eq_true rfl) mzcS_247) h8 ?_
      obtain ⟨h9, hp⟩ := hp
      refine g_idiv h9 (g_iadd (g_goto (tg := 406) rfl ms_518_406 ?_))
      refine g_weak ?_ (g_cl (cg_518_406 hd hS hR s.1 (((mz_gI s.2 274 s.1) + 1) + ((10 * ((mz_gI s.2 272 s.1) - (mz_gI s.2 247 s.1))) / (mz_gI s.2 247 s.1))) s.1 s.2 hr hc1 hx1 hp hC))
      exact ⟨rfl, rfl, trivial⟩
    · have hp := hp.2 h4
      refine g_aload_n rfl (g_getR (mz_at hS (Nat.le_of_ble_eq_true rfl) mzcS_232) mzcf_12_58 (mz_rb hR (Nat.le_of_ble_eq_true rfl) rfl mzcR_232_58) (g_iload_n rfl ?_))
      obtain ⟨h10, hp⟩ := hp
      refine g_iald hS.1 (mz_at hS (Nat.le_of_ble_eq_true rfl) mzcS_274) h10 (g_iconst mzi_2 ?_)
      refine g_icge (tg := 398) rfl ms_518_398 hC (fun h11 hC => ?_) (fun h11 hC => ?_)
      · have hp := hp.1 h11
        refine g_iconst mzi_0 (g_goto (tg := 406) rfl ms_518_406 ?_)
        refine g_weak ?_ (g_cl (cg_518_406 hd hS hR s.1 0 s.1 s.2 hr hc1 hx1 hp hC))
        exact ⟨rfl, rfl, trivial⟩
      · have hp := hp.2 h11
        refine g_aload_n rfl (g_getR (mz_at hS (Nat.le_of_ble_eq_true rfl) mzcS_232) mzcf_12_58 (mz_rb hR (Nat.le_of_ble_eq_true rfl) rfl mzcR_232_58) (g_iload_n rfl ?_))
        obtain ⟨h12, hp⟩ := hp
        refine g_iald hS.1 (mz_at hS (Nat.le_of_ble_eq_true rfl) mzcS_274) h12 (g_iconst mzi_2 (g_isub ?_))
        refine g_weak ?_ (g_cl (cg_518_406 hd hS hR s.1 ((mz_gI s.2 274 s.1) - 2) s.1 s.2 hr hc1 hx1 hp hC))
        exact ⟨rfl, rfl, trivial⟩
  · have hp := hp.2 h1
    exact g_vret rfl (hr _ (hx1 _ hC))
theorem cg_518_323 (hd : 2 ≤ d) (hS : mz_extR S 342) (hR : mz_rok R 342)  (v2 : Int32) (N : mz_N) {C0 : (mz_N) → Prop} (hr : ∀ (N2 : mz_N), C0 N2 → Q (.inl none) (mz_k S R N2 b t)) (hp : cp_518_323 v2 N) (hC : C0 (cf_518_323 v2 N)) : mz_G (d, mz_X0 L xs, none, [], mk_518, 7, Q) 323 mt_518_323 [(0, .ref 232), (2, .int v2)] [] false (mz_k S R N b t) := by
  obtain ⟨n, hn⟩ := hp
  exact g_loop (G := fun s => mz_G (d, mz_X0 L xs, none, [], mk_518, 7, Q) 323 mt_518_323 [(0, .ref 232), (2, .int s.1)] [] false (mz_k S R s.2 b t)) (C := C0) (fun C2 hc hx s hP hC => cb_518_323 hd hS hR  s hr hc hx hP hC) n (v2, N) hn hC
theorem cg_518_321 (hd : 2 ≤ d) (hS : mz_extR S 342) (hR : mz_rok R 342)  (N : mz_N) {C0 : (mz_N) → Prop} (hr : ∀ (N2 : mz_N), C0 N2 → Q (.inl none) (mz_k S R N2 b t)) (hp : cp_518_321 N) (hC : C0 (cf_518_321 N)) : mz_G (d, mz_X0 L xs, none, [], mk_518, 7, Q) 321 mt_518_321 [(0, .ref 232)] [] false (mz_k S R N b t) := by
  unfold cf_518_321 at hC
  unfold cp_518_321 at hp
  refine g_iconst mzi_0 (g_istore_n (Nat.le_of_ble_eq_true rfl) rfl ?_)
  refine g_weak ?_ (g_cl (cg_518_323 hd hS hR 0 N hr hp hC))
  exact ⟨rfl, rfl, trivial⟩
theorem cg_518_318 (hd : 2 ≤ d) (hS : mz_extR S 342) (hR : mz_rok R 342)  (s1 : Int32) (N : mz_N) {C0 : (mz_N) → Prop} (hr : ∀ (N2 : mz_N), C0 N2 → Q (.inl none) (mz_k S R N2 b t)) (hp : cp_518_318 s1 N) (hC : C0 (cf_518_318 s1 N)) : mz_G (d, mz_X0 L xs, none, [], mk_518, 7, Q) 318 mt_518_318 [(0, .ref 232)] [.int s1, .ref 232] false (mz_k S R N b t) := by
  unfold cf_518_318 at hC
  unfold cp_518_318 at hp
  obtain ⟨h1, hp⟩ := hp
  refine g_v2n (Nat.le_of_ble_eq_true rfl) (mz_at hS (Nat.le_of_ble_eq_true rfl) mzcS_232) (fun _ hq => cs_520 (Nat.le_trans (Nat.le_of_ble_eq_true rfl) hd) (hS.le (Nat.le_of_ble_eq_true rfl)) (hR.le (Nat.le_of_ble_eq_true rfl))  s1 N h1 hq) ?_
  refine g_weak ?_ (g_cl (cg_518_321 hd hS hR (cf_520_0 s1 N) hr hp hC))
  exact ⟨rfl, trivial⟩
theorem cg_518_289 (hd : 2 ≤ d) (hS : mz_extR S 342) (hR : mz_rok R 342)  (s1 : Int32) (s2 : Bool) (N : mz_N) {C0 : (mz_N) → Prop} (hr : ∀ (N2 : mz_N), C0 N2 → Q (.inl none) (mz_k S R N2 b t)) (hp : cp_518_289 s1 s2 N) (hC : C0 (cf_518_289 s1 s2 N)) : mz_G (d, mz_X0 L xs, none, [], mk_518, 7, Q) 289 mt_518_289 [(0, .ref 232)] [.int (mz_b01 s2), .int s1, .ref 232] false (mz_k S R N b t) := by
  unfold cf_518_289 at hC
  unfold cp_518_289 at hp
  refine g_isub (g_putI (mz_at hS (Nat.le_of_ble_eq_true rfl) mzcS_232) mzcf_12_53 (g_aload_n rfl (g_dup rfl (g_getI (mz_at hS (Nat.le_of_ble_eq_true rfl) mzcS_232) mzcf_12_55 (g_iconst mzi_1 (g_iadd (g_putI (mz_at hS (Nat.le_of_ble_eq_true rfl) mzcS_232) mzcf_12_55 ?_)))))))
  refine g_aload_n rfl (g_aload_n rfl ?_)
  obtain ⟨h1, hp⟩ := hp
  refine g_getZ (mz_at hS (Nat.le_of_ble_eq_true rfl) mzcS_232) mzcf_12_65 h1 ?_
  refine g_zeq (tg := 317) rfl ms_518_317 hC (fun h2 hC => ?_) (fun h2 hC => ?_)
  · have hp := hp.1 h2
    refine g_sipush mzs_150 (g_goto (tg := 318) rfl ms_518_318 ?_)
    refine g_weak ?_ (g_cl (cg_518_318 hd hS hR 150 (mz_pI (mz_pI N 232 53 (s1 - (mz_b01 s2))) 232 55 (((mz_pI N 232 53 (s1 - (mz_b01 s2))).1 232 55) + 1)) hr hp hC))
    exact ⟨rfl, trivial⟩
  · have hp := hp.2 h2
    refine g_iconst mzi_0 ?_
    refine g_weak ?_ (g_cl (cg_518_318 hd hS hR 0 (mz_pI (mz_pI N 232 53 (s1 - (mz_b01 s2))) 232 55 (((mz_pI N 232 53 (s1 - (mz_b01 s2))).1 232 55) + 1)) hr hp hC))
    exact ⟨rfl, trivial⟩
theorem cg_518_269 (hd : 2 ≤ d) (hS : mz_extR S 342) (hR : mz_rok R 342)  (s1 : Bool) (N : mz_N) {C0 : (mz_N) → Prop} (hr : ∀ (N2 : mz_N), C0 N2 → Q (.inl none) (mz_k S R N2 b t)) (hp : cp_518_269 s1 N) (hC : C0 (cf_518_269 s1 N)) : mz_G (d, mz_X0 L xs, none, [], mk_518, 7, Q) 269 mt_518_269 [(0, .ref 232)] [.int (mz_b01 s1), .ref 232] false (mz_k S R N b t) := by
  unfold cf_518_269 at hC
  unfold cp_518_269 at hp
  refine g_putZ (z := s1) (mz_at hS (Nat.le_of_ble_eq_true rfl) mzcS_232) mzcf_12_65 (g_aload_n rfl (g_dup rfl (g_getI (mz_at hS (Nat.le_of_ble_eq_true rfl) mzcS_232) mzcf_12_53 (g_aload_n rfl ?_))))
  obtain ⟨h1, hp⟩ := hp
  refine g_getZ (mz_at hS (Nat.le_of_ble_eq_true rfl) mzcS_232) mzcf_12_65 h1 ?_
  refine g_zeq (tg := 288) rfl ms_518_288 hC (fun h2 hC => ?_) (fun h2 hC => ?_)
  · have hp := hp.1 h2
    refine g_iconst mzi_1 (g_goto (tg := 289) rfl ms_518_289 ?_)
    refine g_weak ?_ (g_cl (cg_518_289 hd hS hR ((mz_pI N 232 65 (mz_b01 s1)).1 232 53) true (mz_pI N 232 65 (mz_b01 s1)) hr hp hC))
    exact ⟨rfl, trivial⟩
  · have hp := hp.2 h2
    refine g_iconst mzi_0 ?_
    refine g_weak ?_ (g_cl (cg_518_289 hd hS hR ((mz_pI N 232 65 (mz_b01 s1)).1 232 53) false (mz_pI N 232 65 (mz_b01 s1)) hr hp hC))
    exact ⟨rfl, trivial⟩
theorem cg_518_268 (hd : 2 ≤ d) (hS : mz_extR S 342) (hR : mz_rok R 342)  (N : mz_N) {C0 : (mz_N) → Prop} (hr : ∀ (N2 : mz_N), C0 N2 → Q (.inl none) (mz_k S R N2 b t)) (hp : cp_518_268 N) (hC : C0 (cf_518_268 N)) : mz_G (d, mz_X0 L xs, none, [], mk_518, 7, Q) 268 mt_518_268 [(0, .ref 232)] [.ref 232] false (mz_k S R N b t) := by
  unfold cf_518_268 at hC
  unfold cp_518_268 at hp
  refine g_iconst mzi_0 ?_
  refine g_weak ?_ (g_cl (cg_518_269 hd hS hR false N hr hp hC))
  exact ⟨rfl, trivial⟩
theorem cg_518_228 (hd : 2 ≤ d) (hS : mz_extR S 342) (hR : mz_rok R 342)  (s1 : Int32) (N : mz_N) {C0 : (mz_N) → Prop} (hr : ∀ (N2 : mz_N), C0 N2 → Q (.inl none) (mz_k S R N2 b t)) (hp : cp_518_228 s1 N) (hC : C0 (cf_518_228 s1 N)) : mz_G (d, mz_X0 L xs, none, [], mk_518, 7, Q) 228 mt_518_228 [(0, .ref 232)] [.int s1, .ref 232] false (mz_k S R N b t) := by
  unfold cf_518_228 at hC
  unfold cp_518_228 at hp
  refine g_putI (mz_at hS (Nat.le_of_ble_eq_true rfl) mzcS_232) mzcf_12_54 (g_aload_n rfl (g_iconst mzi_0 (g_putI (mz_at hS (Nat.le_of_ble_eq_true rfl) mzcS_232) mzcf_12_55 (g_goto (tg := 321) rfl ms_518_321 ?_))))
  refine g_weak ?_ (g_cl (cg_518_321 hd hS hR (mz_pI (mz_pI N 232 54 s1) 232 55 0) hr hp hC))
  exact ⟨rfl, trivial⟩
theorem cg_518_182 (hd : 2 ≤ d) (hS : mz_extR S 342) (hR : mz_rok R 342)  (s1 : Int32) (s2 : Int32) (v1 : Int32) (v2 : Int32) (N : mz_N) {C0 : (mz_N) → Prop} (hr : ∀ (N2 : mz_N), C0 N2 → Q (.inl none) (mz_k S R N2 b t)) {C1 : ((Int32 × mz_N) ⊕ (mz_N)) → Prop} (hc1 : ∀ s2, C1 (.inl s2) → mz_G (d, mz_X0 L xs, none, [], mk_518, 7, Q) 2 mt_518_2 [(0, .ref 232), (1, .int v1), (2, .int s2.1)] [] false (mz_k S R s2.2 b t)) (hx1 : ∀ z, C1 (.inr z) → C0 z) (hp : cp_518_182 s1 s2 v1 v2 N) (hC : C1 (cf_518_182 s1 s2 v1 v2 N)) : mz_G (d, mz_X0 L xs, none, [], mk_518, 7, Q) 182 mt_518_182 [(0, .ref 232), (1, .int v1), (2, .int v2)] [.int s2, .int s1, .ref 272] false (mz_k S R N b t) := by
  unfold cf_518_182 at hC
  unfold cp_518_182 at hp
  have h1 := hp
  refine g_iast (mz_at hS (Nat.le_of_ble_eq_true rfl) mzcS_272) h1 (g_iinc rfl mzi_1 (Nat.le_of_ble_eq_true rfl) rfl (g_goto (tg := 2) rfl ms_518_2 ?_))
  refine g_weak ?_ (g_cl (hc1 ((v2 + 1), mz_wI N 272 s1 s2) hC))
  exact ⟨rfl, rfl, rfl, trivial⟩
theorem cg_518_165 (hd : 2 ≤ d) (hS : mz_extR S 342) (hR : mz_rok R 342)  (s0 : Int32) (v1 : Int32) (v2 : Int32) (v3 : Bool) (N : mz_N) {C0 : (mz_N) → Prop} (hr : ∀ (N2 : mz_N), C0 N2 → Q (.inl none) (mz_k S R N2 b t)) {C1 : ((Int32 × mz_N) ⊕ (mz_N)) → Prop} (hc1 : ∀ s2, C1 (.inl s2) → mz_G (d, mz_X0 L xs, none, [], mk_518, 7, Q) 2 mt_518_2 [(0, .ref 232), (1, .int v1), (2, .int s2.1)] [] false (mz_k S R s2.2 b t)) (hx1 : ∀ z, C1 (.inr z) → C0 z) (hp : cp_518_165 s0 v1 v2 v3 N) (hC : C1 (cf_518_165 s0 v1 v2 v3 N)) : mz_G (d, mz_X0 L xs, none, [], mk_518, 7, Q) 165 mt_518_165 [(0, .ref 232), (1, .int v1), (2, .int v2), (3, .int (mz_b01 v3))] [.int s0] false (mz_k S R N b t) := by
  unfold cf_518_165 at hC
  unfold cp_518_165 at hp
  refine g_istore (Nat.le_of_ble_eq_true rfl) rfl (g_aload_n rfl (g_getR (mz_at hS (Nat.le_of_ble_eq_true rfl) mzcS_232) mzcf_12_56 (mz_rb hR (Nat.le_of_ble_eq_true rfl) rfl mzcR_232_56) (g_iload_n rfl (g_iload_n rfl ?_))))
  refine g_zeq (tg := 181) rfl ms_518_181 hC (fun h1 hC => ?_) (fun h1 hC => ?_)
  · have hp := hp.1 h1
    refine g_iload rfl (g_goto (tg := 182) rfl ms_518_182 ?_)
    refine g_weak ?_ (g_cl (cg_518_182 hd hS hR v2 s0 v1 v2 N hr hc1 hx1 hp hC))
    exact ⟨rfl, rfl, rfl, trivial⟩
  · have hp := hp.2 h1
    refine g_iconst mzi_0 ?_
    refine g_weak ?_ (g_cl (cg_518_182 hd hS hR v2 0 v1 v2 N hr hc1 hx1 hp hC))
    exact ⟨rfl, rfl, rfl, trivial⟩
theorem cg_518_137 (hd : 2 ≤ d) (hS : mz_extR S 342) (hR : mz_rok R 342)  (s0 : Int32) (s1 : Int32) (v1 : Int32) (v2 : Int32) (v3 : Bool) (N : mz_N) {C0 : (mz_N) → Prop} (hr : ∀ (N2 : mz_N), C0 N2 → Q (.inl none) (mz_k S R N2 b t)) {C1 : ((Int32 × mz_N) ⊕ (mz_N)) → Prop} (hc1 : ∀ s2, C1 (.inl s2) → mz_G (d, mz_X0 L xs, none, [], mk_518, 7, Q) 2 mt_518_2 [(0, .ref 232), (1, .int v1), (2, .int s2.1)] [] false (mz_k S R s2.2 b t)) (hx1 : ∀ z, C1 (.inr z) → C0 z) (hp : cp_518_137 s0 s1 v1 v2 v3 N) (hC : C1 (cf_518_137 s0 s1 v1 v2 v3 N)) : mz_G (d, mz_X0 L xs, none, [], mk_518, 7, Q) 137 mt_518_137 [(0, .ref 232), (1, .int v1), (2, .int v2), (3, .int (mz_b01 v3))] [.int s1, .int s0] false (mz_k S R N b t) := by
  unfold cf_518_137 at hC
  unfold cp_518_137 at hp
  refine g_iadd (g_goto (tg := 165) rfl ms_518_165 ?_)
  refine g_weak ?_ (g_cl (cg_518_165 hd hS hR (s0 + s1) v1 v2 v3 N hr hc1 hx1 hp hC))
  exact ⟨rfl, rfl, rfl, rfl, trivial⟩
theorem cg_518_123 (hd : 2 ≤ d) (hS : mz_extR S 342) (hR : mz_rok R 342)  (s0 : Int32) (s1 : Int32) (v1 : Int32) (v2 : Int32) (v3 : Bool) (N : mz_N) {C0 : (mz_N) → Prop} (hr : ∀ (N2 : mz_N), C0 N2 → Q (.inl none) (mz_k S R N2 b t)) {C1 : ((Int32 × mz_N) ⊕ (mz_N)) → Prop} (hc1 : ∀ s2, C1 (.inl s2) → mz_G (d, mz_X0 L xs, none, [], mk_518, 7, Q) 2 mt_518_2 [(0, .ref 232), (1, .int v1), (2, .int s2.1)] [] false (mz_k S R s2.2 b t)) (hx1 : ∀ z, C1 (.inr z) → C0 z) (hp : cp_518_123 s0 s1 v1 v2 v3 N) (hC : C1 (cf_518_123 s0 s1 v1 v2 v3 N)) : mz_G (d, mz_X0 L xs, none, [], mk_518, 7, Q) 123 mt_518_123 [(0, .ref 232), (1, .int v1), (2, .int v2), (3, .int (mz_b01 v3))] [.int s1, .int s0] false (mz_k S R N b t) := by
  unfold cf_518_123 at hC
  unfold cp_518_123 at hp
  refine g_iadd (g_aload_n rfl ?_)
  obtain ⟨h1, hp⟩ := hp
  refine g_getZ (mz_at hS (Nat.le_of_ble_eq_true rfl) mzcS_232) mzcf_12_64 h1 ?_
  refine g_zeq (tg := 136) rfl ms_518_136 hC (fun h2 hC => ?_) (fun h2 hC => ?_)
  · have hp := hp.1 h2
    refine g_bipush mzb_40 (g_goto (tg := 137) rfl ms_518_137 ?_)
    refine g_weak ?_ (g_cl (cg_518_137 hd hS hR (s0 + s1) 40 v1 v2 v3 N hr hc1 hx1 hp hC))
    exact ⟨rfl, rfl, rfl, rfl, trivial⟩
  · have hp := hp.2 h2
    refine g_iconst mzi_0 ?_
    refine g_weak ?_ (g_cl (cg_518_137 hd hS hR (s0 + s1) 0 v1 v2 v3 N hr hc1 hx1 hp hC))
    exact ⟨rfl, rfl, rfl, rfl, trivial⟩
theorem cg_518_164 (hd : 2 ≤ d) (hS : mz_extR S 342) (hR : mz_rok R 342)  (s0 : Int32) (s1 : Int32) (v1 : Int32) (v2 : Int32) (v3 : Bool) (N : mz_N) {C0 : (mz_N) → Prop} (hr : ∀ (N2 : mz_N), C0 N2 → Q (.inl none) (mz_k S R N2 b t)) {C1 : ((Int32 × mz_N) ⊕ (mz_N)) → Prop} (hc1 : ∀ s2, C1 (.inl s2) → mz_G (d, mz_X0 L xs, none, [], mk_518, 7, Q) 2 mt_518_2 [(0, .ref 232), (1, .int v1), (2, .int s2.1)] [] false (mz_k S R s2.2 b t)) (hx1 : ∀ z, C1 (.inr z) → C0 z) (hp : cp_518_164 s0 s1 v1 v2 v3 N) (hC : C1 (cf_518_164 s0 s1 v1 v2 v3 N)) : mz_G (d, mz_X0 L xs, none, [], mk_518, 7, Q) 164 mt_518_164 [(0, .ref 232), (1, .int v1), (2, .int v2), (3, .int (mz_b01 v3))] [.int s1, .int s0] false (mz_k S R N b t) := by
  unfold cf_518_164 at hC
  unfold cp_518_164 at hp
  refine g_iadd ?_
  refine g_weak ?_ (g_cl (cg_518_165 hd hS hR (s0 + s1) v1 v2 v3 N hr hc1 hx1 hp hC))
  exact ⟨rfl, rfl, rfl, rfl, trivial⟩
theorem cg_518_88 (hd : 2 ≤ d) (hS : mz_extR S 342) (hR : mz_rok R 342)  (s0 : Bool) (v1 : Int32) (v2 : Int32) (v3 : Bool) (v4 : Int32) (N : mz_N) {C0 : (mz_N) → Prop} (hr : ∀ (N2 : mz_N), C0 N2 → Q (.inl none) (mz_k S R N2 b t)) {C1 : ((Int32 × mz_N) ⊕ (mz_N)) → Prop} (hc1 : ∀ s2, C1 (.inl s2) → mz_G (d, mz_X0 L xs, none, [], mk_518, 7, Q) 2 mt_518_2 [(0, .ref 232), (1, .int v1), (2, .int s2.1)] [] false (mz_k S R s2.2 b t)) (hx1 : ∀ z, C1 (.inr z) → C0 z) (hp : cp_518_88 s0 v1 v2 v3 v4 N) (hC : C1 (cf_518_88 s0 v1 v2 v3 v4 N)) : mz_G (d, mz_X0 L xs, none, [], mk_518, 7, Q) 88 mt_518_88 [(0, .ref 232), (1, .int v1), (2, .int v2), (3, .int (mz_b01 v3)), (4, .int v4)] [.int (mz_b01 s0)] false (mz_k S R N b t) := by
  unfold cf_518_88 at hC
  unfold cp_518_88 at hp
  refine g_istore (Nat.le_of_ble_eq_true rfl) rfl (g_iload_n rfl (g_bipush mzb_10 ?_))
  refine g_icne (tg := 141) rfl ms_518_141 hC (fun h1 hC => ?_) (fun h1 hC => ?_)
  · have hp := hp.1 h1
    refine g_bipush mzb_20 (g_iconst mzi_5 (g_aload_n rfl (g_getR (mz_at hS (Nat.le_of_ble_eq_true rfl) mzcS_232) mzcf_12_37 (mz_rb hR (Nat.le_of_ble_eq_true rfl) rfl mzcR_232_37) (g_bipush mzb_13 (g_iald hS.1 (mz_at hS (Nat.le_of_ble_eq_true rfl) mzcS_257) (mz_ibd (by decide)) (g_imul (g_iadd ?_)))))))
    refine g_aload_n rfl (g_getL (mz_at hS (Nat.le_of_ble_eq_true rfl) mzcS_232) mzcf_12_66 (g_lconst mzl_0 (g_lcmp ?_)))
    refine g_lle (tg := 122) rfl ms_518_122 hC (fun h2 hC => ?_) (fun h2 hC => ?_)
    · have hp := hp.1 h2
      refine g_bipush mzb_30 (g_goto (tg := 123) rfl ms_518_123 ?_)
      refine g_weak ?_ (g_cl (cg_518_123 hd hS hR (20 + (5 * (mz_gI N 257 13))) 30 v1 v2 v3 N hr hc1 hx1 hp hC))
      exact ⟨rfl, rfl, rfl, rfl, trivial⟩
    · have hp := hp.2 h2
      refine g_iconst mzi_0 ?_
      refine g_weak ?_ (g_cl (cg_518_123 hd hS hR (20 + (5 * (mz_gI N 257 13))) 0 v1 v2 v3 N hr hc1 hx1 hp hC))
      exact ⟨rfl, rfl, rfl, rfl, trivial⟩
  · have hp := hp.2 h1
    refine g_bipush mzb_15 (g_iload rfl (g_imul (g_iload rfl ?_)))
    refine g_zeq (tg := 163) rfl ms_518_163 hC (fun h3 hC => ?_) (fun h3 hC => ?_)
    · have hp := hp.1 h3
      refine g_bipush mzb_6 (g_aload_n rfl (g_getR (mz_at hS (Nat.le_of_ble_eq_true rfl) mzcS_232) mzcf_12_15 (mz_rb hR (Nat.le_of_ble_eq_true rfl) rfl mzcR_232_15) (g_iload_n rfl ?_)))
      obtain ⟨h4, hp⟩ := hp
      refine g_iald hS.1 (mz_at hS (Nat.le_of_ble_eq_true rfl) mzcS_243) h4 (g_imul (g_goto (tg := 164) rfl ms_518_164 ?_))
      refine g_weak ?_ (g_cl (cg_518_164 hd hS hR (15 * v4) (6 * (mz_gI N 243 v2)) v1 v2 v3 N hr hc1 hx1 hp hC))
      exact ⟨rfl, rfl, rfl, rfl, trivial⟩
    · have hp := hp.2 h3
      refine g_iconst mzi_0 ?_
      refine g_weak ?_ (g_cl (cg_518_164 hd hS hR (15 * v4) 0 v1 v2 v3 N hr hc1 hx1 hp hC))
      exact ⟨rfl, rfl, rfl, rfl, trivial⟩
theorem cg_518_87 (hd : 2 ≤ d) (hS : mz_extR S 342) (hR : mz_rok R 342)  (v1 : Int32) (v2 : Int32) (v3 : Bool) (v4 : Int32) (N : mz_N) {C0 : (mz_N) → Prop} (hr : ∀ (N2 : mz_N), C0 N2 → Q (.inl none) (mz_k S R N2 b t)) {C1 : ((Int32 × mz_N) ⊕ (mz_N)) → Prop} (hc1 : ∀ s2, C1 (.inl s2) → mz_G (d, mz_X0 L xs, none, [], mk_518, 7, Q) 2 mt_518_2 [(0, .ref 232), (1, .int v1), (2, .int s2.1)] [] false (mz_k S R s2.2 b t)) (hx1 : ∀ z, C1 (.inr z) → C0 z) (hp : cp_518_87 v1 v2 v3 v4 N) (hC : C1 (cf_518_87 v1 v2 v3 v4 N)) : mz_G (d, mz_X0 L xs, none, [], mk_518, 7, Q) 87 mt_518_87 [(0, .ref 232), (1, .int v1), (2, .int v2), (3, .int (mz_b01 v3)), (4, .int v4)] [] false (mz_k S R N b t) := by
  unfold cf_518_87 at hC
  unfold cp_518_87 at hp
  refine g_iconst mzi_0 ?_
  refine g_weak ?_ (g_cl (cg_518_88 hd hS hR false v1 v2 v3 v4 N hr hc1 hx1 hp hC))
  exact ⟨rfl, rfl, rfl, rfl, rfl, trivial⟩
theorem cg_518_72 (hd : 2 ≤ d) (hS : mz_extR S 342) (hR : mz_rok R 342)  (v1 : Int32) (v2 : Int32) (v3 : Bool) (v4 : Int32) (N : mz_N) {C0 : (mz_N) → Prop} (hr : ∀ (N2 : mz_N), C0 N2 → Q (.inl none) (mz_k S R N2 b t)) {C1 : ((Int32 × mz_N) ⊕ (mz_N)) → Prop} (hc1 : ∀ s2, C1 (.inl s2) → mz_G (d, mz_X0 L xs, none, [], mk_518, 7, Q) 2 mt_518_2 [(0, .ref 232), (1, .int v1), (2, .int s2.1)] [] false (mz_k S R s2.2 b t)) (hx1 : ∀ z, C1 (.inr z) → C0 z) (hp : cp_518_72 v1 v2 v3 v4 N) (hC : C1 (cf_518_72 v1 v2 v3 v4 N)) : mz_G (d, mz_X0 L xs, none, [], mk_518, 7, Q) 72 mt_518_72 [(0, .ref 232), (1, .int v1), (2, .int v2), (3, .int (mz_b01 v3)), (4, .int v4)] [] false (mz_k S R N b t) := by
  unfold cf_518_72 at hC
  unfold cp_518_72 at hp
  refine g_aload_n rfl (g_getR (mz_at hS (Nat.le_of_ble_eq_true rfl) mzcS_232) mzcf_12_37 (mz_rb hR (Nat.le_of_ble_eq_true rfl) rfl mzcR_232_37) (g_bipush mzb_10 (g_iald hS.1 (mz_at hS (Nat.le_of_ble_eq_true rfl) mzcS_257) (mz_ibd (by decide)) (g_iconst mzi_1 ?_))))
  refine g_icne (tg := 87) rfl ms_518_87 hC (fun h1 hC => ?_) (fun h1 hC => ?_)
  · have hp := hp.1 h1
    refine g_iconst mzi_1 (g_goto (tg := 88) rfl ms_518_88 ?_)
    refine g_weak ?_ (g_cl (cg_518_88 hd hS hR true v1 v2 v3 v4 N hr hc1 hx1 hp hC))
    exact ⟨rfl, rfl, rfl, rfl, rfl, trivial⟩
  · have hp := hp.2 h1
    refine g_weak ?_ (g_cl (cg_518_87 hd hS hR v1 v2 v3 v4 N hr hc1 hx1 hp hC))
    exact ⟨rfl, rfl, rfl, rfl, rfl, trivial⟩
theorem cg_518_53 (hd : 2 ≤ d) (hS : mz_extR S 342) (hR : mz_rok R 342)  (s0 : Int32) (v1 : Int32) (v2 : Int32) (v3 : Bool) (N : mz_N) {C0 : (mz_N) → Prop} (hr : ∀ (N2 : mz_N), C0 N2 → Q (.inl none) (mz_k S R N2 b t)) {C1 : ((Int32 × mz_N) ⊕ (mz_N)) → Prop} (hc1 : ∀ s2, C1 (.inl s2) → mz_G (d, mz_X0 L xs, none, [], mk_518, 7, Q) 2 mt_518_2 [(0, .ref 232), (1, .int v1), (2, .int s2.1)] [] false (mz_k S R s2.2 b t)) (hx1 : ∀ z, C1 (.inr z) → C0 z) (hp : cp_518_53 s0 v1 v2 v3 N) (hC : C1 (cf_518_53 s0 v1 v2 v3 N)) : mz_G (d, mz_X0 L xs, none, [], mk_518, 7, Q) 53 mt_518_53 [(0, .ref 232), (1, .int v1), (2, .int v2), (3, .int (mz_b01 v3))] [.int s0] false (mz_k S R N b t) := by
  unfold cf_518_53 at hC
  unfold cp_518_53 at hp
  refine g_istore (Nat.le_of_ble_eq_true rfl) rfl (g_iload rfl ?_)
  refine g_ifle (tg := 87) rfl ms_518_87 hC (fun h1 hC => ?_) (fun h1 hC => ?_)
  · have hp := hp.1 h1
    refine g_iload_n rfl (g_bipush mzb_7 ?_)
    refine g_iclt (tg := 72) rfl ms_518_72 hC (fun h2 hC => ?_) (fun h2 hC => ?_)
    · have hp := hp.1 h2
      refine g_weak ?_ (g_cl (cg_518_72 hd hS hR v1 v2 v3 s0 N hr hc1 hx1 hp hC))
      exact ⟨rfl, rfl, rfl, rfl, rfl, trivial⟩
    · have hp := hp.2 h2
      refine g_iload_n rfl (g_bipush mzb_18 ?_)
      refine g_iclt (tg := 87) rfl ms_518_87 hC (fun h3 hC => ?_) (fun h3 hC => ?_)
      · have hp := hp.1 h3
        refine g_weak ?_ (g_cl (cg_518_87 hd hS hR v1 v2 v3 s0 N hr hc1 hx1 hp hC))
        exact ⟨rfl, rfl, rfl, rfl, rfl, trivial⟩
      · have hp := hp.2 h3
        refine g_weak ?_ (g_cl (cg_518_72 hd hS hR v1 v2 v3 s0 N hr hc1 hx1 hp hC))
        exact ⟨rfl, rfl, rfl, rfl, rfl, trivial⟩
  · have hp := hp.2 h1
    refine g_weak ?_ (g_cl (cg_518_87 hd hS hR v1 v2 v3 s0 N hr hc1 hx1 hp hC))
    exact ⟨rfl, rfl, rfl, rfl, rfl, trivial⟩
theorem cg_518_22 (hd : 2 ≤ d) (hS : mz_extR S 342) (hR : mz_rok R 342)  (s0 : Bool) (v1 : Int32) (v2 : Int32) (N : mz_N) {C0 : (mz_N) → Prop} (hr : ∀ (N2 : mz_N), C0 N2 → Q (.inl none) (mz_k S R N2 b t)) {C1 : ((Int32 × mz_N) ⊕ (mz_N)) → Prop} (hc1 : ∀ s2, C1 (.inl s2) → mz_G (d, mz_X0 L xs, none, [], mk_518, 7, Q) 2 mt_518_2 [(0, .ref 232), (1, .int v1), (2, .int s2.1)] [] false (mz_k S R s2.2 b t)) (hx1 : ∀ z, C1 (.inr z) → C0 z) (hp : cp_518_22 s0 v1 v2 N) (hC : C1 (cf_518_22 s0 v1 v2 N)) : mz_G (d, mz_X0 L xs, none, [], mk_518, 7, Q) 22 mt_518_22 [(0, .ref 232), (1, .int v1), (2, .int v2)] [.int (mz_b01 s0)] false (mz_k S R N b t) := by
  unfold cf_518_22 at hC
  unfold cp_518_22 at hp
  refine g_istore_n (Nat.le_of_ble_eq_true rfl) rfl (g_aload_n rfl (g_getR (mz_at hS (Nat.le_of_ble_eq_true rfl) mzcS_232) mzcf_12_60 (mz_rb hR (Nat.le_of_ble_eq_true rfl) rfl mzcR_232_60) (g_iload_n rfl (g_iload_n rfl ?_))))
  obtain ⟨h1, hp⟩ := hp
  refine g_zast (z := s0) (mz_at hS (Nat.le_of_ble_eq_true rfl) mzcS_276) h1 (g_aload_n rfl (g_getR (mz_at hS (Nat.le_of_ble_eq_true rfl) mzcS_232) mzcf_12_57 (mz_rb hR (Nat.le_of_ble_eq_true rfl) rfl mzcR_232_57) (g_iload_n rfl (g_iconst mzi_0 ?_))))
  obtain ⟨h2, hp⟩ := hp
  refine g_zast (z := false) (mz_at hS (Nat.le_of_ble_eq_true rfl) mzcS_273) h2 (g_iload_n rfl (g_bipush mzb_10 ?_))
  refine g_icge (tg := 52) rfl ms_518_52 hC (fun h3 hC => ?_) (fun h3 hC => ?_)
  · have hp := hp.1 h3
    refine g_aload_n rfl (g_iload_n rfl (g_iload_n rfl ?_))
    obtain ⟨h4, hp⟩ := hp
    refine g_v3v (Nat.le_of_ble_eq_true rfl) (mz_at hS (Nat.le_of_ble_eq_true rfl) mzcS_232) (fun _ hq => cs_519 (Nat.le_trans (Nat.le_of_ble_eq_true rfl) hd) (hS.le (Nat.le_of_ble_eq_true rfl)) (hR.le (Nat.le_of_ble_eq_true rfl))  v2 v1 (mz_wI (mz_wI N 276 v2 (mz_b01 s0)) 273 v2 (mz_b01 false)) h4 hq) (g_goto (tg := 53) rfl ms_518_53 ?_)
    refine g_weak ?_ (g_cl (cg_518_53 hd hS hR (cf_519_0 v2 v1 (mz_wI (mz_wI N 276 v2 (mz_b01 s0)) 273 v2 (mz_b01 false))) v1 v2 s0 (mz_wI (mz_wI N 276 v2 (mz_b01 s0)) 273 v2 (mz_b01 false)) hr hc1 hx1 hp hC))
    exact ⟨rfl, rfl, rfl, rfl, trivial⟩
  · have hp := hp.2 h3
    refine g_iconst mzi_0 ?_
    refine g_weak ?_ (g_cl (cg_518_53 hd hS hR 0 v1 v2 s0 (mz_wI (mz_wI N 276 v2 (mz_b01 s0)) 273 v2 (mz_b01 false)) hr hc1 hx1 hp hC))
    exact ⟨rfl, rfl, rfl, rfl, trivial⟩
theorem cb_518_2 (hd : 2 ≤ d) (hS : mz_extR S 342) (hR : mz_rok R 342)  (v1 : Int32) (s : Int32 × mz_N) {C0 : (mz_N) → Prop} (hr : ∀ (N2 : mz_N), C0 N2 → Q (.inl none) (mz_k S R N2 b t)) {C1 : ((Int32 × mz_N) ⊕ (mz_N)) → Prop} (hc1 : ∀ s2, C1 (.inl s2) → mz_G (d, mz_X0 L xs, none, [], mk_518, 7, Q) 2 mt_518_2 [(0, .ref 232), (1, .int v1), (2, .int s2.1)] [] false (mz_k S R s2.2 b t)) (hx1 : ∀ z, C1 (.inr z) → C0 z) (hp : cd_518_2 v1 s) (hC : C1 (cq_518_2 v1 s)) : mz_G (d, mz_X0 L xs, none, [], mk_518, 7, Q) 2 mt_518_2 [(0, .ref 232), (1, .int v1), (2, .int s.1)] [] false (mz_k S R s.2 b t) := by
  unfold cq_518_2 at hC
  unfold cd_518_2 at hp
  refine g_iload_n rfl (g_bipush mzb_11 ?_)
  refine g_icge (tg := 189) rfl ms_518_189 hC (fun h1 hC => ?_) (fun h1 hC => ?_)
  · have hp := hp.1 h1
    refine g_aload_n rfl (g_getR (mz_at hS (Nat.le_of_ble_eq_true rfl) mzcS_232) mzcf_12_59 (mz_rb hR (Nat.le_of_ble_eq_true rfl) rfl mzcR_232_59) (g_iload_n rfl ?_))
    obtain ⟨h2, hp⟩ := hp
    obtain ⟨h3, hp⟩ := hp
    refine g_zald (mz_at hS (Nat.le_of_ble_eq_true rfl) mzcS_275) h2 h3 ?_
    refine g_zne (tg := 21) rfl ms_518_21 hC (fun h4 hC => ?_) (fun h4 hC => ?_)
    · have hp := hp.1 h4
      refine g_iconst mzi_0 ?_
      refine g_weak ?_ (g_cl (cg_518_22 hd hS hR false v1 s.1 s.2 hr hc1 hx1 hp hC))
      exact ⟨rfl, rfl, rfl, trivial⟩
    · have hp := hp.2 h4
      refine g_iconst mzi_1 (g_goto (tg := 22) rfl ms_518_22 ?_)
      refine g_weak ?_ (g_cl (cg_518_22 hd hS hR true v1 s.1 s.2 hr hc1 hx1 hp hC))
      exact ⟨rfl, rfl, rfl, trivial⟩
  · have hp := hp.2 h1
    refine g_aload_n rfl (g_iconst mzi_0 (g_putZ (z := false) (mz_at hS (Nat.le_of_ble_eq_true rfl) mzcS_232) mzcf_12_65 (g_aload_n rfl ?_)))
    obtain ⟨h5, hp⟩ := hp
    refine g_getZ (mz_at hS (Nat.le_of_ble_eq_true rfl) mzcS_232) mzcf_12_52 h5 ?_
    refine g_zeq (tg := 239) rfl ms_518_239 hC (fun h6 hC => ?_) (fun h6 hC => ?_)
    · have hp := hp.1 h6
      refine g_aload_n rfl (g_aload_n rfl (g_getI (mz_at hS (Nat.le_of_ble_eq_true rfl) mzcS_232) mzcf_12_54 (g_bipush mzb_30 (g_iadd (g_sipush mzs_3000 ?_)))))
      refine g_icle (tg := 221) rfl ms_518_221 hC (fun h7 hC => ?_) (fun h7 hC => ?_)
      · have hp := hp.1 h7
        refine g_sipush mzs_3000 (g_goto (tg := 228) rfl ms_518_228 ?_)
        refine g_weak ?_ (g_cl (cg_518_228 hd hS hR 3000 (mz_pI s.2 232 65 (mz_b01 false)) hr hp (hx1 _ hC)))
        exact ⟨rfl, trivial⟩
      · have hp := hp.2 h7
        refine g_aload_n rfl (g_getI (mz_at hS (Nat.le_of_ble_eq_true rfl) mzcS_232) mzcf_12_54 (g_bipush mzb_30 (g_iadd ?_)))
        refine g_weak ?_ (g_cl (cg_518_228 hd hS hR (((mz_pI s.2 232 65 (mz_b01 false)).1 232 54) + 30) (mz_pI s.2 232 65 (mz_b01 false)) hr hp (hx1 _ hC)))
        exact ⟨rfl, trivial⟩
    · have hp := hp.2 h6
      refine g_aload_n rfl (g_aload_n rfl (g_getI (mz_at hS (Nat.le_of_ble_eq_true rfl) mzcS_232) mzcf_12_55 (g_iconst mzi_2 ?_)))
      refine g_iclt (tg := 268) rfl ms_518_268 hC (fun h8 hC => ?_) (fun h8 hC => ?_)
      · have hp := hp.1 h8
        refine g_weak ?_ (g_cl (cg_518_268 hd hS hR (mz_pI s.2 232 65 (mz_b01 false)) hr hp (hx1 _ hC)))
        exact ⟨rfl, trivial⟩
      · have hp := hp.2 h8
        refine g_aload_n rfl (g_getI (mz_at hS (Nat.le_of_ble_eq_true rfl) mzcS_232) mzcf_12_53 ?_)
        refine g_ifle (tg := 268) rfl ms_518_268 hC (fun h9 hC => ?_) (fun h9 hC => ?_)
        · have hp := hp.1 h9
          refine g_aload_n rfl (g_getR (mz_at hS (Nat.le_of_ble_eq_true rfl) mzcS_232) mzcf_12_102 (mz_rb hR (Nat.le_of_ble_eq_true rfl) rfl mzcR_232_102) (g_iconst mzi_2 ?_))
          obtain ⟨h10, hp⟩ := hp
          refine g_zald (mz_at hS (Nat.le_of_ble_eq_true rfl) mzcS_307) (mz_ibd (by decide)) h10 ?_
          refine g_zne (tg := 268) rfl ms_518_268 hC (fun h11 hC => ?_) (fun h11 hC => ?_)
          · have hp := hp.1 h11
            refine g_weak ?_ (g_cl (cg_518_268 hd hS hR (mz_pI s.2 232 65 (mz_b01 false)) hr hp (hx1 _ hC)))
            exact ⟨rfl, trivial⟩
          · have hp := hp.2 h11
            refine g_iconst mzi_1 (g_goto (tg := 269) rfl ms_518_269 ?_)
            refine g_weak ?_ (g_cl (cg_518_269 hd hS hR true (mz_pI s.2 232 65 (mz_b01 false)) hr hp (hx1 _ hC)))
            exact ⟨rfl, trivial⟩
        · have hp := hp.2 h9
          refine g_weak ?_ (g_cl (cg_518_268 hd hS hR (mz_pI s.2 232 65 (mz_b01 false)) hr hp (hx1 _ hC)))
          exact ⟨rfl, trivial⟩
theorem cg_518_2 (hd : 2 ≤ d) (hS : mz_extR S 342) (hR : mz_rok R 342)  (v1 : Int32) (v2 : Int32) (N : mz_N) {C0 : (mz_N) → Prop} (hr : ∀ (N2 : mz_N), C0 N2 → Q (.inl none) (mz_k S R N2 b t)) (hp : cp_518_2 v1 v2 N) (hC : C0 (cf_518_2 v1 v2 N)) : mz_G (d, mz_X0 L xs, none, [], mk_518, 7, Q) 2 mt_518_2 [(0, .ref 232), (1, .int v1), (2, .int v2)] [] false (mz_k S R N b t) := by
  obtain ⟨n, hn⟩ := hp
  exact g_loop (G := fun s => mz_G (d, mz_X0 L xs, none, [], mk_518, 7, Q) 2 mt_518_2 [(0, .ref 232), (1, .int v1), (2, .int s.1)] [] false (mz_k S R s.2 b t)) (C := C0) (fun C2 hc hx s hP hC => cb_518_2 hd hS hR v1 s hr hc hx hP hC) n (v2, N) hn hC
theorem cg_518_0 (hd : 2 ≤ d) (hS : mz_extR S 342) (hR : mz_rok R 342)  (v1 : Int32) (N : mz_N) {C0 : (mz_N) → Prop} (hr : ∀ (N2 : mz_N), C0 N2 → Q (.inl none) (mz_k S R N2 b t)) (hp : cp_518_0 v1 N) (hC : C0 (cf_518_0 v1 N)) : mz_G (d, mz_X0 L xs, none, [], mk_518, 7, Q) 0 mk_518 [(0, .ref 232), (1, .int v1)] [] true (mz_k S R N b t) := by
  unfold cf_518_0 at hC
  unfold cp_518_0 at hp
  refine g_iconst mzi_0 (g_istore_n (Nat.le_of_ble_eq_true rfl) rfl ?_)
  refine g_weak ?_ (g_cl (cg_518_2 hd hS hR v1 0 N hr hp hC))
  exact ⟨rfl, rfl, rfl, trivial⟩
theorem cs_518 (hd : 3 ≤ d) (hS : mz_extR S 342) (hR : mz_rok R 342)  (v1 : Int32) (N : mz_N) (hp : cp_518_0 v1 N) (hq : Q (.inl none) (mz_k S R (cf_518_0 v1 N) b t)) : mz_Ed (mz_X0 L xs) d 518 [.ref 232, .int v1] (mz_k S R N b t) Q :=
  by
  refine g_in mzq_518 (Nat.le_of_ble_eq_true rfl) (Nat.le_of_ble_eq_true rfl) (Nat.le_trans (Nat.le_of_ble_eq_true rfl) hd) ?_
  refine g_weak ?_ (cg_518_0 (d := d - 1) (by omega) hS hR v1 N (C0 := fun z => Q (.inl none) (mz_k S R z b t)) (fun _ h => h) hp hq)
  exact ⟨rfl, rfl, trivial⟩
/-! 523 KeptHouseModel.draw (I)I -/
theorem ms_523_0 : mz_sf mk_523 0 = mk_523 := mz_sf_zero _
theorem ms_523_23 : mz_sf mk_523 23 = mt_523_23 := mz_sf_add ms_523_0 (t := 23) rfl rfl
theorem ms_523_45 : mz_sf mk_523 45 = mt_523_45 := mz_sf_add ms_523_23 (t := 22) rfl rfl
set_option maxRecDepth 100000 in
theorem mzq_523 : mz_PG0 523 = some (12, ⟨"KeptHouseModel", "draw", "(I)I"⟩, prog_14_method_90_code, 4, some .int, [], mk_523, []) := rfl
theorem cg_523_0 (hd : 0 ≤ d) (hS : mz_extR S 342) (hR : mz_rok R 342)  (v1 : Int32) (N : mz_N) {C0 : (Int32) → Prop} (hr : ∀ (w : Int32), C0 w → Q (.inl (some (.int w))) (mz_k S R N b t)) (hp : cp_523_0 v1 N) (hC : C0 (cf_523_0 v1 N)) : mz_G (d, mz_X0 L xs, some .int, [], mk_523, 4, Q) 0 mk_523 [(0, .ref 232), (1, .int v1)] [] true (mz_k S R N b t) := by
  unfold cf_523_0 at hC
  unfold cp_523_0 at hp
  refine g_aload_n rfl (g_getL (mz_at hS (Nat.le_of_ble_eq_true rfl) mzcS_232) mzcf_12_1 (g_con3 (g_con3 (g_aload_n rfl (g_getL (mz_at hS (Nat.le_of_ble_eq_true rfl) mzcS_232) mzcf_12_2 (g_lmul (g_iload_n rfl ?_)))))))
  refine g_i2l (g_ladd (g_lconst mzl_1 (g_ladd (g_lmul (g_ladd (g_lstore_n (Nat.le_of_ble_eq_true rfl) rfl rfl (g_lload_n rfl ?_)))))))
  refine g_lload_n rfl (g_bipush mzb_30 (g_lushr (g_lxor (g_con3 (g_lmul (g_lstore_n (Nat.le_of_ble_eq_true rfl) rfl rfl (g_lload_n rfl ?_)))))))
  refine g_lload_n rfl (g_bipush mzb_27 (g_lushr (g_lxor (g_con3 (g_lmul (g_lstore_n (Nat.le_of_ble_eq_true rfl) rfl rfl (g_lload_n rfl ?_)))))))
  refine g_lload_n rfl (g_bipush mzb_31 (g_lushr (g_lxor (g_lstore_n (Nat.le_of_ble_eq_true rfl) rfl rfl (g_lload_n rfl (g_bipush mzb_33 (g_lushr ?_)))))))
  refine g_con3 (g_lrem (by decide) (g_l2i ?_))
  exact g_iret rfl (hr _ hC)
theorem cs_523 (hd : 1 ≤ d) (hS : mz_extR S 342) (hR : mz_rok R 342)  (v1 : Int32) (N : mz_N) (hp : cp_523_0 v1 N) (hq : Q (.inl (some (.int (cf_523_0 v1 N)))) (mz_k S R N b t)) : mz_Ed (mz_X0 L xs) d 523 [.ref 232, .int v1] (mz_k S R N b t) Q :=
  by
  refine g_in mzq_523 (Nat.le_of_ble_eq_true rfl) (Nat.le_of_ble_eq_true rfl) (Nat.le_trans (Nat.le_of_ble_eq_true rfl) hd) ?_
  refine g_weak ?_ (cg_523_0 (d := d - 1) (by omega) hS hR v1 N (C0 := fun z => Q (.inl (some (.int z))) (mz_k S R N b t)) (fun _ h => h) hp hq)
  exact ⟨rfl, rfl, trivial⟩
/-! 522 KeptHouseModel.water (I)V -/
theorem ms_522_0 : mz_sf mk_522 0 = mk_522 := mz_sf_zero _
theorem ms_522_7 : mz_sf mk_522 7 = mt_522_7 := mz_sf_add ms_522_0 (t := 7) rfl rfl
theorem ms_522_36 : mz_sf mk_522 36 = mt_522_36 := mz_sf_add ms_522_7 (t := 29) rfl rfl
theorem ms_522_53 : mz_sf mk_522 53 = mt_522_53 := mz_sf_add ms_522_36 (t := 17) rfl rfl
theorem ms_522_57 : mz_sf mk_522 57 = mt_522_57 := mz_sf_add ms_522_53 (t := 4) rfl rfl
theorem ms_522_58 : mz_sf mk_522 58 = mt_522_58 := mz_sf_add ms_522_57 (t := 1) rfl rfl
theorem ms_522_77 : mz_sf mk_522 77 = mt_522_77 := mz_sf_add ms_522_58 (t := 19) rfl rfl
theorem ms_522_79 : mz_sf mk_522 79 = mt_522_79 := mz_sf_add ms_522_77 (t := 2) rfl rfl
theorem ms_522_105 : mz_sf mk_522 105 = mt_522_105 := mz_sf_add ms_522_79 (t := 26) rfl rfl
theorem ms_522_106 : mz_sf mk_522 106 = mt_522_106 := mz_sf_add ms_522_105 (t := 1) rfl rfl
theorem ms_522_136 : mz_sf mk_522 136 = mt_522_136 := mz_sf_add ms_522_106 (t := 30) rfl rfl
theorem ms_522_146 : mz_sf mk_522 146 = mt_522_146 := mz_sf_add ms_522_136 (t := 10) rfl rfl
theorem ms_522_171 : mz_sf mk_522 171 = mt_522_171 := mz_sf_add ms_522_146 (t := 25) rfl rfl
theorem ms_522_177 : mz_sf mk_522 177 = mt_522_177 := mz_sf_add ms_522_171 (t := 6) rfl rfl
theorem ms_522_195 : mz_sf mk_522 195 = mt_522_195 := mz_sf_add ms_522_177 (t := 18) rfl rfl
theorem ms_522_199 : mz_sf mk_522 199 = mt_522_199 := mz_sf_add ms_522_195 (t := 4) rfl rfl
theorem ms_522_200 : mz_sf mk_522 200 = mt_522_200 := mz_sf_add ms_522_199 (t := 1) rfl rfl
theorem ms_522_245 : mz_sf mk_522 245 = mt_522_245 := mz_sf_add ms_522_200 (t := 45) rfl rfl
theorem ms_522_246 : mz_sf mk_522 246 = mt_522_246 := mz_sf_add ms_522_245 (t := 1) rfl rfl
theorem ms_522_276 : mz_sf mk_522 276 = mt_522_276 := mz_sf_add ms_522_246 (t := 30) rfl rfl
theorem ms_522_283 : mz_sf mk_522 283 = mt_522_283 := mz_sf_add ms_522_276 (t := 7) rfl rfl
theorem ms_522_301 : mz_sf mk_522 301 = mt_522_301 := mz_sf_add ms_522_283 (t := 18) rfl rfl
theorem ms_522_302 : mz_sf mk_522 302 = mt_522_302 := mz_sf_add ms_522_301 (t := 1) rfl rfl
theorem ms_522_305 : mz_sf mk_522 305 = mt_522_305 := mz_sf_add ms_522_302 (t := 3) rfl rfl
theorem ms_522_325 : mz_sf mk_522 325 = mt_522_325 := mz_sf_add ms_522_305 (t := 20) rfl rfl
theorem ms_522_326 : mz_sf mk_522 326 = mt_522_326 := mz_sf_add ms_522_325 (t := 1) rfl rfl
set_option maxRecDepth 100000 in
theorem mzq_522 : mz_PG0 522 = some (12, ⟨"KeptHouseModel", "water", "(I)V"⟩, prog_14_method_91_code, 5, none, [], mk_522, []) := rfl
theorem cg_522_326 (hd : 1 ≤ d) (hS : mz_extR S 342) (hR : mz_rok R 342)  (s1 : Int64) (N : mz_N) {C0 : (mz_N) → Prop} (hr : ∀ (N2 : mz_N), C0 N2 → Q (.inl none) (mz_k S R N2 b t)) (hp : cp_522_326 s1 N) (hC : C0 (cf_522_326 s1 N)) : mz_G (d, mz_X0 L xs, none, [], mk_522, 5, Q) 326 mt_522_326 [] [.long s1, .ref 232] false (mz_k S R N b t) := by
  unfold cf_522_326 at hC
  unfold cp_522_326 at hp
  refine g_putL (mz_at hS (Nat.le_of_ble_eq_true rfl) mzcS_232) mzcf_12_68 ?_
  exact g_vret rfl (hr _ hC)
theorem cg_522_305 (hd : 1 ≤ d) (hS : mz_extR S 342) (hR : mz_rok R 342)  (N : mz_N) {C0 : (mz_N) → Prop} (hr : ∀ (N2 : mz_N), C0 N2 → Q (.inl none) (mz_k S R N2 b t)) (hp : cp_522_305 N) (hC : C0 (cf_522_305 N)) : mz_G (d, mz_X0 L xs, none, [], mk_522, 5, Q) 305 mt_522_305 [(0, .ref 232)] [] false (mz_k S R N b t) := by
  unfold cf_522_305 at hC
  unfold cp_522_305 at hp
  refine g_aload_n rfl (g_aload_n rfl (g_getI (mz_at hS (Nat.le_of_ble_eq_true rfl) mzcS_232) mzcf_12_62 (g_sipush mzs_5000 ?_)))
  refine g_icge (tg := 325) rfl ms_522_325 hC (fun h1 hC => ?_) (fun h1 hC => ?_)
  · have hp := hp.1 h1
    refine g_aload_n rfl (g_getL (mz_at hS (Nat.le_of_ble_eq_true rfl) mzcS_232) mzcf_12_68 (g_lconst mzl_1 (g_ladd (g_goto (tg := 326) rfl ms_522_326 ?_))))
    refine g_weak ?_ (g_cl (cg_522_326 hd hS hR ((N.2 232 68) + 1) N hr hp hC))
    exact trivial
  · have hp := hp.2 h1
    refine g_lconst mzl_0 ?_
    refine g_weak ?_ (g_cl (cg_522_326 hd hS hR 0 N hr hp hC))
    exact trivial
theorem cg_522_302 (hd : 1 ≤ d) (hS : mz_extR S 342) (hR : mz_rok R 342)  (s1 : Bool) (N : mz_N) {C0 : (mz_N) → Prop} (hr : ∀ (N2 : mz_N), C0 N2 → Q (.inl none) (mz_k S R N2 b t)) (hp : cp_522_302 s1 N) (hC : C0 (cf_522_302 s1 N)) : mz_G (d, mz_X0 L xs, none, [], mk_522, 5, Q) 302 mt_522_302 [(0, .ref 232)] [.int (mz_b01 s1), .ref 232] false (mz_k S R N b t) := by
  unfold cf_522_302 at hC
  unfold cp_522_302 at hp
  refine g_putZ (z := s1) (mz_at hS (Nat.le_of_ble_eq_true rfl) mzcS_232) mzcf_12_63 ?_
  refine g_weak ?_ (g_cl (cg_522_305 hd hS hR (mz_pI N 232 63 (mz_b01 s1)) hr hp hC))
  exact ⟨rfl, trivial⟩
theorem cg_522_283 (hd : 1 ≤ d) (hS : mz_extR S 342) (hR : mz_rok R 342)  (s1 : Int32) (N : mz_N) {C0 : (mz_N) → Prop} (hr : ∀ (N2 : mz_N), C0 N2 → Q (.inl none) (mz_k S R N2 b t)) (hp : cp_522_283 s1 N) (hC : C0 (cf_522_283 s1 N)) : mz_G (d, mz_X0 L xs, none, [], mk_522, 5, Q) 283 mt_522_283 [(0, .ref 232)] [.int s1, .ref 232] false (mz_k S R N b t) := by
  unfold cf_522_283 at hC
  unfold cp_522_283 at hp
  refine g_putI (mz_at hS (Nat.le_of_ble_eq_true rfl) mzcS_232) mzcf_12_61 (g_aload_n rfl (g_aload_n rfl (g_getI (mz_at hS (Nat.le_of_ble_eq_true rfl) mzcS_232) mzcf_12_61 (g_sipush mzs_2000 ?_))))
  refine g_icge (tg := 301) rfl ms_522_301 hC (fun h1 hC => ?_) (fun h1 hC => ?_)
  · have hp := hp.1 h1
    refine g_iconst mzi_1 (g_goto (tg := 302) rfl ms_522_302 ?_)
    refine g_weak ?_ (g_cl (cg_522_302 hd hS hR true (mz_pI N 232 61 s1) hr hp hC))
    exact ⟨rfl, trivial⟩
  · have hp := hp.2 h1
    refine g_iconst mzi_0 ?_
    refine g_weak ?_ (g_cl (cg_522_302 hd hS hR false (mz_pI N 232 61 s1) hr hp hC))
    exact ⟨rfl, trivial⟩
theorem cg_522_246 (hd : 1 ≤ d) (hS : mz_extR S 342) (hR : mz_rok R 342)  (s1 : Bool) (N : mz_N) {C0 : (mz_N) → Prop} (hr : ∀ (N2 : mz_N), C0 N2 → Q (.inl none) (mz_k S R N2 b t)) (hp : cp_522_246 s1 N) (hC : C0 (cf_522_246 s1 N)) : mz_G (d, mz_X0 L xs, none, [], mk_522, 5, Q) 246 mt_522_246 [(0, .ref 232)] [.int (mz_b01 s1), .ref 232] false (mz_k S R N b t) := by
  unfold cf_522_246 at hC
  unfold cp_522_246 at hp
  refine g_putZ (z := s1) (mz_at hS (Nat.le_of_ble_eq_true rfl) mzcS_232) mzcf_12_64 (g_aload_n rfl ?_)
  obtain ⟨h1, hp⟩ := hp
  refine g_getZ (mz_at hS (Nat.le_of_ble_eq_true rfl) mzcS_232) mzcf_12_64 h1 ?_
  refine g_zeq (tg := 305) rfl ms_522_305 hC (fun h2 hC => ?_) (fun h2 hC => ?_)
  · have hp := hp.1 h2
    refine g_aload_n rfl (g_aload_n rfl (g_getI (mz_at hS (Nat.le_of_ble_eq_true rfl) mzcS_232) mzcf_12_61 (g_bipush mzb_60 (g_iadd (g_sipush mzs_2000 ?_)))))
    refine g_icle (tg := 276) rfl ms_522_276 hC (fun h3 hC => ?_) (fun h3 hC => ?_)
    · have hp := hp.1 h3
      refine g_sipush mzs_2000 (g_goto (tg := 283) rfl ms_522_283 ?_)
      refine g_weak ?_ (g_cl (cg_522_283 hd hS hR 2000 (mz_pI N 232 64 (mz_b01 s1)) hr hp hC))
      exact ⟨rfl, trivial⟩
    · have hp := hp.2 h3
      refine g_aload_n rfl (g_getI (mz_at hS (Nat.le_of_ble_eq_true rfl) mzcS_232) mzcf_12_61 (g_bipush mzb_60 (g_iadd ?_)))
      refine g_weak ?_ (g_cl (cg_522_283 hd hS hR (((mz_pI N 232 64 (mz_b01 s1)).1 232 61) + 60) (mz_pI N 232 64 (mz_b01 s1)) hr hp hC))
      exact ⟨rfl, trivial⟩
  · have hp := hp.2 h2
    refine g_weak ?_ (g_cl (cg_522_305 hd hS hR (mz_pI N 232 64 (mz_b01 s1)) hr hp hC))
    exact ⟨rfl, trivial⟩
theorem cg_522_245 (hd : 1 ≤ d) (hS : mz_extR S 342) (hR : mz_rok R 342)  (N : mz_N) {C0 : (mz_N) → Prop} (hr : ∀ (N2 : mz_N), C0 N2 → Q (.inl none) (mz_k S R N2 b t)) (hp : cp_522_245 N) (hC : C0 (cf_522_245 N)) : mz_G (d, mz_X0 L xs, none, [], mk_522, 5, Q) 245 mt_522_245 [(0, .ref 232)] [.ref 232] false (mz_k S R N b t) := by
  unfold cf_522_245 at hC
  unfold cp_522_245 at hp
  refine g_iconst mzi_0 ?_
  refine g_weak ?_ (g_cl (cg_522_246 hd hS hR false N hr hp hC))
  exact ⟨rfl, trivial⟩
theorem cg_522_200 (hd : 1 ≤ d) (hS : mz_extR S 342) (hR : mz_rok R 342)  (s1 : Bool) (N : mz_N) {C0 : (mz_N) → Prop} (hr : ∀ (N2 : mz_N), C0 N2 → Q (.inl none) (mz_k S R N2 b t)) (hp : cp_522_200 s1 N) (hC : C0 (cf_522_200 s1 N)) : mz_G (d, mz_X0 L xs, none, [], mk_522, 5, Q) 200 mt_522_200 [(0, .ref 232)] [.int (mz_b01 s1), .ref 232] false (mz_k S R N b t) := by
  unfold cf_522_200 at hC
  unfold cp_522_200 at hp
  refine g_putZ (z := s1) (mz_at hS (Nat.le_of_ble_eq_true rfl) mzcS_232) mzcf_12_63 (g_aload_n rfl (g_aload_n rfl ?_))
  obtain ⟨h1, hp⟩ := hp
  refine g_getZ (mz_at hS (Nat.le_of_ble_eq_true rfl) mzcS_232) mzcf_12_63 h1 ?_
  refine g_zeq (tg := 245) rfl ms_522_245 hC (fun h2 hC => ?_) (fun h2 hC => ?_)
  · have hp := hp.1 h2
    refine g_aload_n rfl (g_getR (mz_at hS (Nat.le_of_ble_eq_true rfl) mzcS_232) mzcf_12_37 (mz_rb hR (Nat.le_of_ble_eq_true rfl) rfl mzcR_232_37) (g_bipush mzb_12 (g_iald hS.1 (mz_at hS (Nat.le_of_ble_eq_true rfl) mzcS_257) (mz_ibd (by decide)) (g_iconst mzi_1 ?_))))
    refine g_icne (tg := 245) rfl ms_522_245 hC (fun h3 hC => ?_) (fun h3 hC => ?_)
    · have hp := hp.1 h3
      refine g_aload_n rfl (g_getR (mz_at hS (Nat.le_of_ble_eq_true rfl) mzcS_232) mzcf_12_60 (mz_rb hR (Nat.le_of_ble_eq_true rfl) rfl mzcR_232_60) (g_bipush mzb_10 ?_))
      obtain ⟨h4, hp⟩ := hp
      refine g_zald (mz_at hS (Nat.le_of_ble_eq_true rfl) mzcS_276) (mz_ibd (by decide)) h4 ?_
      refine g_zeq (tg := 245) rfl ms_522_245 hC (fun h5 hC => ?_) (fun h5 hC => ?_)
      · have hp := hp.1 h5
        refine g_aload_n rfl (g_getR (mz_at hS (Nat.le_of_ble_eq_true rfl) mzcS_232) mzcf_12_102 (mz_rb hR (Nat.le_of_ble_eq_true rfl) rfl mzcR_232_102) (g_iconst mzi_1 ?_))
        obtain ⟨h6, hp⟩ := hp
        refine g_zald (mz_at hS (Nat.le_of_ble_eq_true rfl) mzcS_307) (mz_ibd (by decide)) h6 ?_
        refine g_zne (tg := 245) rfl ms_522_245 hC (fun h7 hC => ?_) (fun h7 hC => ?_)
        · have hp := hp.1 h7
          refine g_weak ?_ (g_cl (cg_522_245 hd hS hR (mz_pI N 232 63 (mz_b01 s1)) hr hp hC))
          exact ⟨rfl, trivial⟩
        · have hp := hp.2 h7
          refine g_iconst mzi_1 (g_goto (tg := 246) rfl ms_522_246 ?_)
          refine g_weak ?_ (g_cl (cg_522_246 hd hS hR true (mz_pI N 232 63 (mz_b01 s1)) hr hp hC))
          exact ⟨rfl, trivial⟩
      · have hp := hp.2 h5
        refine g_weak ?_ (g_cl (cg_522_245 hd hS hR (mz_pI N 232 63 (mz_b01 s1)) hr hp hC))
        exact ⟨rfl, trivial⟩
    · have hp := hp.2 h3
      refine g_weak ?_ (g_cl (cg_522_245 hd hS hR (mz_pI N 232 63 (mz_b01 s1)) hr hp hC))
      exact ⟨rfl, trivial⟩
  · have hp := hp.2 h2
    refine g_weak ?_ (g_cl (cg_522_245 hd hS hR (mz_pI N 232 63 (mz_b01 s1)) hr hp hC))
    exact ⟨rfl, trivial⟩
theorem cg_522_195 (hd : 1 ≤ d) (hS : mz_extR S 342) (hR : mz_rok R 342)  (N : mz_N) {C0 : (mz_N) → Prop} (hr : ∀ (N2 : mz_N), C0 N2 → Q (.inl none) (mz_k S R N2 b t)) (hp : cp_522_195 N) (hC : C0 (cf_522_195 N)) : mz_G (d, mz_X0 L xs, none, [], mk_522, 5, Q) 195 mt_522_195 [(0, .ref 232)] [.ref 232] false (mz_k S R N b t) := by
  unfold cf_522_195 at hC
  unfold cp_522_195 at hp
  refine g_iconst mzi_1 (g_goto (tg := 200) rfl ms_522_200 ?_)
  refine g_weak ?_ (g_cl (cg_522_200 hd hS hR true N hr hp hC))
  exact ⟨rfl, trivial⟩
theorem cg_522_171 (hd : 1 ≤ d) (hS : mz_extR S 342) (hR : mz_rok R 342)  (v1 : Int32) (v2 : Int32) (N : mz_N) {C0 : (mz_N) → Prop} (hr : ∀ (N2 : mz_N), C0 N2 → Q (.inl none) (mz_k S R N2 b t)) {C1 : ((Int32 × mz_N) ⊕ (mz_N)) → Prop} (hc1 : ∀ s2, C1 (.inl s2) → mz_G (d, mz_X0 L xs, none, [], mk_522, 5, Q) 7 mt_522_7 [(0, .ref 232), (1, .int v1), (2, .int s2.1)] [] false (mz_k S R s2.2 b t)) (hx1 : ∀ z, C1 (.inr z) → C0 z) (hp : cp_522_171 v1 v2 N) (hC : C1 (cf_522_171 v1 v2 N)) : mz_G (d, mz_X0 L xs, none, [], mk_522, 5, Q) 171 mt_522_171 [(0, .ref 232), (1, .int v1), (2, .int v2)] [] false (mz_k S R N b t) := by
  unfold cf_522_171 at hC
  unfold cp_522_171 at hp
  refine g_iinc rfl mzi_1 (Nat.le_of_ble_eq_true rfl) rfl (g_goto (tg := 7) rfl ms_522_7 ?_)
  refine g_weak ?_ (g_cl (hc1 ((v2 + 1), N) hC))
  exact ⟨rfl, rfl, rfl, trivial⟩
theorem cg_522_146 (hd : 1 ≤ d) (hS : mz_extR S 342) (hR : mz_rok R 342)  (s1 : Int32) (v1 : Int32) (v2 : Int32) (v3 : Int32) (v4 : Int32) (N : mz_N) {C0 : (mz_N) → Prop} (hr : ∀ (N2 : mz_N), C0 N2 → Q (.inl none) (mz_k S R N2 b t)) {C1 : ((Int32 × mz_N) ⊕ (mz_N)) → Prop} (hc1 : ∀ s2, C1 (.inl s2) → mz_G (d, mz_X0 L xs, none, [], mk_522, 5, Q) 7 mt_522_7 [(0, .ref 232), (1, .int v1), (2, .int s2.1)] [] false (mz_k S R s2.2 b t)) (hx1 : ∀ z, C1 (.inr z) → C0 z) (hp : cp_522_146 s1 v1 v2 v3 v4 N) (hC : C1 (cf_522_146 s1 v1 v2 v3 v4 N)) : mz_G (d, mz_X0 L xs, none, [], mk_522, 5, Q) 146 mt_522_146 [(0, .ref 232), (1, .int v1), (2, .int v2), (3, .int v3), (4, .int v4)] [.int s1, .ref 232] false (mz_k S R N b t) := by
  unfold cf_522_146 at hC
  unfold cp_522_146 at hp
  refine g_putI (mz_at hS (Nat.le_of_ble_eq_true rfl) mzcS_232) mzcf_12_62 (g_aload_n rfl (g_getR (mz_at hS (Nat.le_of_ble_eq_true rfl) mzcS_232) mzcf_12_69 (mz_rb hR (Nat.le_of_ble_eq_true rfl) rfl mzcR_232_69) (g_iload_n rfl (g_iload rfl ?_))))
  obtain ⟨h1, hp⟩ := hp
  refine g_iast (mz_at hS (Nat.le_of_ble_eq_true rfl) mzcS_277) h1 (g_aload_n rfl (g_getR (mz_at hS (Nat.le_of_ble_eq_true rfl) mzcS_232) mzcf_12_119 (mz_rb hR (Nat.le_of_ble_eq_true rfl) rfl mzcR_232_119) (g_iload_n rfl (g_dup2 rfl rfl ?_))))
  obtain ⟨h2, hp⟩ := hp
  refine g_lald (mz_at hS (Nat.le_of_ble_eq_true rfl) mzcS_323) h2 (g_iload_n rfl (g_iload rfl (g_iadd (g_i2l (g_ladd ?_)))))
  obtain ⟨h3, hp⟩ := hp
  refine g_last (mz_at hS (Nat.le_of_ble_eq_true rfl) mzcS_323) h3 ?_
  refine g_weak ?_ (g_cl (cg_522_171 hd hS hR v1 v2 (mz_wL (mz_wI (mz_pI N 232 62 s1) 277 v2 v4) 323 v2 ((mz_gL (mz_wI (mz_pI N 232 62 s1) 277 v2 v4) 323 v2) + ((v3 + v4).toInt64))) hr hc1 hx1 hp hC))
  exact ⟨rfl, rfl, rfl, trivial⟩
theorem cg_522_106 (hd : 1 ≤ d) (hS : mz_extR S 342) (hR : mz_rok R 342)  (s0 : Int32) (v1 : Int32) (v2 : Int32) (v3 : Int32) (N : mz_N) {C0 : (mz_N) → Prop} (hr : ∀ (N2 : mz_N), C0 N2 → Q (.inl none) (mz_k S R N2 b t)) {C1 : ((Int32 × mz_N) ⊕ (mz_N)) → Prop} (hc1 : ∀ s2, C1 (.inl s2) → mz_G (d, mz_X0 L xs, none, [], mk_522, 5, Q) 7 mt_522_7 [(0, .ref 232), (1, .int v1), (2, .int s2.1)] [] false (mz_k S R s2.2 b t)) (hx1 : ∀ z, C1 (.inr z) → C0 z) (hp : cp_522_106 s0 v1 v2 v3 N) (hC : C1 (cf_522_106 s0 v1 v2 v3 N)) : mz_G (d, mz_X0 L xs, none, [], mk_522, 5, Q) 106 mt_522_106 [(0, .ref 232), (1, .int v1), (2, .int v2), (3, .int v3)] [.int s0] false (mz_k S R N b t) := by
  unfold cf_522_106 at hC
  unfold cp_522_106 at hp
  refine g_istore (Nat.le_of_ble_eq_true rfl) rfl (g_aload_n rfl (g_dup rfl (g_getI (mz_at hS (Nat.le_of_ble_eq_true rfl) mzcS_232) mzcf_12_61 (g_iload rfl (g_isub (g_putI (mz_at hS (Nat.le_of_ble_eq_true rfl) mzcS_232) mzcf_12_61 (g_aload_n rfl ?_)))))))
  refine g_aload_n rfl (g_getI (mz_at hS (Nat.le_of_ble_eq_true rfl) mzcS_232) mzcf_12_62 (g_bipush mzb_40 (g_iload rfl (g_imul ?_))))
  refine g_icge (tg := 136) rfl ms_522_136 hC (fun h1 hC => ?_) (fun h1 hC => ?_)
  · have hp := hp.1 h1
    refine g_iconst mzi_0 (g_goto (tg := 146) rfl ms_522_146 ?_)
    refine g_weak ?_ (g_cl (cg_522_146 hd hS hR 0 v1 v2 v3 s0 (mz_pI N 232 61 ((N.1 232 61) - s0)) hr hc1 hx1 hp hC))
    exact ⟨rfl, rfl, rfl, rfl, rfl, trivial⟩
  · have hp := hp.2 h1
    refine g_aload_n rfl (g_getI (mz_at hS (Nat.le_of_ble_eq_true rfl) mzcS_232) mzcf_12_62 (g_bipush mzb_40 (g_iload rfl (g_imul (g_isub ?_)))))
    refine g_weak ?_ (g_cl (cg_522_146 hd hS hR (((mz_pI N 232 61 ((N.1 232 61) - s0)).1 232 62) - (40 * s0)) v1 v2 v3 s0 (mz_pI N 232 61 ((N.1 232 61) - s0)) hr hc1 hx1 hp hC))
    exact ⟨rfl, rfl, rfl, rfl, rfl, trivial⟩
theorem cg_522_79 (hd : 1 ≤ d) (hS : mz_extR S 342) (hR : mz_rok R 342)  (s0 : Int32) (v1 : Int32) (v2 : Int32) (N : mz_N) {C0 : (mz_N) → Prop} (hr : ∀ (N2 : mz_N), C0 N2 → Q (.inl none) (mz_k S R N2 b t)) {C1 : ((Int32 × mz_N) ⊕ (mz_N)) → Prop} (hc1 : ∀ s2, C1 (.inl s2) → mz_G (d, mz_X0 L xs, none, [], mk_522, 5, Q) 7 mt_522_7 [(0, .ref 232), (1, .int v1), (2, .int s2.1)] [] false (mz_k S R s2.2 b t)) (hx1 : ∀ z, C1 (.inr z) → C0 z) (hp : cp_522_79 s0 v1 v2 N) (hC : C1 (cf_522_79 s0 v1 v2 N)) : mz_G (d, mz_X0 L xs, none, [], mk_522, 5, Q) 79 mt_522_79 [(0, .ref 232), (1, .int v1), (2, .int v2)] [.int s0] false (mz_k S R N b t) := by
  unfold cf_522_79 at hC
  unfold cp_522_79 at hp
  refine g_istore_n (Nat.le_of_ble_eq_true rfl) rfl (g_aload_n rfl (g_dup rfl (g_getI (mz_at hS (Nat.le_of_ble_eq_true rfl) mzcS_232) mzcf_12_61 (g_iload_n rfl (g_isub (g_putI (mz_at hS (Nat.le_of_ble_eq_true rfl) mzcS_232) mzcf_12_61 (g_aload_n rfl ?_)))))))
  refine g_getI (mz_at hS (Nat.le_of_ble_eq_true rfl) mzcS_232) mzcf_12_61 (g_iconst mzi_4 ?_)
  refine g_icge (tg := 105) rfl ms_522_105 hC (fun h1 hC => ?_) (fun h1 hC => ?_)
  · have hp := hp.1 h1
    refine g_aload_n rfl (g_getI (mz_at hS (Nat.le_of_ble_eq_true rfl) mzcS_232) mzcf_12_61 (g_goto (tg := 106) rfl ms_522_106 ?_))
    refine g_weak ?_ (g_cl (cg_522_106 hd hS hR ((mz_pI N 232 61 ((N.1 232 61) - s0)).1 232 61) v1 v2 s0 (mz_pI N 232 61 ((N.1 232 61) - s0)) hr hc1 hx1 hp hC))
    exact ⟨rfl, rfl, rfl, rfl, trivial⟩
  · have hp := hp.2 h1
    refine g_iconst mzi_4 ?_
    refine g_weak ?_ (g_cl (cg_522_106 hd hS hR 4 v1 v2 s0 (mz_pI N 232 61 ((N.1 232 61) - s0)) hr hc1 hx1 hp hC))
    exact ⟨rfl, rfl, rfl, rfl, trivial⟩
theorem cg_522_58 (hd : 1 ≤ d) (hS : mz_extR S 342) (hR : mz_rok R 342)  (s1 : Bool) (v1 : Int32) (v2 : Int32) (N : mz_N) {C0 : (mz_N) → Prop} (hr : ∀ (N2 : mz_N), C0 N2 → Q (.inl none) (mz_k S R N2 b t)) {C1 : ((Int32 × mz_N) ⊕ (mz_N)) → Prop} (hc1 : ∀ s2, C1 (.inl s2) → mz_G (d, mz_X0 L xs, none, [], mk_522, 5, Q) 7 mt_522_7 [(0, .ref 232), (1, .int v1), (2, .int s2.1)] [] false (mz_k S R s2.2 b t)) (hx1 : ∀ z, C1 (.inr z) → C0 z) (hp : cp_522_58 s1 v1 v2 N) (hC : C1 (cf_522_58 s1 v1 v2 N)) : mz_G (d, mz_X0 L xs, none, [], mk_522, 5, Q) 58 mt_522_58 [(0, .ref 232), (1, .int v1), (2, .int v2)] [.int (mz_b01 s1), .ref 232] false (mz_k S R N b t) := by
  unfold cf_522_58 at hC
  unfold cp_522_58 at hp
  refine g_putZ (z := s1) (mz_at hS (Nat.le_of_ble_eq_true rfl) mzcS_232) mzcf_12_67 (g_aload_n rfl (g_getI (mz_at hS (Nat.le_of_ble_eq_true rfl) mzcS_232) mzcf_12_61 (g_bipush mzb_6 ?_)))
  refine g_icge (tg := 77) rfl ms_522_77 hC (fun h1 hC => ?_) (fun h1 hC => ?_)
  · have hp := hp.1 h1
    refine g_aload_n rfl (g_getI (mz_at hS (Nat.le_of_ble_eq_true rfl) mzcS_232) mzcf_12_61 (g_goto (tg := 79) rfl ms_522_79 ?_))
    refine g_weak ?_ (g_cl (cg_522_79 hd hS hR ((mz_pI N 232 67 (mz_b01 s1)).1 232 61) v1 v2 (mz_pI N 232 67 (mz_b01 s1)) hr hc1 hx1 hp hC))
    exact ⟨rfl, rfl, rfl, trivial⟩
  · have hp := hp.2 h1
    refine g_bipush mzb_6 ?_
    refine g_weak ?_ (g_cl (cg_522_79 hd hS hR 6 v1 v2 (mz_pI N 232 67 (mz_b01 s1)) hr hc1 hx1 hp hC))
    exact ⟨rfl, rfl, rfl, trivial⟩
theorem cg_522_53 (hd : 1 ≤ d) (hS : mz_extR S 342) (hR : mz_rok R 342)  (v1 : Int32) (v2 : Int32) (N : mz_N) {C0 : (mz_N) → Prop} (hr : ∀ (N2 : mz_N), C0 N2 → Q (.inl none) (mz_k S R N2 b t)) {C1 : ((Int32 × mz_N) ⊕ (mz_N)) → Prop} (hc1 : ∀ s2, C1 (.inl s2) → mz_G (d, mz_X0 L xs, none, [], mk_522, 5, Q) 7 mt_522_7 [(0, .ref 232), (1, .int v1), (2, .int s2.1)] [] false (mz_k S R s2.2 b t)) (hx1 : ∀ z, C1 (.inr z) → C0 z) (hp : cp_522_53 v1 v2 N) (hC : C1 (cf_522_53 v1 v2 N)) : mz_G (d, mz_X0 L xs, none, [], mk_522, 5, Q) 53 mt_522_53 [(0, .ref 232), (1, .int v1), (2, .int v2)] [.ref 232] false (mz_k S R N b t) := by
  unfold cf_522_53 at hC
  unfold cp_522_53 at hp
  refine g_iconst mzi_1 (g_goto (tg := 58) rfl ms_522_58 ?_)
  refine g_weak ?_ (g_cl (cg_522_58 hd hS hR true v1 v2 N hr hc1 hx1 hp hC))
  exact ⟨rfl, rfl, rfl, trivial⟩
theorem cb_522_7 (hd : 1 ≤ d) (hS : mz_extR S 342) (hR : mz_rok R 342)  (v1 : Int32) (s : Int32 × mz_N) {C0 : (mz_N) → Prop} (hr : ∀ (N2 : mz_N), C0 N2 → Q (.inl none) (mz_k S R N2 b t)) {C1 : ((Int32 × mz_N) ⊕ (mz_N)) → Prop} (hc1 : ∀ s2, C1 (.inl s2) → mz_G (d, mz_X0 L xs, none, [], mk_522, 5, Q) 7 mt_522_7 [(0, .ref 232), (1, .int v1), (2, .int s2.1)] [] false (mz_k S R s2.2 b t)) (hx1 : ∀ z, C1 (.inr z) → C0 z) (hp : cd_522_7 v1 s) (hC : C1 (cq_522_7 v1 s)) : mz_G (d, mz_X0 L xs, none, [], mk_522, 5, Q) 7 mt_522_7 [(0, .ref 232), (1, .int v1), (2, .int s.1)] [] false (mz_k S R s.2 b t) := by
  unfold cq_522_7 at hC
  unfold cd_522_7 at hp
  refine g_iload_n rfl (g_bipush mzb_10 ?_)
  refine g_icge (tg := 177) rfl ms_522_177 hC (fun h1 hC => ?_) (fun h1 hC => ?_)
  · have hp := hp.1 h1
    refine g_aload_n rfl (g_getR (mz_at hS (Nat.le_of_ble_eq_true rfl) mzcS_232) mzcf_12_69 (mz_rb hR (Nat.le_of_ble_eq_true rfl) rfl mzcR_232_69) (g_iload_n rfl (g_iconst mzi_0 ?_)))
    obtain ⟨h2, hp⟩ := hp
    refine g_iast (mz_at hS (Nat.le_of_ble_eq_true rfl) mzcS_277) h2 (g_aload_n rfl (g_iload_n rfl ?_))
    refine g_v2v (Nat.le_of_ble_eq_true rfl) (mz_at hS (Nat.le_of_ble_eq_true rfl) mzcS_232) (fun _ hq => cs_523 (Nat.le_trans (Nat.le_of_ble_eq_true rfl) hd) (hS.le (Nat.le_of_ble_eq_true rfl)) (hR.le (Nat.le_of_ble_eq_true rfl))  s.1 (mz_wI s.2 277 s.1 0) trivial hq) (g_iconst mzi_4 (g_aload_n rfl (g_iload_n rfl (g_iload_n rfl ?_))))
    obtain ⟨h4, hp⟩ := hp
    refine g_v3v (Nat.le_of_ble_eq_true rfl) (mz_at hS (Nat.le_of_ble_eq_true rfl) mzcS_232) (fun _ hq => cs_519 (Nat.le_trans (Nat.le_of_ble_eq_true rfl) hd) (hS.le (Nat.le_of_ble_eq_true rfl)) (hR.le (Nat.le_of_ble_eq_true rfl))  s.1 v1 (mz_wI s.2 277 s.1 0) h4 hq) (g_imul ?_)
    refine g_icge (tg := 171) rfl ms_522_171 hC (fun h5 hC => ?_) (fun h5 hC => ?_)
    · have hp := hp.1 h5
      refine g_aload_n rfl (g_aload_n rfl ?_)
      obtain ⟨h6, hp⟩ := hp
      refine g_getZ (mz_at hS (Nat.le_of_ble_eq_true rfl) mzcS_232) mzcf_12_67 h6 ?_
      refine g_zne (tg := 53) rfl ms_522_53 hC (fun h7 hC => ?_) (fun h7 hC => ?_)
      · have hp := hp.1 h7
        refine g_weak ?_ (g_cl (cg_522_53 hd hS hR v1 s.1 (mz_wI s.2 277 s.1 0) hr hc1 hx1 hp hC))
        exact ⟨rfl, rfl, rfl, trivial⟩
      · have hp := hp.2 h7
        refine g_aload_n rfl (g_getI (mz_at hS (Nat.le_of_ble_eq_true rfl) mzcS_232) mzcf_12_61 (g_bipush mzb_10 ?_))
        refine g_icge (tg := 57) rfl ms_522_57 hC (fun h8 hC => ?_) (fun h8 hC => ?_)
        · have hp := hp.1 h8
          refine g_weak ?_ (g_cl (cg_522_53 hd hS hR v1 s.1 (mz_wI s.2 277 s.1 0) hr hc1 hx1 hp hC))
          exact ⟨rfl, rfl, rfl, trivial⟩
        · have hp := hp.2 h8
          refine g_iconst mzi_0 ?_
          refine g_weak ?_ (g_cl (cg_522_58 hd hS hR false v1 s.1 (mz_wI s.2 277 s.1 0) hr hc1 hx1 hp hC))
          exact ⟨rfl, rfl, rfl, trivial⟩
    · have hp := hp.2 h5
      refine g_weak ?_ (g_cl (cg_522_171 hd hS hR v1 s.1 (mz_wI s.2 277 s.1 0) hr hc1 hx1 hp hC))
      exact ⟨rfl, rfl, rfl, trivial⟩
  · have hp := hp.2 h1
    refine g_aload_n rfl (g_aload_n rfl ?_)
    obtain ⟨h9, hp⟩ := hp
    refine g_getZ (mz_at hS (Nat.le_of_ble_eq_true rfl) mzcS_232) mzcf_12_63 h9 ?_
    refine g_zne (tg := 195) rfl ms_522_195 hC (fun h10 hC => ?_) (fun h10 hC => ?_)
    · have hp := hp.1 h10
      refine g_weak ?_ (g_cl (cg_522_195 hd hS hR s.2 hr hp (hx1 _ hC)))
      exact ⟨rfl, trivial⟩
    · have hp := hp.2 h10
      refine g_aload_n rfl (g_getI (mz_at hS (Nat.le_of_ble_eq_true rfl) mzcS_232) mzcf_12_61 (g_sipush mzs_500 ?_))
      refine g_icge (tg := 199) rfl ms_522_199 hC (fun h11 hC => ?_) (fun h11 hC => ?_)
      · have hp := hp.1 h11
        refine g_weak ?_ (g_cl (cg_522_195 hd hS hR s.2 hr hp (hx1 _ hC)))
        exact ⟨rfl, trivial⟩
      · have hp := hp.2 h11
        refine g_iconst mzi_0 ?_
        refine g_weak ?_ (g_cl (cg_522_200 hd hS hR false s.2 hr hp (hx1 _ hC)))
        exact ⟨rfl, trivial⟩
theorem cg_522_7 (hd : 1 ≤ d) (hS : mz_extR S 342) (hR : mz_rok R 342)  (v1 : Int32) (v2 : Int32) (N : mz_N) {C0 : (mz_N) → Prop} (hr : ∀ (N2 : mz_N), C0 N2 → Q (.inl none) (mz_k S R N2 b t)) (hp : cp_522_7 v1 v2 N) (hC : C0 (cf_522_7 v1 v2 N)) : mz_G (d, mz_X0 L xs, none, [], mk_522, 5, Q) 7 mt_522_7 [(0, .ref 232), (1, .int v1), (2, .int v2)] [] false (mz_k S R N b t) := by
  obtain ⟨n, hn⟩ := hp
  exact g_loop (G := fun s => mz_G (d, mz_X0 L xs, none, [], mk_522, 5, Q) 7 mt_522_7 [(0, .ref 232), (1, .int v1), (2, .int s.1)] [] false (mz_k S R s.2 b t)) (C := C0) (fun C2 hc hx s hP hC => cb_522_7 hd hS hR v1 s hr hc hx hP hC) n (v2, N) hn hC
theorem cg_522_0 (hd : 1 ≤ d) (hS : mz_extR S 342) (hR : mz_rok R 342)  (v1 : Int32) (N : mz_N) {C0 : (mz_N) → Prop} (hr : ∀ (N2 : mz_N), C0 N2 → Q (.inl none) (mz_k S R N2 b t)) (hp : cp_522_0 v1 N) (hC : C0 (cf_522_0 v1 N)) : mz_G (d, mz_X0 L xs, none, [], mk_522, 5, Q) 0 mk_522 [(0, .ref 232), (1, .int v1)] [] true (mz_k S R N b t) := by
  unfold cf_522_0 at hC
  unfold cp_522_0 at hp
  refine g_aload_n rfl (g_iconst mzi_0 (g_putZ (z := false) (mz_at hS (Nat.le_of_ble_eq_true rfl) mzcS_232) mzcf_12_67 (g_iconst mzi_0 (g_istore_n (Nat.le_of_ble_eq_true rfl) rfl ?_))))
  refine g_weak ?_ (g_cl (cg_522_7 hd hS hR v1 0 (mz_pI N 232 67 (mz_b01 false)) hr hp hC))
  exact ⟨rfl, rfl, rfl, trivial⟩
theorem cs_522 (hd : 2 ≤ d) (hS : mz_extR S 342) (hR : mz_rok R 342)  (v1 : Int32) (N : mz_N) (hp : cp_522_0 v1 N) (hq : Q (.inl none) (mz_k S R (cf_522_0 v1 N) b t)) : mz_Ed (mz_X0 L xs) d 522 [.ref 232, .int v1] (mz_k S R N b t) Q :=
  by
  refine g_in mzq_522 (Nat.le_of_ble_eq_true rfl) (Nat.le_of_ble_eq_true rfl) (Nat.le_trans (Nat.le_of_ble_eq_true rfl) hd) ?_
  refine g_weak ?_ (cg_522_0 (d := d - 1) (by omega) hS hR v1 N (C0 := fun z => Q (.inl none) (mz_k S R z b t)) (fun _ h => h) hp hq)
  exact ⟨rfl, rfl, trivial⟩
/-! 525 KeptHouseModel.gather ([J[J)V -/
theorem ms_525_0 : mz_sf mk_525 0 = mk_525 := mz_sf_zero _
theorem ms_525_2 : mz_sf mk_525 2 = mt_525_2 := mz_sf_add ms_525_0 (t := 2) rfl rfl
theorem ms_525_20 : mz_sf mk_525 20 = mt_525_20 := mz_sf_add ms_525_2 (t := 18) rfl rfl
theorem ms_525_22 : mz_sf mk_525 22 = mt_525_22 := mz_sf_add ms_525_20 (t := 2) rfl rfl
theorem ms_525_43 : mz_sf mk_525 43 = mt_525_43 := mz_sf_add ms_525_22 (t := 21) rfl rfl
theorem ms_525_49 : mz_sf mk_525 49 = mt_525_49 := mz_sf_add ms_525_43 (t := 6) rfl rfl
set_option maxRecDepth 100000 in
theorem mzq_525 : mz_PG0 525 = some (12, ⟨"KeptHouseModel", "gather", "([J[J)V"⟩, prog_14_method_92_code, 4, none, [], mk_525, []) := rfl
theorem cg_525_43 (hd : 0 ≤ d) (hS : mz_extR S 342) (hR : mz_rok R 342) (a1 : Nat) (a2 : Nat) (n2 : Nat) (hs1 : S[a1]? = some (1, 240, [])) (hs2 : S[a2]? = some (1, n2, [])) (v3 : Int32) (N : mz_N) {C0 : (mz_N) → Prop} (hr : ∀ (N2 : mz_N), C0 N2 → Q (.inl none) (mz_k S R N2 b t)) {C1 : ((Int32 × mz_N) ⊕ (mz_N)) → Prop} (hc1 : ∀ s2, C1 (.inl s2) → mz_G (d, mz_X0 L xs, none, [], mk_525, 4, Q) 22 mt_525_22 [(0, .ref 232), (1, .ref a1), (2, .ref a2), (3, .int s2.1)] [] false (mz_k S R s2.2 b t)) (hx1 : ∀ z, C1 (.inr z) → C0 z) (hp : cp_525_43 a1 a2 n2 v3 N) (hC : C1 (cf_525_43 a1 a2 n2 v3 N)) : mz_G (d, mz_X0 L xs, none, [], mk_525, 4, Q) 43 mt_525_43 [(0, .ref 232), (1, .ref a1), (2, .ref a2), (3, .int v3)] [] false (mz_k S R N b t) := by
  unfold cf_525_43 at hC
  unfold cp_525_43 at hp
  refine g_iinc rfl mzi_1 (Nat.le_of_ble_eq_true rfl) rfl (g_goto (tg := 22) rfl ms_525_22 ?_)
  refine g_weak ?_ (g_cl (hc1 ((v3 + 1), N) hC))
  exact ⟨rfl, rfl, rfl, rfl, trivial⟩
theorem cb_525_22 (hd : 0 ≤ d) (hS : mz_extR S 342) (hR : mz_rok R 342) (a1 : Nat) (a2 : Nat) (n2 : Nat) (hs1 : S[a1]? = some (1, 240, [])) (hs2 : S[a2]? = some (1, n2, []))  (s : Int32 × mz_N) {C0 : (mz_N) → Prop} (hr : ∀ (N2 : mz_N), C0 N2 → Q (.inl none) (mz_k S R N2 b t)) {C1 : ((Int32 × mz_N) ⊕ (mz_N)) → Prop} (hc1 : ∀ s2, C1 (.inl s2) → mz_G (d, mz_X0 L xs, none, [], mk_525, 4, Q) 22 mt_525_22 [(0, .ref 232), (1, .ref a1), (2, .ref a2), (3, .int s2.1)] [] false (mz_k S R s2.2 b t)) (hx1 : ∀ z, C1 (.inr z) → C0 z) (hp : cd_525_22 a1 a2 n2 s) (hC : C1 (cq_525_22 a1 a2 n2 s)) : mz_G (d, mz_X0 L xs, none, [], mk_525, 4, Q) 22 mt_525_22 [(0, .ref 232), (1, .ref a1), (2, .ref a2), (3, .int s.1)] [] false (mz_k S R s.2 b t) := by
  unfold cq_525_22 at hC
  unfold cd_525_22 at hp
  refine g_iload_n rfl (g_sipush mzs_240 ?_)
  refine g_icge (tg := 49) rfl ms_525_49 hC (fun h1 hC => ?_) (fun h1 hC => ?_)
  · have hp := hp.1 h1
    refine g_aload_n rfl (g_aload_n rfl (g_getR (mz_at hS (Nat.le_of_ble_eq_true rfl) mzcS_232) mzcf_12_6 (mz_rb hR (Nat.le_of_ble_eq_true rfl) rfl mzcR_232_6) (g_iload_n rfl ?_)))
    obtain ⟨h2, hp⟩ := hp
    refine g_iald hS.1 (mz_at hS (Nat.le_of_ble_eq_true rfl) mzcS_235) h2 (g_dup2 rfl rfl ?_)
    obtain ⟨h3, hp⟩ := hp
    refine g_lald hs2 h3 (g_aload_n rfl (g_iload_n rfl ?_))
    obtain ⟨h4, hp⟩ := hp
    refine g_lald hs1 h4 (g_ladd ?_)
    obtain ⟨h5, hp⟩ := hp
    refine g_last hs2 h5 ?_
    refine g_weak ?_ (g_cl (cg_525_43 hd hS hR a1 a2 n2 hs1 hs2 s.1 (mz_wL s.2 a2 (mz_gI s.2 235 s.1) ((mz_gL s.2 a2 (mz_gI s.2 235 s.1)) + (mz_gL s.2 a1 s.1))) hr hc1 hx1 hp hC))
    exact ⟨rfl, rfl, rfl, rfl, trivial⟩
  · have hp := hp.2 h1
    exact g_vret rfl (hr _ (hx1 _ hC))
theorem cg_525_22 (hd : 0 ≤ d) (hS : mz_extR S 342) (hR : mz_rok R 342) (a1 : Nat) (a2 : Nat) (n2 : Nat) (hs1 : S[a1]? = some (1, 240, [])) (hs2 : S[a2]? = some (1, n2, [])) (v3 : Int32) (N : mz_N) {C0 : (mz_N) → Prop} (hr : ∀ (N2 : mz_N), C0 N2 → Q (.inl none) (mz_k S R N2 b t)) (hp : cp_525_22 a1 a2 n2 v3 N) (hC : C0 (cf_525_22 a1 a2 n2 v3 N)) : mz_G (d, mz_X0 L xs, none, [], mk_525, 4, Q) 22 mt_525_22 [(0, .ref 232), (1, .ref a1), (2, .ref a2), (3, .int v3)] [] false (mz_k S R N b t) := by
  obtain ⟨n, hn⟩ := hp
  exact g_loop (G := fun s => mz_G (d, mz_X0 L xs, none, [], mk_525, 4, Q) 22 mt_525_22 [(0, .ref 232), (1, .ref a1), (2, .ref a2), (3, .int s.1)] [] false (mz_k S R s.2 b t)) (C := C0) (fun C2 hc hx s hP hC => cb_525_22 hd hS hR a1 a2 n2 hs1 hs2 s hr hc hx hP hC) n (v3, N) hn hC
theorem cb_525_2 (hd : 0 ≤ d) (hS : mz_extR S 342) (hR : mz_rok R 342) (a1 : Nat) (a2 : Nat) (n2 : Nat) (hs1 : S[a1]? = some (1, 240, [])) (hs2 : S[a2]? = some (1, n2, []))  (s : Int32 × mz_N) {C0 : (mz_N) → Prop} (hr : ∀ (N2 : mz_N), C0 N2 → Q (.inl none) (mz_k S R N2 b t)) {C1 : ((Int32 × mz_N) ⊕ (mz_N)) → Prop} (hc1 : ∀ s2, C1 (.inl s2) → mz_G (d, mz_X0 L xs, none, [], mk_525, 4, Q) 2 mt_525_2 [(0, .ref 232), (1, .ref a1), (2, .ref a2), (3, .int s2.1)] [] false (mz_k S R s2.2 b t)) (hx1 : ∀ z, C1 (.inr z) → C0 z) (hp : cd_525_2 a1 a2 n2 s) (hC : C1 (cq_525_2 a1 a2 n2 s)) : mz_G (d, mz_X0 L xs, none, [], mk_525, 4, Q) 2 mt_525_2 [(0, .ref 232), (1, .ref a1), (2, .ref a2), (3, .int s.1)] [] false (mz_k S R s.2 b t) := by
  unfold cq_525_2 at hC
  unfold cd_525_2 at hp
  refine g_iload_n rfl (g_aload_n rfl (g_getI (mz_at hS (Nat.le_of_ble_eq_true rfl) mzcS_232) mzcf_12_7 ?_))
  refine g_icge (tg := 20) rfl ms_525_20 hC (fun h1 hC => ?_) (fun h1 hC => ?_)
  · have hp := hp.1 h1
    refine g_aload_n rfl (g_iload_n rfl (g_lconst mzl_0 ?_))
    have h2 := hp
    refine g_last hs2 h2 (g_iinc rfl mzi_1 (Nat.le_of_ble_eq_true rfl) rfl (g_goto (tg := 2) rfl ms_525_2 ?_))
    refine g_weak ?_ (g_cl (hc1 ((s.1 + 1), mz_wL s.2 a2 s.1 0) hC))
    exact ⟨rfl, rfl, rfl, rfl, trivial⟩
  · have hp := hp.2 h1
    refine g_iconst mzi_0 (g_istore_n (Nat.le_of_ble_eq_true rfl) rfl ?_)
    refine g_weak ?_ (g_cl (cg_525_22 hd hS hR a1 a2 n2 hs1 hs2 0 s.2 hr hp (hx1 _ hC)))
    exact ⟨rfl, rfl, rfl, rfl, trivial⟩
theorem cg_525_2 (hd : 0 ≤ d) (hS : mz_extR S 342) (hR : mz_rok R 342) (a1 : Nat) (a2 : Nat) (n2 : Nat) (hs1 : S[a1]? = some (1, 240, [])) (hs2 : S[a2]? = some (1, n2, [])) (v3 : Int32) (N : mz_N) {C0 : (mz_N) → Prop} (hr : ∀ (N2 : mz_N), C0 N2 → Q (.inl none) (mz_k S R N2 b t)) (hp : cp_525_2 a1 a2 n2 v3 N) (hC : C0 (cf_525_2 a1 a2 n2 v3 N)) : mz_G (d, mz_X0 L xs, none, [], mk_525, 4, Q) 2 mt_525_2 [(0, .ref 232), (1, .ref a1), (2, .ref a2), (3, .int v3)] [] false (mz_k S R N b t) := by
  obtain ⟨n, hn⟩ := hp
  exact g_loop (G := fun s => mz_G (d, mz_X0 L xs, none, [], mk_525, 4, Q) 2 mt_525_2 [(0, .ref 232), (1, .ref a1), (2, .ref a2), (3, .int s.1)] [] false (mz_k S R s.2 b t)) (C := C0) (fun C2 hc hx s hP hC => cb_525_2 hd hS hR a1 a2 n2 hs1 hs2 s hr hc hx hP hC) n (v3, N) hn hC
theorem cg_525_0 (hd : 0 ≤ d) (hS : mz_extR S 342) (hR : mz_rok R 342) (a1 : Nat) (a2 : Nat) (n2 : Nat) (hs1 : S[a1]? = some (1, 240, [])) (hs2 : S[a2]? = some (1, n2, [])) (N : mz_N) {C0 : (mz_N) → Prop} (hr : ∀ (N2 : mz_N), C0 N2 → Q (.inl none) (mz_k S R N2 b t)) (hp : cp_525_0 a1 a2 n2 N) (hC : C0 (cf_525_0 a1 a2 n2 N)) : mz_G (d, mz_X0 L xs, none, [], mk_525, 4, Q) 0 mk_525 [(0, .ref 232), (1, .ref a1), (2, .ref a2)] [] true (mz_k S R N b t) := by
  unfold cf_525_0 at hC
  unfold cp_525_0 at hp
  refine g_iconst mzi_0 (g_istore_n (Nat.le_of_ble_eq_true rfl) rfl ?_)
  refine g_weak ?_ (g_cl (cg_525_2 hd hS hR a1 a2 n2 hs1 hs2 0 N hr hp hC))
  exact ⟨rfl, rfl, rfl, rfl, trivial⟩
theorem cs_525 (hd : 1 ≤ d) (hS : mz_extR S 342) (hR : mz_rok R 342) (a1 : Nat) (a2 : Nat) (n2 : Nat) (hs1 : S[a1]? = some (1, 240, [])) (hs2 : S[a2]? = some (1, n2, [])) (N : mz_N) (hp : cp_525_0 a1 a2 n2 N) (hq : Q (.inl none) (mz_k S R (cf_525_0 a1 a2 n2 N) b t)) : mz_Ed (mz_X0 L xs) d 525 [.ref 232, .ref a1, .ref a2] (mz_k S R N b t) Q :=
  by
  refine g_in mzq_525 (Nat.le_of_ble_eq_true rfl) (Nat.le_of_ble_eq_true rfl) (Nat.le_trans (Nat.le_of_ble_eq_true rfl) hd) ?_
  refine g_weak ?_ (cg_525_0 (d := d - 1) (by omega) hS hR a1 a2 n2 hs1 hs2 N (C0 := fun z => Q (.inl none) (mz_k S R z b t)) (fun _ h => h) hp hq)
  exact ⟨rfl, rfl, rfl, trivial⟩
end Fn28
