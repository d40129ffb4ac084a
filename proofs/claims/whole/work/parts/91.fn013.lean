/-! THE FUNCTIONS: written by program: each method comes to its function. -/
section Fn13
variable {L : Nat} {xs : Nat → Int32} {d : Nat} {S : mz_S} {R : Nat → Nat → Option Nat} {Q : mz_Q} {N : mz_N} {b : Bool} {t : Nat}
/-! 269 KeptHouse.notePoints ()V -/
theorem ms_269_0 : mz_sf mk_269 0 = mk_269 := mz_sf_zero _
theorem ms_269_2 : mz_sf mk_269 2 = mt_269_2 := mz_sf_add ms_269_0 (t := 2) rfl rfl
theorem ms_269_51 : mz_sf mk_269 51 = mt_269_51 := mz_sf_add ms_269_2 (t := 49) rfl rfl
theorem ms_269_57 : mz_sf mk_269 57 = mt_269_57 := mz_sf_add ms_269_51 (t := 6) rfl rfl
set_option maxRecDepth 100000 in
theorem mzq_269 : mz_PG0 269 = some (11, ⟨"KeptHouse", "notePoints", "()V"⟩, prog_1_method_84_code, 2, none, [], mk_269, []) := rfl
theorem cg_269_51 (hd : 4 ≤ d) (hS : mz_ext S 232) (hR : mz_rok R 232)  (v1 : Int32) (N : mz_N) {C0 : (mz_N) → Prop} (hr : ∀ (N2 : mz_N), C0 N2 → Q (.inl none) (mz_k S R N2 b t)) {C1 : ((Int32 × mz_N) ⊕ (mz_N)) → Prop} (hc1 : ∀ s2, C1 (.inl s2) → mz_G (d, mz_X0 L xs, none, [], mk_269, 2, Q) 2 mt_269_2 [(0, .ref 0), (1, .int s2.1)] [] false (mz_k S R s2.2 b t)) (hx1 : ∀ z, C1 (.inr z) → C0 z) (hp : cp_269_51 v1 N) (hC : C1 (cf_269_51 v1 N)) : mz_G (d, mz_X0 L xs, none, [], mk_269, 2, Q) 51 mt_269_51 [(0, .ref 0), (1, .int v1)] [] false (mz_k S R N b t) := by
  unfold cf_269_51 at hC
  unfold cp_269_51 at hp
  refine g_iinc rfl mzi_1 (Nat.le_of_ble_eq_true rfl) rfl (g_goto (tg := 2) rfl ms_269_2 ?_)
  refine g_weak ?_ (g_cl (hc1 ((v1 + 1), N) hC))
  exact ⟨rfl, rfl, trivial⟩
theorem cb_269_2 (hd : 4 ≤ d) (hS : mz_ext S 232) (hR : mz_rok R 232)   (s : Int32 × mz_N) {C0 : (mz_N) → Prop} (hr : ∀ (N2 : mz_N), C0 N2 → Q (.inl none) (mz_k S R N2 b t)) {C1 : ((Int32 × mz_N) ⊕ (mz_N)) → Prop} (hc1 : ∀ s2, C1 (.inl s2) → mz_G (d, mz_X0 L xs, none, [], mk_269, 2, Q) 2 mt_269_2 [(0, .ref 0), (1, .int s2.1)] [] false (mz_k S R s2.2 b t)) (hx1 : ∀ z, C1 (.inr z) → C0 z) (hp : cd_269_2  s) (hC : C1 (cq_269_2  s)) : mz_G (d, mz_X0 L xs, none, [], mk_269, 2, Q) 2 mt_269_2 [(0, .ref 0), (1, .int s.1)] [] false (mz_k S R s.2 b t) := by
  unfold cq_269_2 at hC
  unfold cd_269_2 at hp
  refine g_iload_n rfl (g_bipush mzb_8 ?_)
  refine g_icge (tg := 57) rfl ms_269_57 hC (fun h1 hC => ?_) (fun h1 hC => ?_)
  · have hp := hp.1 h1
    refine g_aload_n rfl (g_getR (mz_at hS (Nat.le_of_ble_eq_true rfl) mzcS_0) mzcf_11_5 (mz_rb hR (Nat.le_of_ble_eq_true rfl) rfl mzcR_0_5) (g_getR (mz_at hS (Nat.le_of_ble_eq_true rfl) mzcS_81) mzcf_10_4 (mz_rb hR (Nat.le_of_ble_eq_true rfl) rfl mzcR_81_4) (g_iload_n rfl ?_)))
    obtain ⟨h2, hp⟩ := hp
    refine g_iald hS.1 (mz_at hS (Nat.le_of_ble_eq_true rfl) mzcS_87) h2 (g_iconst mzi_1 ?_)
    refine g_icne (tg := 51) rfl ms_269_51 hC (fun h3 hC => ?_) (fun h3 hC => ?_)
    · have hp := hp.1 h3
      refine g_aload_n rfl (g_getR (mz_at hS (Nat.le_of_ble_eq_true rfl) mzcS_0) mzcf_11_5 (mz_rb hR (Nat.le_of_ble_eq_true rfl) rfl mzcR_0_5) (g_iload_n rfl (g_aload_n rfl (g_aload_n rfl (g_getR (mz_at hS (Nat.le_of_ble_eq_true rfl) mzcS_0) mzcf_11_5 (mz_rb hR (Nat.le_of_ble_eq_true rfl) rfl mzcR_0_5) (g_getR (mz_at hS (Nat.le_of_ble_eq_true rfl) mzcS_81) mzcf_10_5 (mz_rb hR (Nat.le_of_ble_eq_true rfl) rfl mzcR_81_5) (g_iload_n rfl ?_)))))))
      obtain ⟨h4, hp⟩ := hp
      refine g_iald hS.1 (mz_at hS (Nat.le_of_ble_eq_true rfl) mzcS_88) h4 (g_aload_n rfl (g_getR (mz_at hS (Nat.le_of_ble_eq_true rfl) mzcS_0) mzcf_11_5 (mz_rb hR (Nat.le_of_ble_eq_true rfl) rfl mzcR_0_5) (g_getR (mz_at hS (Nat.le_of_ble_eq_true rfl) mzcS_81) mzcf_10_6 (mz_rb hR (Nat.le_of_ble_eq_true rfl) rfl mzcR_81_6) (g_iload_n rfl ?_))))
      obtain ⟨h5, hp⟩ := hp
      refine g_iald hS.1 (mz_at hS (Nat.le_of_ble_eq_true rfl) mzcS_89) h5 ?_
      obtain ⟨h6, hp⟩ := hp
      refine g_v3v (Nat.le_of_ble_eq_true rfl) (mz_at hS (Nat.le_of_ble_eq_true rfl) mzcS_0) (fun _ hq => cs_270 (Nat.le_trans (Nat.le_of_ble_eq_true rfl) hd) (hS.le (Nat.le_of_ble_eq_true rfl)) (hR.le (Nat.le_of_ble_eq_true rfl))  (mz_gI s.2 88 s.1) (mz_gI s.2 89 s.1) s.2 h6 hq) ?_
      obtain ⟨h7, hp⟩ := hp
      refine g_v3n (Nat.le_of_ble_eq_true rfl) (mz_at hS (Nat.le_of_ble_eq_true rfl) mzcS_81) (fun _ hq => cs_271 (Nat.le_trans (Nat.le_of_ble_eq_true rfl) hd) (hS.le (Nat.le_of_ble_eq_true rfl)) (hR.le (Nat.le_of_ble_eq_true rfl))  s.1 (cf_270_0 (mz_gI s.2 88 s.1) (mz_gI s.2 89 s.1) s.2) s.2 h7 hq) ?_
      refine g_weak ?_ (g_cl (cg_269_51 hd hS hR s.1 (cf_271_0 s.1 (cf_270_0 (mz_gI s.2 88 s.1) (mz_gI s.2 89 s.1) s.2) s.2) hr hc1 hx1 hp hC))
      exact ⟨rfl, rfl, trivial⟩
    · have hp := hp.2 h3
      refine g_weak ?_ (g_cl (cg_269_51 hd hS hR s.1 s.2 hr hc1 hx1 hp hC))
      exact ⟨rfl, rfl, trivial⟩
  · have hp := hp.2 h1
    exact g_vret rfl (hr _ (hx1 _ hC))
theorem cg_269_2 (hd : 4 ≤ d) (hS : mz_ext S 232) (hR : mz_rok R 232)  (v1 : Int32) (N : mz_N) {C0 : (mz_N) → Prop} (hr : ∀ (N2 : mz_N), C0 N2 → Q (.inl none) (mz_k S R N2 b t)) (hp : cp_269_2 v1 N) (hC : C0 (cf_269_2 v1 N)) : mz_G (d, mz_X0 L xs, none, [], mk_269, 2, Q) 2 mt_269_2 [(0, .ref 0), (1, .int v1)] [] false (mz_k S R N b t) := by
  obtain ⟨n, hn⟩ := hp
  exact g_loop (G := fun s => mz_G (d, mz_X0 L xs, none, [], mk_269, 2, Q) 2 mt_269_2 [(0, .ref 0), (1, .int s.1)] [] false (mz_k S R s.2 b t)) (C := C0) (fun C2 hc hx s hP hC => cb_269_2 hd hS hR  s hr hc hx hP hC) n (v1, N) hn hC
theorem cg_269_0 (hd : 4 ≤ d) (hS : mz_ext S 232) (hR : mz_rok R 232)  (N : mz_N) {C0 : (mz_N) → Prop} (hr : ∀ (N2 : mz_N), C0 N2 → Q (.inl none) (mz_k S R N2 b t)) (hp : cp_269_0 N) (hC : C0 (cf_269_0 N)) : mz_G (d, mz_X0 L xs, none, [], mk_269, 2, Q) 0 mk_269 [(0, .ref 0)] [] true (mz_k S R N b t) := by
  unfold cf_269_0 at hC
  unfold cp_269_0 at hp
  refine g_iconst mzi_0 (g_istore_n (Nat.le_of_ble_eq_true rfl) rfl ?_)
  refine g_weak ?_ (g_cl (cg_269_2 hd hS hR 0 N hr hp hC))
  exact ⟨rfl, rfl, trivial⟩
theorem cs_269 (hd : 5 ≤ d) (hS : mz_ext S 232) (hR : mz_rok R 232)  (N : mz_N) (hp : cp_269_0 N) (hq : Q (.inl none) (mz_k S R (cf_269_0 N) b t)) : mz_Ed (mz_X0 L xs) d 269 [.ref 0] (mz_k S R N b t) Q :=
  by
  refine g_in mzq_269 (Nat.le_of_ble_eq_true rfl) (Nat.le_of_ble_eq_true rfl) (Nat.le_trans (Nat.le_of_ble_eq_true rfl) hd) ?_
  refine g_weak ?_ (cg_269_0 (d := d - 1) (by omega) hS hR N (C0 := fun z => Q (.inl none) (mz_k S R z b t)) (fun _ h => h) hp hq)
  exact ⟨rfl, trivial⟩
/-! 273 KeptHouse$Books.sumMeters (I)J -/
theorem ms_273_0 : mz_sf mk_273 0 = mk_273 := mz_sf_zero _
theorem ms_273_5 : mz_sf mk_273 5 = mt_273_5 := mz_sf_add ms_273_0 (t := 5) rfl rfl
theorem ms_273_25 : mz_sf mk_273 25 = mt_273_25 := mz_sf_add ms_273_5 (t := 20) rfl rfl
theorem ms_273_31 : mz_sf mk_273 31 = mt_273_31 := mz_sf_add ms_273_25 (t := 6) rfl rfl
set_option maxRecDepth 100000 in
theorem mzq_273 : mz_PG0 273 = some (1, ⟨"KeptHouse$Books", "sumMeters", "(I)J"⟩, prog_3_method_9_code, 5, some .long, [], mk_273, []) := rfl
theorem cb_273_5 (hd : 0 ≤ d) (hS : mz_ext S 232) (hR : mz_rok R 232)  (v1 : Int32) (N : mz_N) (s : Int64 × Int32) {C0 : (Int64) → Prop} (hr : ∀ (w : Int64), C0 w → Q (.inl (some (.long w))) (mz_k S R N b t)) {C1 : ((Int64 × Int32) ⊕ (Int64)) → Prop} (hc1 : ∀ s2, C1 (.inl s2) → mz_G (d, mz_X0 L xs, some .long, [], mk_273, 5, Q) 5 mt_273_5 [(0, .ref 208), (1, .int v1), (2, .long s2.1), (4, .int s2.2)] [] false (mz_k S R N b t)) (hx1 : ∀ z, C1 (.inr z) → C0 z) (hp : cd_273_5 v1 N s) (hC : C1 (cq_273_5 v1 N s)) : mz_G (d, mz_X0 L xs, some .long, [], mk_273, 5, Q) 5 mt_273_5 [(0, .ref 208), (1, .int v1), (2, .long s.1), (4, .int s.2)] [] false (mz_k S R N b t) := by
  unfold cq_273_5 at hC
  unfold cd_273_5 at hp
  refine g_iload rfl (g_bipush mzb_11 ?_)
  refine g_icge (tg := 31) rfl ms_273_31 hC (fun h1 hC => ?_) (fun h1 hC => ?_)
  · have hp := hp.1 h1
    refine g_lload_n rfl (g_aload_n rfl (g_getR (mz_at hS (Nat.le_of_ble_eq_true rfl) mzcS_208) mzcf_1_5 (mz_rb hR (Nat.le_of_ble_eq_true rfl) rfl mzcR_208_5) (g_iload_n rfl ?_)))
    obtain ⟨h2, hp⟩ := hp
    refine g_aald4 (mz_at hS (Nat.le_of_ble_eq_true rfl) mzcS_209) h2 (mz_rb hR (Nat.le_of_ble_eq_true rfl) rfl (mzcR2_209 h2)) (g_iload rfl ?_)
    have h3 := hp
    refine g_iald hS.1 (mz_at hS (mzcL2_209 h2 (Nat.le_of_ble_eq_true rfl)) (mzcS2_209 h2)) h3 (g_i2l (g_ladd (g_lstore_n (Nat.le_of_ble_eq_true rfl) rfl rfl (g_iinc rfl mzi_1 (Nat.le_of_ble_eq_true rfl) rfl (g_goto (tg := 5) rfl ms_273_5 ?_)))))
    refine g_weak ?_ (g_cl (hc1 ((s.1 + ((mz_gI N (210 + v1.toNatClampNeg) s.2).toInt64)), (s.2 + 1)) hC))
    exact ⟨rfl, rfl, rfl, rfl, trivial⟩
  · have hp := hp.2 h1
    refine g_lload_n rfl ?_
    exact g_lret rfl (hr _ (hx1 _ hC))
theorem cg_273_5 (hd : 0 ≤ d) (hS : mz_ext S 232) (hR : mz_rok R 232)  (v1 : Int32) (v2 : Int64) (v4 : Int32) (N : mz_N) {C0 : (Int64) → Prop} (hr : ∀ (w : Int64), C0 w → Q (.inl (some (.long w))) (mz_k S R N b t)) (hp : cp_273_5 v1 v2 v4 N) (hC : C0 (cf_273_5 v1 v2 v4 N)) : mz_G (d, mz_X0 L xs, some .long, [], mk_273, 5, Q) 5 mt_273_5 [(0, .ref 208), (1, .int v1), (2, .long v2), (4, .int v4)] [] false (mz_k S R N b t) := by
  obtain ⟨n, hn⟩ := hp
  exact g_loop (G := fun s => mz_G (d, mz_X0 L xs, some .long, [], mk_273, 5, Q) 5 mt_273_5 [(0, .ref 208), (1, .int v1), (2, .long s.1), (4, .int s.2)] [] false (mz_k S R N b t)) (C := C0) (fun C2 hc hx s hP hC => cb_273_5 hd hS hR v1 N s hr hc hx hP hC) n (v2, v4) hn hC
theorem cg_273_0 (hd : 0 ≤ d) (hS : mz_ext S 232) (hR : mz_rok R 232)  (v1 : Int32) (N : mz_N) {C0 : (Int64) → Prop} (hr : ∀ (w : Int64), C0 w → Q (.inl (some (.long w))) (mz_k S R N b t)) (hp : cp_273_0 v1 N) (hC : C0 (cf_273_0 v1 N)) : mz_G (d, mz_X0 L xs, some .long, [], mk_273, 5, Q) 0 mk_273 [(0, .ref 208), (1, .int v1)] [] true (mz_k S R N b t) := by
  unfold cf_273_0 at hC
  unfold cp_273_0 at hp
  refine g_lconst mzl_0 (g_lstore_n (Nat.le_of_ble_eq_true rfl) rfl rfl (g_iconst mzi_0 (g_istore (Nat.le_of_ble_eq_true rfl) rfl ?_)))
  refine g_weak ?_ (g_cl (cg_273_5 hd hS hR v1 0 0 N hr hp hC))
  exact ⟨rfl, rfl, rfl, rfl, trivial⟩
theorem cs_273 (hd : 1 ≤ d) (hS : mz_ext S 232) (hR : mz_rok R 232)  (v1 : Int32) (N : mz_N) (hp : cp_273_0 v1 N) (hq : Q (.inl (some (.long (cf_273_0 v1 N)))) (mz_k S R N b t)) : mz_Ed (mz_X0 L xs) d 273 [.ref 208, .int v1] (mz_k S R N b t) Q :=
  by
  refine g_in mzq_273 (Nat.le_of_ble_eq_true rfl) (Nat.le_of_ble_eq_true rfl) (Nat.le_trans (Nat.le_of_ble_eq_true rfl) hd) ?_
  refine g_weak ?_ (cg_273_0 (d := d - 1) (by omega) hS hR v1 N (C0 := fun z => Q (.inl (some (.long z))) (mz_k S R N b t)) (fun _ h => h) hp hq)
  exact ⟨rfl, rfl, trivial⟩
/-! 275 KeptHouse$Books.addShares ()V -/
theorem ms_275_0 : mz_sf mk_275 0 = mk_275 := mz_sf_zero _
theorem ms_275_2 : mz_sf mk_275 2 = mt_275_2 := mz_sf_add ms_275_0 (t := 2) rfl rfl
theorem ms_275_23 : mz_sf mk_275 23 = mt_275_23 := mz_sf_add ms_275_2 (t := 21) rfl rfl
theorem ms_275_29 : mz_sf mk_275 29 = mt_275_29 := mz_sf_add ms_275_23 (t := 6) rfl rfl
set_option maxRecDepth 100000 in
theorem mzq_275 : mz_PG0 275 = some (1, ⟨"KeptHouse$Books", "addShares", "()V"⟩, prog_3_method_12_code, 2, none, [], mk_275, []) := rfl
theorem cb_275_2 (hd : 0 ≤ d) (hS : mz_ext S 232) (hR : mz_rok R 232)   (s : Int32 × mz_N) {C0 : (mz_N) → Prop} (hr : ∀ (N2 : mz_N), C0 N2 → Q (.inl none) (mz_k S R N2 b t)) {C1 : ((Int32 × mz_N) ⊕ (mz_N)) → Prop} (hc1 : ∀ s2, C1 (.inl s2) → mz_G (d, mz_X0 L xs, none, [], mk_275, 2, Q) 2 mt_275_2 [(0, .ref 208), (1, .int s2.1)] [] false (mz_k S R s2.2 b t)) (hx1 : ∀ z, C1 (.inr z) → C0 z) (hp : cd_275_2  s) (hC : C1 (cq_275_2  s)) : mz_G (d, mz_X0 L xs, none, [], mk_275, 2, Q) 2 mt_275_2 [(0, .ref 208), (1, .int s.1)] [] false (mz_k S R s.2 b t) := by
  unfold cq_275_2 at hC
  unfold cd_275_2 at hp
  refine g_iload_n rfl (g_bipush mzb_10 ?_)
  refine g_icge (tg := 29) rfl ms_275_29 hC (fun h1 hC => ?_) (fun h1 hC => ?_)
  · have hp := hp.1 h1
    refine g_aload_n rfl (g_getR (mz_at hS (Nat.le_of_ble_eq_true rfl) mzcS_208) mzcf_1_7 (mz_rb hR (Nat.le_of_ble_eq_true rfl) rfl mzcR_208_7) (g_iload_n rfl (g_dup2 rfl rfl ?_)))
    obtain ⟨h2, hp⟩ := hp
    refine g_lald (mz_at hS (Nat.le_of_ble_eq_true rfl) mzcS_214) h2 (g_aload_n rfl (g_getR (mz_at hS (Nat.le_of_ble_eq_true rfl) mzcS_208) mzcf_1_10 (mz_rb hR (Nat.le_of_ble_eq_true rfl) rfl mzcR_208_10) (g_iload_n rfl ?_)))
    obtain ⟨h3, hp⟩ := hp
    refine g_lald (mz_at hS (Nat.le_of_ble_eq_true rfl) mzcS_217) h3 (g_ladd ?_)
    have h4 := hp
    refine g_last (mz_at hS (Nat.le_of_ble_eq_true rfl) mzcS_214) h4 (g_iinc rfl mzi_1 (Nat.le_of_ble_eq_true rfl) rfl (g_goto (tg := 2) rfl ms_275_2 ?_))
    refine g_weak ?_ (g_cl (hc1 ((s.1 + 1), mz_wL s.2 214 s.1 ((mz_gL s.2 214 s.1) + (mz_gL s.2 217 s.1))) hC))
    exact ⟨rfl, rfl, trivial⟩
  · have hp := hp.2 h1
    exact g_vret rfl (hr _ (hx1 _ hC))
theorem cg_275_2 (hd : 0 ≤ d) (hS : mz_ext S 232) (hR : mz_rok R 232)  (v1 : Int32) (N : mz_N) {C0 : (mz_N) → Prop} (hr : ∀ (N2 : mz_N), C0 N2 → Q (.inl none) (mz_k S R N2 b t)) (hp : cp_275_2 v1 N) (hC : C0 (cf_275_2 v1 N)) : mz_G (d, mz_X0 L xs, none, [], mk_275, 2, Q) 2 mt_275_2 [(0, .ref 208), (1, .int v1)] [] false (mz_k S R N b t) := by
  obtain ⟨n, hn⟩ := hp
  exact g_loop (G := fun s => mz_G (d, mz_X0 L xs, none, [], mk_275, 2, Q) 2 mt_275_2 [(0, .ref 208), (1, .int s.1)] [] false (mz_k S R s.2 b t)) (C := C0) (fun C2 hc hx s hP hC => cb_275_2 hd hS hR  s hr hc hx hP hC) n (v1, N) hn hC
theorem cg_275_0 (hd : 0 ≤ d) (hS : mz_ext S 232) (hR : mz_rok R 232)  (N : mz_N) {C0 : (mz_N) → Prop} (hr : ∀ (N2 : mz_N), C0 N2 → Q (.inl none) (mz_k S R N2 b t)) (hp : cp_275_0 N) (hC : C0 (cf_275_0 N)) : mz_G (d, mz_X0 L xs, none, [], mk_275, 2, Q) 0 mk_275 [(0, .ref 208)] [] true (mz_k S R N b t) := by
  unfold cf_275_0 at hC
  unfold cp_275_0 at hp
  refine g_iconst mzi_0 (g_istore_n (Nat.le_of_ble_eq_true rfl) rfl ?_)
  refine g_weak ?_ (g_cl (cg_275_2 hd hS hR 0 N hr hp hC))
  exact ⟨rfl, rfl, trivial⟩
theorem cs_275 (hd : 1 ≤ d) (hS : mz_ext S 232) (hR : mz_rok R 232)  (N : mz_N) (hp : cp_275_0 N) (hq : Q (.inl none) (mz_k S R (cf_275_0 N) b t)) : mz_Ed (mz_X0 L xs) d 275 [.ref 208] (mz_k S R N b t) Q :=
  by
  refine g_in mzq_275 (Nat.le_of_ble_eq_true rfl) (Nat.le_of_ble_eq_true rfl) (Nat.le_trans (Nat.le_of_ble_eq_true rfl) hd) ?_
  refine g_weak ?_ (cg_275_0 (d := d - 1) (by omega) hS hR N (C0 := fun z => Q (.inl none) (mz_k S R z b t)) (fun _ h => h) hp hq)
  exact ⟨rfl, trivial⟩
/-! 276 KeptHouse$Books.chargeByAreas (J[I)V -/
theorem ms_276_0 : mz_sf mk_276 0 = mk_276 := mz_sf_zero _
theorem ms_276_3 : mz_sf mk_276 3 = mt_276_3 := mz_sf_add ms_276_0 (t := 3) rfl rfl
theorem ms_276_25 : mz_sf mk_276 25 = mt_276_25 := mz_sf_add ms_276_3 (t := 22) rfl rfl
theorem ms_276_28 : mz_sf mk_276 28 = mt_276_28 := mz_sf_add ms_276_25 (t := 3) rfl rfl
theorem ms_276_53 : mz_sf mk_276 53 = mt_276_53 := mz_sf_add ms_276_28 (t := 25) rfl rfl
theorem ms_276_56 : mz_sf mk_276 56 = mt_276_56 := mz_sf_add ms_276_53 (t := 3) rfl rfl
theorem ms_276_66 : mz_sf mk_276 66 = mt_276_66 := mz_sf_add ms_276_56 (t := 10) rfl rfl
set_option maxRecDepth 100000 in
theorem mzq_276 : mz_PG0 276 = some (1, ⟨"KeptHouse$Books", "chargeByAreas", "(J[I)V"⟩, prog_3_method_11_code, 5, none, [], mk_276, []) := rfl
theorem cg_276_66 (hd : 2 ≤ d) (hS : mz_ext S 232) (hR : mz_rok R 232)  (N : mz_N) {C0 : (mz_N) → Prop} (hr : ∀ (N2 : mz_N), C0 N2 → Q (.inl none) (mz_k S R N2 b t)) (hp : cp_276_66 N) (hC : C0 (cf_276_66 N)) : mz_G (d, mz_X0 L xs, none, [], mk_276, 5, Q) 66 mt_276_66 [] [] false (mz_k S R N b t) := by
  unfold cf_276_66 at hC
  unfold cp_276_66 at hp
  exact g_vret rfl (hr _ hC)
theorem cb_276_3 (hd : 2 ≤ d) (hS : mz_ext S 232) (hR : mz_rok R 232)  (v1 : Int64) (s : Int32 × mz_N) {C0 : (mz_N) → Prop} (hr : ∀ (N2 : mz_N), C0 N2 → Q (.inl none) (mz_k S R N2 b t)) {C1 : ((Int32 × mz_N) ⊕ (mz_N)) → Prop} (hc1 : ∀ s2, C1 (.inl s2) → mz_G (d, mz_X0 L xs, none, [], mk_276, 5, Q) 3 mt_276_3 [(0, .ref 208), (1, .long v1), (3, .ref 39), (4, .int s2.1)] [] false (mz_k S R s2.2 b t)) (hx1 : ∀ z, C1 (.inr z) → C0 z) (hp : cd_276_3 v1 s) (hC : C1 (cq_276_3 v1 s)) : mz_G (d, mz_X0 L xs, none, [], mk_276, 5, Q) 3 mt_276_3 [(0, .ref 208), (1, .long v1), (3, .ref 39), (4, .int s.1)] [] false (mz_k S R s.2 b t) := by
  unfold cq_276_3 at hC
  unfold cd_276_3 at hp
  refine g_iload rfl (g_bipush mzb_10 ?_)
  refine g_icge (tg := 28) rfl ms_276_28 hC (fun h1 hC => ?_) (fun h1 hC => ?_)
  · have hp := hp.1 h1
    refine g_aload_n rfl (g_getR (mz_at hS (Nat.le_of_ble_eq_true rfl) mzcS_208) mzcf_1_9 (mz_rb hR (Nat.le_of_ble_eq_true rfl) rfl mzcR_208_9) (g_iload rfl (g_aload_n rfl (g_iload rfl ?_))))
    obtain ⟨h2, hp⟩ := hp
    refine g_iald hS.1 (mz_at hS (Nat.le_of_ble_eq_true rfl) mzcS_39) h2 (g_i2l ?_)
    have h3 := hp
    refine g_last (mz_at hS (Nat.le_of_ble_eq_true rfl) mzcS_216) h3 (g_iinc rfl mzi_1 (Nat.le_of_ble_eq_true rfl) rfl (g_goto (tg := 3) rfl ms_276_3 ?_))
    refine g_weak ?_ (g_cl (hc1 ((s.1 + 1), mz_wL s.2 216 s.1 ((mz_gI s.2 39 s.1).toInt64)) hC))
    exact ⟨rfl, rfl, rfl, rfl, trivial⟩
  · have hp := hp.2 h1
    refine g_lload_n rfl (g_aload_n rfl (g_getR (mz_at hS (Nat.le_of_ble_eq_true rfl) mzcS_208) mzcf_1_9 (mz_rb hR (Nat.le_of_ble_eq_true rfl) rfl mzcR_208_9) (g_bipush mzb_10 (g_aload_n rfl (g_getR (mz_at hS (Nat.le_of_ble_eq_true rfl) mzcS_208) mzcf_1_10 (mz_rb hR (Nat.le_of_ble_eq_true rfl) rfl mzcR_208_10) (g_aload_n rfl (g_getR (mz_at hS (Nat.le_of_ble_eq_true rfl) mzcS_208) mzcf_1_11 (mz_rb hR (Nat.le_of_ble_eq_true rfl) rfl mzcR_208_11) ?_)))))))
    obtain ⟨h4, hp⟩ := hp
    refine g_s5v (Nat.le_of_ble_eq_true rfl) (fun _ hq => cs_240 (Nat.le_trans (Nat.le_of_ble_eq_true rfl) hd) (hS.le (Nat.le_of_ble_eq_true rfl)) (hR.le (Nat.le_of_ble_eq_true rfl)) 216 10 217 10 218 10 (mz_at hS (Nat.le_of_ble_eq_true rfl) mzcS_216) (mz_at hS (Nat.le_of_ble_eq_true rfl) mzcS_217) (mz_at hS (Nat.le_of_ble_eq_true rfl) mzcS_218) v1 10 s.2 h4 hq) ?_
    refine g_zeq (tg := 56) rfl ms_276_56 hC (fun h5 hC => ?_) (fun h5 hC => ?_)
    · have hp := hp.1 h5
      refine g_aload_n rfl ?_
      have h6 := hp
      refine g_v1n (Nat.le_of_ble_eq_true rfl) (mz_at hS (Nat.le_of_ble_eq_true rfl) mzcS_208) (fun _ hq => cs_275 (Nat.le_trans (Nat.le_of_ble_eq_true rfl) hd) (hS.le (Nat.le_of_ble_eq_true rfl)) (hR.le (Nat.le_of_ble_eq_true rfl))  ((cf_240_0 216 10 217 10 218 10 v1 10 s.2).2) h6 hq) (g_goto (tg := 66) rfl ms_276_66 ?_)
      exact g_vret rfl (hr _ (hx1 _ hC))
    · have hp := hp.2 h5
      refine g_aload_n rfl (g_dup rfl (g_getL (mz_at hS (Nat.le_of_ble_eq_true rfl) mzcS_208) mzcf_1_2 (g_lload_n rfl (g_ladd (g_putL (mz_at hS (Nat.le_of_ble_eq_true rfl) mzcS_208) mzcf_1_2 ?_)))))
      refine g_weak ?_ (g_cl (cg_276_66 hd hS hR (mz_pL ((cf_240_0 216 10 217 10 218 10 v1 10 s.2).2) 208 2 ((((cf_240_0 216 10 217 10 218 10 v1 10 s.2).2).2 208 2) + v1)) hr hp (hx1 _ hC)))
      exact trivial
theorem cg_276_3 (hd : 2 ≤ d) (hS : mz_ext S 232) (hR : mz_rok R 232)  (v1 : Int64) (v4 : Int32) (N : mz_N) {C0 : (mz_N) → Prop} (hr : ∀ (N2 : mz_N), C0 N2 → Q (.inl none) (mz_k S R N2 b t)) (hp : cp_276_3 v1 v4 N) (hC : C0 (cf_276_3 v1 v4 N)) : mz_G (d, mz_X0 L xs, none, [], mk_276, 5, Q) 3 mt_276_3 [(0, .ref 208), (1, .long v1), (3, .ref 39), (4, .int v4)] [] false (mz_k S R N b t) := by
  obtain ⟨n, hn⟩ := hp
  exact g_loop (G := fun s => mz_G (d, mz_X0 L xs, none, [], mk_276, 5, Q) 3 mt_276_3 [(0, .ref 208), (1, .long v1), (3, .ref 39), (4, .int s.1)] [] false (mz_k S R s.2 b t)) (C := C0) (fun C2 hc hx s hP hC => cb_276_3 hd hS hR v1 s hr hc hx hP hC) n (v4, N) hn hC
theorem cg_276_0 (hd : 2 ≤ d) (hS : mz_ext S 232) (hR : mz_rok R 232)  (v1 : Int64) (N : mz_N) {C0 : (mz_N) → Prop} (hr : ∀ (N2 : mz_N), C0 N2 → Q (.inl none) (mz_k S R N2 b t)) (hp : cp_276_0 v1 N) (hC : C0 (cf_276_0 v1 N)) : mz_G (d, mz_X0 L xs, none, [], mk_276, 5, Q) 0 mk_276 [(0, .ref 208), (1, .long v1), (3, .ref 39)] [] true (mz_k S R N b t) := by
  unfold cf_276_0 at hC
  unfold cp_276_0 at hp
  refine g_iconst mzi_0 (g_istore (Nat.le_of_ble_eq_true rfl) rfl ?_)
  refine g_weak ?_ (g_cl (cg_276_3 hd hS hR v1 0 N hr hp hC))
  exact ⟨rfl, rfl, rfl, rfl, trivial⟩
theorem cs_276 (hd : 3 ≤ d) (hS : mz_ext S 232) (hR : mz_rok R 232)  (v1 : Int64) (N : mz_N) (hp : cp_276_0 v1 N) (hq : Q (.inl none) (mz_k S R (cf_276_0 v1 N) b t)) : mz_Ed (mz_X0 L xs) d 276 [.ref 208, .long v1, .ref 39] (mz_k S R N b t) Q :=
  by
  refine g_in mzq_276 (Nat.le_of_ble_eq_true rfl) (Nat.le_of_ble_eq_true rfl) (Nat.le_trans (Nat.le_of_ble_eq_true rfl) hd) ?_
  refine g_weak ?_ (cg_276_0 (d := d - 1) (by omega) hS hR v1 N (C0 := fun z => Q (.inl none) (mz_k S R z b t)) (fun _ h => h) hp hq)
  exact ⟨rfl, rfl, rfl, trivial⟩
/-! 274 KeptHouse$Books.chargeByMeters (JI[I)V -/
theorem ms_274_0 : mz_sf mk_274 0 = mk_274 := mz_sf_zero _
theorem ms_274_3 : mz_sf mk_274 3 = mt_274_3 := mz_sf_add ms_274_0 (t := 3) rfl rfl
theorem ms_274_27 : mz_sf mk_274 27 = mt_274_27 := mz_sf_add ms_274_3 (t := 24) rfl rfl
theorem ms_274_33 : mz_sf mk_274 33 = mt_274_33 := mz_sf_add ms_274_27 (t := 6) rfl rfl
theorem ms_274_58 : mz_sf mk_274 58 = mt_274_58 := mz_sf_add ms_274_33 (t := 25) rfl rfl
theorem ms_274_61 : mz_sf mk_274 61 = mt_274_61 := mz_sf_add ms_274_58 (t := 3) rfl rfl
theorem ms_274_68 : mz_sf mk_274 68 = mt_274_68 := mz_sf_add ms_274_61 (t := 7) rfl rfl
set_option maxRecDepth 100000 in
theorem mzq_274 : mz_PG0 274 = some (1, ⟨"KeptHouse$Books", "chargeByMeters", "(JI[I)V"⟩, prog_3_method_10_code, 6, none, [], mk_274, []) := rfl
theorem cb_274_3 (hd : 3 ≤ d) (hS : mz_ext S 232) (hR : mz_rok R 232)  (v1 : Int64) (v3 : Int32) (s : Int32 × mz_N) {C0 : (mz_N) → Prop} (hr : ∀ (N2 : mz_N), C0 N2 → Q (.inl none) (mz_k S R N2 b t)) {C1 : ((Int32 × mz_N) ⊕ (mz_N)) → Prop} (hc1 : ∀ s2, C1 (.inl s2) → mz_G (d, mz_X0 L xs, none, [], mk_274, 6, Q) 3 mt_274_3 [(0, .ref 208), (1, .long v1), (3, .int v3), (4, .ref 39), (5, .int s2.1)] [] false (mz_k S R s2.2 b t)) (hx1 : ∀ z, C1 (.inr z) → C0 z) (hp : cd_274_3 v1 v3 s) (hC : C1 (cq_274_3 v1 v3 s)) : mz_G (d, mz_X0 L xs, none, [], mk_274, 6, Q) 3 mt_274_3 [(0, .ref 208), (1, .long v1), (3, .int v3), (4, .ref 39), (5, .int s.1)] [] false (mz_k S R s.2 b t) := by
  unfold cq_274_3 at hC
  unfold cd_274_3 at hp
  refine g_iload rfl (g_bipush mzb_10 ?_)
  refine g_icge (tg := 33) rfl ms_274_33 hC (fun h1 hC => ?_) (fun h1 hC => ?_)
  · have hp := hp.1 h1
    refine g_aload_n rfl (g_getR (mz_at hS (Nat.le_of_ble_eq_true rfl) mzcS_208) mzcf_1_9 (mz_rb hR (Nat.le_of_ble_eq_true rfl) rfl mzcR_208_9) (g_iload rfl (g_aload_n rfl (g_getR (mz_at hS (Nat.le_of_ble_eq_true rfl) mzcS_208) mzcf_1_5 (mz_rb hR (Nat.le_of_ble_eq_true rfl) rfl mzcR_208_5) (g_iload_n rfl ?_)))))
    obtain ⟨h2, hp⟩ := hp
    refine g_aald4 (mz_at hS (Nat.le_of_ble_eq_true rfl) mzcS_209) h2 (mz_rb hR (Nat.le_of_ble_eq_true rfl) rfl (mzcR2_209 h2)) (g_iload rfl ?_)
    obtain ⟨h3, hp⟩ := hp
    refine g_iald hS.1 (mz_at hS (mzcL2_209 h2 (Nat.le_of_ble_eq_true rfl)) (mzcS2_209 h2)) h3 (g_i2l ?_)
    have h4 := hp
    refine g_last (mz_at hS (Nat.le_of_ble_eq_true rfl) mzcS_216) h4 (g_iinc rfl mzi_1 (Nat.le_of_ble_eq_true rfl) rfl (g_goto (tg := 3) rfl ms_274_3 ?_))
    refine g_weak ?_ (g_cl (hc1 ((s.1 + 1), mz_wL s.2 216 s.1 ((mz_gI s.2 (210 + v3.toNatClampNeg) s.1).toInt64)) hC))
    exact ⟨rfl, rfl, rfl, rfl, rfl, trivial⟩
  · have hp := hp.2 h1
    refine g_lload_n rfl (g_aload_n rfl (g_getR (mz_at hS (Nat.le_of_ble_eq_true rfl) mzcS_208) mzcf_1_9 (mz_rb hR (Nat.le_of_ble_eq_true rfl) rfl mzcR_208_9) (g_bipush mzb_10 (g_aload_n rfl (g_getR (mz_at hS (Nat.le_of_ble_eq_true rfl) mzcS_208) mzcf_1_10 (mz_rb hR (Nat.le_of_ble_eq_true rfl) rfl mzcR_208_10) (g_aload_n rfl (g_getR (mz_at hS (Nat.le_of_ble_eq_true rfl) mzcS_208) mzcf_1_11 (mz_rb hR (Nat.le_of_ble_eq_true rfl) rfl mzcR_208_11) ?_)))))))
    obtain ⟨h5, hp⟩ := hp
    refine g_s5v (Nat.le_of_ble_eq_true rfl) (fun _ hq => cs_240 (Nat.le_trans (Nat.le_of_ble_eq_true rfl) hd) (hS.le (Nat.le_of_ble_eq_true rfl)) (hR.le (Nat.le_of_ble_eq_true rfl)) 216 10 217 10 218 10 (mz_at hS (Nat.le_of_ble_eq_true rfl) mzcS_216) (mz_at hS (Nat.le_of_ble_eq_true rfl) mzcS_217) (mz_at hS (Nat.le_of_ble_eq_true rfl) mzcS_218) v1 10 s.2 h5 hq) ?_
    refine g_zeq (tg := 61) rfl ms_274_61 hC (fun h6 hC => ?_) (fun h6 hC => ?_)
    · have hp := hp.1 h6
      refine g_aload_n rfl ?_
      have h7 := hp
      refine g_v1n (Nat.le_of_ble_eq_true rfl) (mz_at hS (Nat.le_of_ble_eq_true rfl) mzcS_208) (fun _ hq => cs_275 (Nat.le_trans (Nat.le_of_ble_eq_true rfl) hd) (hS.le (Nat.le_of_ble_eq_true rfl)) (hR.le (Nat.le_of_ble_eq_true rfl))  ((cf_240_0 216 10 217 10 218 10 v1 10 s.2).2) h7 hq) (g_goto (tg := 68) rfl ms_274_68 ?_)
      exact g_vret rfl (hr _ (hx1 _ hC))
    · have hp := hp.2 h6
      refine g_aload_n rfl (g_lload_n rfl (g_aload rfl ?_))
      have h8 := hp
      refine g_v3n (Nat.le_of_ble_eq_true rfl) (mz_at hS (Nat.le_of_ble_eq_true rfl) mzcS_208) (fun _ hq => cs_276 (Nat.le_trans (Nat.le_of_ble_eq_true rfl) hd) (hS.le (Nat.le_of_ble_eq_true rfl)) (hR.le (Nat.le_of_ble_eq_true rfl))  v1 ((cf_240_0 216 10 217 10 218 10 v1 10 s.2).2) h8 hq) ?_
      exact g_vret rfl (hr _ (hx1 _ hC))
theorem cg_274_3 (hd : 3 ≤ d) (hS : mz_ext S 232) (hR : mz_rok R 232)  (v1 : Int64) (v3 : Int32) (v5 : Int32) (N : mz_N) {C0 : (mz_N) → Prop} (hr : ∀ (N2 : mz_N), C0 N2 → Q (.inl none) (mz_k S R N2 b t)) (hp : cp_274_3 v1 v3 v5 N) (hC : C0 (cf_274_3 v1 v3 v5 N)) : mz_G (d, mz_X0 L xs, none, [], mk_274, 6, Q) 3 mt_274_3 [(0, .ref 208), (1, .long v1), (3, .int v3), (4, .ref 39), (5, .int v5)] [] false (mz_k S R N b t) := by
  obtain ⟨n, hn⟩ := hp
  exact g_loop (G := fun s => mz_G (d, mz_X0 L xs, none, [], mk_274, 6, Q) 3 mt_274_3 [(0, .ref 208), (1, .long v1), (3, .int v3), (4, .ref 39), (5, .int s.1)] [] false (mz_k S R s.2 b t)) (C := C0) (fun C2 hc hx s hP hC => cb_274_3 hd hS hR v1 v3 s hr hc hx hP hC) n (v5, N) hn hC
theorem cg_274_0 (hd : 3 ≤ d) (hS : mz_ext S 232) (hR : mz_rok R 232)  (v1 : Int64) (v3 : Int32) (N : mz_N) {C0 : (mz_N) → Prop} (hr : ∀ (N2 : mz_N), C0 N2 → Q (.inl none) (mz_k S R N2 b t)) (hp : cp_274_0 v1 v3 N) (hC : C0 (cf_274_0 v1 v3 N)) : mz_G (d, mz_X0 L xs, none, [], mk_274, 6, Q) 0 mk_274 [(0, .ref 208), (1, .long v1), (3, .int v3), (4, .ref 39)] [] true (mz_k S R N b t) := by
  unfold cf_274_0 at hC
  unfold cp_274_0 at hp
  refine g_iconst mzi_0 (g_istore (Nat.le_of_ble_eq_true rfl) rfl ?_)
  refine g_weak ?_ (g_cl (cg_274_3 hd hS hR v1 v3 0 N hr hp hC))
  exact ⟨rfl, rfl, rfl, rfl, rfl, trivial⟩
theorem cs_274 (hd : 4 ≤ d) (hS : mz_ext S 232) (hR : mz_rok R 232)  (v1 : Int64) (v3 : Int32) (N : mz_N) (hp : cp_274_0 v1 v3 N) (hq : Q (.inl none) (mz_k S R (cf_274_0 v1 v3 N) b t)) : mz_Ed (mz_X0 L xs) d 274 [.ref 208, .long v1, .int v3, .ref 39] (mz_k S R N b t) Q :=
  by
  refine g_in mzq_274 (Nat.le_of_ble_eq_true rfl) (Nat.le_of_ble_eq_true rfl) (Nat.le_trans (Nat.le_of_ble_eq_true rfl) hd) ?_
  refine g_weak ?_ (cg_274_0 (d := d - 1) (by omega) hS hR v1 v3 N (C0 := fun z => Q (.inl none) (mz_k S R z b t)) (fun _ h => h) hp hq)
  exact ⟨rfl, rfl, rfl, rfl, trivial⟩
/-! 272 KeptHouse$Books.billAll ([I)V -/
theorem ms_272_0 : mz_sf mk_272 0 = mk_272 := mz_sf_zero _
theorem ms_272_26 : mz_sf mk_272 26 = mt_272_26 := mz_sf_add ms_272_0 (t := 26) rfl rfl
theorem ms_272_45 : mz_sf mk_272 45 = mt_272_45 := mz_sf_add ms_272_26 (t := 19) rfl rfl
theorem ms_272_64 : mz_sf mk_272 64 = mt_272_64 := mz_sf_add ms_272_45 (t := 19) rfl rfl
theorem ms_272_92 : mz_sf mk_272 92 = mt_272_92 := mz_sf_add ms_272_64 (t := 28) rfl rfl
theorem ms_272_118 : mz_sf mk_272 118 = mt_272_118 := mz_sf_add ms_272_92 (t := 26) rfl rfl
theorem ms_272_140 : mz_sf mk_272 140 = mt_272_140 := mz_sf_add ms_272_118 (t := 22) rfl rfl
theorem ms_272_143 : mz_sf mk_272 143 = mt_272_143 := mz_sf_add ms_272_140 (t := 3) rfl rfl
theorem ms_272_167 : mz_sf mk_272 167 = mt_272_167 := mz_sf_add ms_272_143 (t := 24) rfl rfl
theorem ms_272_173 : mz_sf mk_272 173 = mt_272_173 := mz_sf_add ms_272_167 (t := 6) rfl rfl
set_option maxRecDepth 100000 in
theorem mzq_272 : mz_PG0 272 = some (1, ⟨"KeptHouse$Books", "billAll", "([I)V"⟩, prog_3_method_8_code, 11, none, [], mk_272, []) := rfl
theorem cb_272_143 (hd : 4 ≤ d) (hS : mz_ext S 232) (hR : mz_rok R 232)   (s : Int32 × mz_N) {C0 : (mz_N) → Prop} (hr : ∀ (N2 : mz_N), C0 N2 → Q (.inl none) (mz_k S R N2 b t)) {C1 : ((Int32 × mz_N) ⊕ (mz_N)) → Prop} (hc1 : ∀ s2, C1 (.inl s2) → mz_G (d, mz_X0 L xs, none, [], mk_272, 11, Q) 143 mt_272_143 [(0, .ref 208), (10, .int s2.1)] [] false (mz_k S R s2.2 b t)) (hx1 : ∀ z, C1 (.inr z) → C0 z) (hp : cd_272_143  s) (hC : C1 (cq_272_143  s)) : mz_G (d, mz_X0 L xs, none, [], mk_272, 11, Q) 143 mt_272_143 [(0, .ref 208), (10, .int s.1)] [] false (mz_k S R s.2 b t) := by
  unfold cq_272_143 at hC
  unfold cd_272_143 at hp
  refine g_iload rfl (g_bipush mzb_10 ?_)
  refine g_icge (tg := 173) rfl ms_272_173 hC (fun h1 hC => ?_) (fun h1 hC => ?_)
  · have hp := hp.1 h1
    refine g_aload_n rfl (g_getR (mz_at hS (Nat.le_of_ble_eq_true rfl) mzcS_208) mzcf_1_6 (mz_rb hR (Nat.le_of_ble_eq_true rfl) rfl mzcR_208_6) (g_iload rfl (g_dup2 rfl rfl ?_)))
    obtain ⟨h2, hp⟩ := hp
    refine g_lald (mz_at hS (Nat.le_of_ble_eq_true rfl) mzcS_213) h2 (g_aload_n rfl (g_getR (mz_at hS (Nat.le_of_ble_eq_true rfl) mzcS_208) mzcf_1_7 (mz_rb hR (Nat.le_of_ble_eq_true rfl) rfl mzcR_208_7) (g_iload rfl ?_)))
    obtain ⟨h3, hp⟩ := hp
    refine g_lald (mz_at hS (Nat.le_of_ble_eq_true rfl) mzcS_214) h3 (g_lsub ?_)
    have h4 := hp
    refine g_last (mz_at hS (Nat.le_of_ble_eq_true rfl) mzcS_213) h4 (g_iinc rfl mzi_1 (Nat.le_of_ble_eq_true rfl) rfl (g_goto (tg := 143) rfl ms_272_143 ?_))
    refine g_weak ?_ (g_cl (hc1 ((s.1 + 1), mz_wL s.2 213 s.1 ((mz_gL s.2 213 s.1) - (mz_gL s.2 214 s.1))) hC))
    exact ⟨rfl, rfl, trivial⟩
  · have hp := hp.2 h1
    refine g_aload_n rfl ?_
    have h5 := hp
    refine g_v1n (Nat.le_of_ble_eq_true rfl) (mz_at hS (Nat.le_of_ble_eq_true rfl) mzcS_208) (fun _ hq => cs_54 (Nat.le_trans (Nat.le_of_ble_eq_true rfl) hd) (hS.le (Nat.le_of_ble_eq_true rfl)) (hR.le (Nat.le_of_ble_eq_true rfl))  s.2 h5 hq) ?_
    exact g_vret rfl (hr _ (hx1 _ hC))
theorem cg_272_143 (hd : 4 ≤ d) (hS : mz_ext S 232) (hR : mz_rok R 232)  (v10 : Int32) (N : mz_N) {C0 : (mz_N) → Prop} (hr : ∀ (N2 : mz_N), C0 N2 → Q (.inl none) (mz_k S R N2 b t)) (hp : cp_272_143 v10 N) (hC : C0 (cf_272_143 v10 N)) : mz_G (d, mz_X0 L xs, none, [], mk_272, 11, Q) 143 mt_272_143 [(0, .ref 208), (10, .int v10)] [] false (mz_k S R N b t) := by
  obtain ⟨n, hn⟩ := hp
  exact g_loop (G := fun s => mz_G (d, mz_X0 L xs, none, [], mk_272, 11, Q) 143 mt_272_143 [(0, .ref 208), (10, .int s.1)] [] false (mz_k S R s.2 b t)) (C := C0) (fun C2 hc hx s hP hC => cb_272_143 hd hS hR  s hr hc hx hP hC) n (v10, N) hn hC
theorem cg_272_140 (hd : 4 ≤ d) (hS : mz_ext S 232) (hR : mz_rok R 232)  (N : mz_N) {C0 : (mz_N) → Prop} (hr : ∀ (N2 : mz_N), C0 N2 → Q (.inl none) (mz_k S R N2 b t)) (hp : cp_272_140 N) (hC : C0 (cf_272_140 N)) : mz_G (d, mz_X0 L xs, none, [], mk_272, 11, Q) 140 mt_272_140 [(0, .ref 208)] [] false (mz_k S R N b t) := by
  unfold cf_272_140 at hC
  unfold cp_272_140 at hp
  refine g_iconst mzi_0 (g_istore (Nat.le_of_ble_eq_true rfl) rfl ?_)
  refine g_weak ?_ (g_cl (cg_272_143 hd hS hR 0 N hr hp hC))
  exact ⟨rfl, rfl, trivial⟩
theorem cg_272_118 (hd : 4 ≤ d) (hS : mz_ext S 232) (hR : mz_rok R 232)  (v2 : Int64) (v4 : Int64) (v6 : Int64) (N : mz_N) {C0 : (mz_N) → Prop} (hr : ∀ (N2 : mz_N), C0 N2 → Q (.inl none) (mz_k S R N2 b t)) (hp : cp_272_118 v2 v4 v6 N) (hC : C0 (cf_272_118 v2 v4 v6 N)) : mz_G (d, mz_X0 L xs, none, [], mk_272, 11, Q) 118 mt_272_118 [(0, .ref 208), (2, .long v2), (4, .long v4), (6, .long v6)] [] false (mz_k S R N b t) := by
  unfold cf_272_118 at hC
  unfold cp_272_118 at hp
  refine g_aload_n rfl (g_dup rfl (g_getL (mz_at hS (Nat.le_of_ble_eq_true rfl) mzcS_208) mzcf_1_1 (g_lload_n rfl (g_lload rfl (g_ladd (g_lload rfl (g_ladd ?_)))))))
  refine g_aload_n rfl (g_getI (mz_at hS (Nat.le_of_ble_eq_true rfl) mzcS_208) mzcf_1_4 (g_i2l (g_ladd (g_lsub (g_putL (mz_at hS (Nat.le_of_ble_eq_true rfl) mzcS_208) mzcf_1_1 ?_)))))
  refine g_weak ?_ (g_cl (cg_272_140 hd hS hR (mz_pL N 208 1 ((N.2 208 1) - (((v2 + v4) + v6) + ((N.1 208 4).toInt64)))) hr hp hC))
  exact ⟨rfl, trivial⟩
theorem cg_272_92 (hd : 4 ≤ d) (hS : mz_ext S 232) (hR : mz_rok R 232)  (v2 : Int64) (v4 : Int64) (v6 : Int64) (N : mz_N) {C0 : (mz_N) → Prop} (hr : ∀ (N2 : mz_N), C0 N2 → Q (.inl none) (mz_k S R N2 b t)) (hp : cp_272_92 v2 v4 v6 N) (hC : C0 (cf_272_92 v2 v4 v6 N)) : mz_G (d, mz_X0 L xs, none, [], mk_272, 11, Q) 92 mt_272_92 [(0, .ref 208), (1, .ref 39), (2, .long v2), (4, .long v4), (6, .long v6)] [] false (mz_k S R N b t) := by
  unfold cf_272_92 at hC
  unfold cp_272_92 at hp
  refine g_aload_n rfl (g_lload rfl (g_iconst mzi_1 (g_aload_n rfl ?_)))
  obtain ⟨h1, hp⟩ := hp
  refine g_v4n (Nat.le_of_ble_eq_true rfl) (mz_at hS (Nat.le_of_ble_eq_true rfl) mzcS_208) (fun _ hq => cs_274 (Nat.le_trans (Nat.le_of_ble_eq_true rfl) hd) (hS.le (Nat.le_of_ble_eq_true rfl)) (hR.le (Nat.le_of_ble_eq_true rfl))  v4 1 N h1 hq) (g_aload_n rfl (g_lload rfl (g_iconst mzi_2 (g_aload_n rfl ?_))))
  obtain ⟨h2, hp⟩ := hp
  refine g_v4n (Nat.le_of_ble_eq_true rfl) (mz_at hS (Nat.le_of_ble_eq_true rfl) mzcS_208) (fun _ hq => cs_274 (Nat.le_trans (Nat.le_of_ble_eq_true rfl) hd) (hS.le (Nat.le_of_ble_eq_true rfl)) (hR.le (Nat.le_of_ble_eq_true rfl))  v6 2 (cf_274_0 v4 1 N) h2 hq) (g_aload_n rfl (g_aload_n rfl (g_getI (mz_at hS (Nat.le_of_ble_eq_true rfl) mzcS_208) mzcf_1_4 (g_i2l (g_aload_n rfl ?_)))))
  obtain ⟨h3, hp⟩ := hp
  refine g_v3n (Nat.le_of_ble_eq_true rfl) (mz_at hS (Nat.le_of_ble_eq_true rfl) mzcS_208) (fun _ hq => cs_276 (Nat.le_trans (Nat.le_of_ble_eq_true rfl) hd) (hS.le (Nat.le_of_ble_eq_true rfl)) (hR.le (Nat.le_of_ble_eq_true rfl))  (((cf_274_0 v6 2 (cf_274_0 v4 1 N)).1 208 4).toInt64) (cf_274_0 v6 2 (cf_274_0 v4 1 N)) h3 hq) ?_
  refine g_weak ?_ (g_cl (cg_272_118 hd hS hR v2 v4 v6 (cf_276_0 (((cf_274_0 v6 2 (cf_274_0 v4 1 N)).1 208 4).toInt64) (cf_274_0 v6 2 (cf_274_0 v4 1 N))) hr hp hC))
  exact ⟨rfl, rfl, rfl, rfl, trivial⟩
theorem cg_272_0 (hd : 4 ≤ d) (hS : mz_ext S 232) (hR : mz_rok R 232)  (N : mz_N) {C0 : (mz_N) → Prop} (hr : ∀ (N2 : mz_N), C0 N2 → Q (.inl none) (mz_k S R N2 b t)) (hp : cp_272_0 N) (hC : C0 (cf_272_0 N)) : mz_G (d, mz_X0 L xs, none, [], mk_272, 11, Q) 0 mk_272 [(0, .ref 208), (1, .ref 39)] [] true (mz_k S R N b t) := by
  unfold cf_272_0 at hC
  unfold cp_272_0 at hp
  refine g_aload_n rfl (g_getR (mz_at hS (Nat.le_of_ble_eq_true rfl) mzcS_208) mzcf_1_7 (mz_rb hR (Nat.le_of_ble_eq_true rfl) rfl mzcR_208_7) (g_lconst mzl_0 ?_))
  obtain ⟨h1, hp⟩ := hp
  refine g_s2n (Nat.le_of_ble_eq_true rfl) (fun _ hq => cs_49 (Nat.le_trans (Nat.le_of_ble_eq_true rfl) hd) (hS.le (Nat.le_of_ble_eq_true rfl)) (hR.le (Nat.le_of_ble_eq_true rfl)) 214 10 (mz_at hS (Nat.le_of_ble_eq_true rfl) mzcS_214) 0 N h1 hq) (g_aload_n rfl (g_getI (mz_at hS (Nat.le_of_ble_eq_true rfl) mzcS_208) mzcf_1_3 (g_i2l (g_aload_n rfl (g_getR (mz_at hS (Nat.le_of_ble_eq_true rfl) mzcS_208) mzcf_1_8 (mz_rb hR (Nat.le_of_ble_eq_true rfl) rfl mzcR_208_8) (g_iconst mzi_1 (g_iald hS.1 (mz_at hS (Nat.le_of_ble_eq_true rfl) mzcS_215) (mz_ibd (by decide)) ?_)))))))
  refine g_i2l (g_lmul (g_con3 (g_ldiv (by decide) (g_lstore_n (Nat.le_of_ble_eq_true rfl) rfl rfl (g_aload_n rfl (g_iconst mzi_1 ?_))))))
  obtain ⟨h2, hp⟩ := hp
  refine g_v2v (Nat.le_of_ble_eq_true rfl) (mz_at hS (Nat.le_of_ble_eq_true rfl) mzcS_208) (fun _ hq => cs_273 (Nat.le_trans (Nat.le_of_ble_eq_true rfl) hd) (hS.le (Nat.le_of_ble_eq_true rfl)) (hR.le (Nat.le_of_ble_eq_true rfl))  1 (cf_49_0 214 10 0 N) h2 hq) (g_aload_n rfl (g_getR (mz_at hS (Nat.le_of_ble_eq_true rfl) mzcS_208) mzcf_1_8 (mz_rb hR (Nat.le_of_ble_eq_true rfl) rfl mzcR_208_8) (g_iconst mzi_2 (g_iald hS.1 (mz_at hS (Nat.le_of_ble_eq_true rfl) mzcS_215) (mz_ibd (by decide)) (g_i2l (g_lmul (g_con3 ?_)))))))
  refine g_ldiv (by decide) (g_lstore (Nat.le_of_ble_eq_true rfl) rfl rfl (g_aload_n rfl (g_iconst mzi_2 ?_)))
  obtain ⟨h3, hp⟩ := hp
  refine g_v2v (Nat.le_of_ble_eq_true rfl) (mz_at hS (Nat.le_of_ble_eq_true rfl) mzcS_208) (fun _ hq => cs_273 (Nat.le_trans (Nat.le_of_ble_eq_true rfl) hd) (hS.le (Nat.le_of_ble_eq_true rfl)) (hR.le (Nat.le_of_ble_eq_true rfl))  2 (cf_49_0 214 10 0 N) h3 hq) (g_aload_n rfl (g_getR (mz_at hS (Nat.le_of_ble_eq_true rfl) mzcS_208) mzcf_1_8 (mz_rb hR (Nat.le_of_ble_eq_true rfl) rfl mzcR_208_8) (g_iconst mzi_3 (g_iald hS.1 (mz_at hS (Nat.le_of_ble_eq_true rfl) mzcS_215) (mz_ibd (by decide)) (g_i2l (g_lmul (g_con3 ?_)))))))
  refine g_ldiv (by decide) (g_lstore (Nat.le_of_ble_eq_true rfl) rfl rfl (g_lload_n rfl (g_con3 (g_lmul (g_con3 (g_ldiv (by decide) (g_lstore (Nat.le_of_ble_eq_true rfl) rfl rfl ?_)))))))
  refine g_aload_n rfl (g_lload rfl (g_iconst mzi_0 (g_aload_n rfl ?_)))
  obtain ⟨h4, hp⟩ := hp
  refine g_v4n (Nat.le_of_ble_eq_true rfl) (mz_at hS (Nat.le_of_ble_eq_true rfl) mzcS_208) (fun _ hq => cs_274 (Nat.le_trans (Nat.le_of_ble_eq_true rfl) hd) (hS.le (Nat.le_of_ble_eq_true rfl)) (hR.le (Nat.le_of_ble_eq_true rfl))  (((((((cf_49_0 214 10 0 N).1 208 3).toInt64) * ((mz_gI (cf_49_0 214 10 0 N) 215 1).toInt64)) / 100) * 7) / 10) 0 (cf_49_0 214 10 0 N) h4 hq) (g_aload_n rfl (g_lload_n rfl (g_lload rfl (g_lsub (g_aload_n rfl ?_)))))
  obtain ⟨h5, hp⟩ := hp
  refine g_v3n (Nat.le_of_ble_eq_true rfl) (mz_at hS (Nat.le_of_ble_eq_true rfl) mzcS_208) (fun _ hq => cs_276 (Nat.le_trans (Nat.le_of_ble_eq_true rfl) hd) (hS.le (Nat.le_of_ble_eq_true rfl)) (hR.le (Nat.le_of_ble_eq_true rfl))  ((((((cf_49_0 214 10 0 N).1 208 3).toInt64) * ((mz_gI (cf_49_0 214 10 0 N) 215 1).toInt64)) / 100) - (((((((cf_49_0 214 10 0 N).1 208 3).toInt64) * ((mz_gI (cf_49_0 214 10 0 N) 215 1).toInt64)) / 100) * 7) / 10)) (cf_274_0 (((((((cf_49_0 214 10 0 N).1 208 3).toInt64) * ((mz_gI (cf_49_0 214 10 0 N) 215 1).toInt64)) / 100) * 7) / 10) 0 (cf_49_0 214 10 0 N)) h5 hq) ?_
  refine g_weak ?_ (g_cl (cg_272_92 hd hS hR (((((cf_49_0 214 10 0 N).1 208 3).toInt64) * ((mz_gI (cf_49_0 214 10 0 N) 215 1).toInt64)) / 100) (((cf_273_0 1 (cf_49_0 214 10 0 N)) * ((mz_gI (cf_49_0 214 10 0 N) 215 2).toInt64)) / 100) (((cf_273_0 2 (cf_49_0 214 10 0 N)) * ((mz_gI (cf_49_0 214 10 0 N) 215 3).toInt64)) / 100) (cf_276_0 ((((((cf_49_0 214 10 0 N).1 208 3).toInt64) * ((mz_gI (cf_49_0 214 10 0 N) 215 1).toInt64)) / 100) - (((((((cf_49_0 214 10 0 N).1 208 3).toInt64) * ((mz_gI (cf_49_0 214 10 0 N) 215 1).toInt64)) / 100) * 7) / 10)) (cf_274_0 (((((((cf_49_0 214 10 0 N).1 208 3).toInt64) * ((mz_gI (cf_49_0 214 10 0 N) 215 1).toInt64)) / 100) * 7) / 10) 0 (cf_49_0 214 10 0 N))) hr hp hC))
  exact ⟨rfl, rfl, rfl, rfl, rfl, trivial⟩
theorem cs_272 (hd : 5 ≤ d) (hS : mz_ext S 232) (hR : mz_rok R 232)  (N : mz_N) (hp : cp_272_0 N) (hq : Q (.inl none) (mz_k S R (cf_272_0 N) b t)) : mz_Ed (mz_X0 L xs) d 272 [.ref 208, .ref 39] (mz_k S R N b t) Q :=
  by
  refine g_in mzq_272 (Nat.le_of_ble_eq_true rfl) (Nat.le_of_ble_eq_true rfl) (Nat.le_trans (Nat.le_of_ble_eq_true rfl) hd) ?_
  refine g_weak ?_ (cg_272_0 (d := d - 1) (by omega) hS hR N (C0 := fun z => Q (.inl none) (mz_k S R z b t)) (fun _ h => h) hp hq)
  exact ⟨rfl, rfl, trivial⟩
/-! 277 KeptHouse.keepDay ()Z -/
theorem ms_277_0 : mz_sf mk_277 0 = mk_277 := mz_sf_zero _
theorem ms_277_9 : mz_sf mk_277 9 = mt_277_9 := mz_sf_add ms_277_0 (t := 9) rfl rfl
theorem ms_277_31 : mz_sf mk_277 31 = mt_277_31 := mz_sf_add ms_277_9 (t := 22) rfl rfl
theorem ms_277_53 : mz_sf mk_277 53 = mt_277_53 := mz_sf_add ms_277_31 (t := 22) rfl rfl
theorem ms_277_74 : mz_sf mk_277 74 = mt_277_74 := mz_sf_add ms_277_53 (t := 21) rfl rfl
set_option maxRecDepth 100000 in
theorem mzq_277 : mz_PG0 277 = some (11, ⟨"KeptHouse", "keepDay", "()Z"⟩, prog_1_method_86_code, 2, some .boolean, [], mk_277, []) := rfl
theorem cb_277_53 (hd : 4 ≤ d) (hS : mz_ext S 232) (hR : mz_rok R 232)  (b : Bool) (s : Int32 × mz_N) {C0 : (Bool × mz_N) → Prop} (hr : ∀ (w : Bool) (N2 : mz_N), C0 (w, N2) → Q (.inl (some (.int (mz_b01 w)))) (mz_k S R N2 b t)) {C1 : ((Int32 × mz_N) ⊕ (Bool × mz_N)) → Prop} (hc1 : ∀ s2, C1 (.inl s2) → mz_G (d, mz_X0 L xs, some .boolean, [], mk_277, 2, Q) 53 mt_277_53 [(0, .ref 0), (1, .int s2.1)] [] false (mz_k S R s2.2 b t)) (hx1 : ∀ z, C1 (.inr z) → C0 z) (hp : cd_277_53 b s) (hC : C1 (cq_277_53 b s)) : mz_G (d, mz_X0 L xs, some .boolean, [], mk_277, 2, Q) 53 mt_277_53 [(0, .ref 0), (1, .int s.1)] [] false (mz_k S R s.2 b t) := by
  unfold cq_277_53 at hC
  unfold cd_277_53 at hp
  refine g_iload_n rfl (g_iconst mzi_3 ?_)
  refine g_icge (tg := 74) rfl ms_277_74 hC (fun h1 hC => ?_) (fun h1 hC => ?_)
  · have hp := hp.1 h1
    refine g_aload_n rfl (g_getR (mz_at hS (Nat.le_of_ble_eq_true rfl) mzcS_0) mzcf_11_0 (mz_rb hR (Nat.le_of_ble_eq_true rfl) rfl mzcR_0_0) (g_bipush mzb_11 (g_iload_n rfl ?_)))
    have h2 := hp
    refine g_v3n (Nat.le_of_ble_eq_true rfl) (mz_at hS (Nat.le_of_ble_eq_true rfl) mzcS_1) (fun _ hq => cs_119 (Nat.le_trans (Nat.le_of_ble_eq_true rfl) hd) (hS.le (Nat.le_of_ble_eq_true rfl)) (hR.le (Nat.le_of_ble_eq_true rfl))  11 s.1 s.2 h2 hq) (g_iinc rfl mzi_1 (Nat.le_of_ble_eq_true rfl) rfl (g_goto (tg := 53) rfl ms_277_53 ?_))
    refine g_weak ?_ (g_cl (hc1 ((s.1 + 1), (cf_119_0 11 s.1 s.2)) hC))
    exact ⟨rfl, rfl, trivial⟩
  · have hp := hp.2 h1
    refine g_aload_n rfl (g_getR (mz_at hS (Nat.le_of_ble_eq_true rfl) mzcS_0) mzcf_11_0 (mz_rb hR (Nat.le_of_ble_eq_true rfl) rfl mzcR_0_0) ?_)
    have h3 := hp
    refine g_v1v (Nat.le_of_ble_eq_true rfl) (mz_at hS (Nat.le_of_ble_eq_true rfl) mzcS_1) (fun _ hq => cs_121 (Nat.le_trans (Nat.le_of_ble_eq_true rfl) hd) (hS.le (Nat.le_of_ble_eq_true rfl)) (hR.le (Nat.le_of_ble_eq_true rfl))  s.2 b h3 hq) ?_
    exact g_zret (z := ((cf_121_0 s.2 b).1)) rfl (hr _ _ (hx1 _ hC))
theorem cg_277_53 (hd : 4 ≤ d) (hS : mz_ext S 232) (hR : mz_rok R 232)  (v1 : Int32) (N : mz_N) (b : Bool) {C0 : (Bool × mz_N) → Prop} (hr : ∀ (w : Bool) (N2 : mz_N), C0 (w, N2) → Q (.inl (some (.int (mz_b01 w)))) (mz_k S R N2 b t)) (hp : cp_277_53 v1 N b) (hC : C0 (cf_277_53 v1 N b)) : mz_G (d, mz_X0 L xs, some .boolean, [], mk_277, 2, Q) 53 mt_277_53 [(0, .ref 0), (1, .int v1)] [] false (mz_k S R N b t) := by
  obtain ⟨n, hn⟩ := hp
  exact g_loop (G := fun s => mz_G (d, mz_X0 L xs, some .boolean, [], mk_277, 2, Q) 53 mt_277_53 [(0, .ref 0), (1, .int s.1)] [] false (mz_k S R s.2 b t)) (C := C0) (fun C2 hc hx s hP hC => cb_277_53 hd hS hR b s hr hc hx hP hC) n (v1, N) hn hC
theorem cb_277_9 (hd : 4 ≤ d) (hS : mz_ext S 232) (hR : mz_rok R 232)  (b : Bool) (s : Int32 × mz_N) {C0 : (Bool × mz_N) → Prop} (hr : ∀ (w : Bool) (N2 : mz_N), C0 (w, N2) → Q (.inl (some (.int (mz_b01 w)))) (mz_k S R N2 b t)) {C1 : ((Int32 × mz_N) ⊕ (Bool × mz_N)) → Prop} (hc1 : ∀ s2, C1 (.inl s2) → mz_G (d, mz_X0 L xs, some .boolean, [], mk_277, 2, Q) 9 mt_277_9 [(0, .ref 0), (1, .int s2.1)] [] false (mz_k S R s2.2 b t)) (hx1 : ∀ z, C1 (.inr z) → C0 z) (hp : cd_277_9 b s) (hC : C1 (cq_277_9 b s)) : mz_G (d, mz_X0 L xs, some .boolean, [], mk_277, 2, Q) 9 mt_277_9 [(0, .ref 0), (1, .int s.1)] [] false (mz_k S R s.2 b t) := by
  unfold cq_277_9 at hC
  unfold cd_277_9 at hp
  refine g_iload_n rfl (g_bipush mzb_10 ?_)
  refine g_icge (tg := 31) rfl ms_277_31 hC (fun h1 hC => ?_) (fun h1 hC => ?_)
  · have hp := hp.1 h1
    refine g_aload_n rfl (g_getR (mz_at hS (Nat.le_of_ble_eq_true rfl) mzcS_0) mzcf_11_0 (mz_rb hR (Nat.le_of_ble_eq_true rfl) rfl mzcR_0_0) (g_bipush mzb_8 (g_iload_n rfl ?_)))
    have h2 := hp
    refine g_v3n (Nat.le_of_ble_eq_true rfl) (mz_at hS (Nat.le_of_ble_eq_true rfl) mzcS_1) (fun _ hq => cs_119 (Nat.le_trans (Nat.le_of_ble_eq_true rfl) hd) (hS.le (Nat.le_of_ble_eq_true rfl)) (hR.le (Nat.le_of_ble_eq_true rfl))  8 s.1 s.2 h2 hq) (g_iinc rfl mzi_1 (Nat.le_of_ble_eq_true rfl) rfl (g_goto (tg := 9) rfl ms_277_9 ?_))
    refine g_weak ?_ (g_cl (hc1 ((s.1 + 1), (cf_119_0 8 s.1 s.2)) hC))
    exact ⟨rfl, rfl, trivial⟩
  · have hp := hp.2 h1
    refine g_aload_n rfl (g_getR (mz_at hS (Nat.le_of_ble_eq_true rfl) mzcS_0) mzcf_11_0 (mz_rb hR (Nat.le_of_ble_eq_true rfl) rfl mzcR_0_0) (g_bipush mzb_9 (g_iconst mzi_0 ?_)))
    obtain ⟨h3, hp⟩ := hp
    refine g_v3n (Nat.le_of_ble_eq_true rfl) (mz_at hS (Nat.le_of_ble_eq_true rfl) mzcS_1) (fun _ hq => cs_119 (Nat.le_trans (Nat.le_of_ble_eq_true rfl) hd) (hS.le (Nat.le_of_ble_eq_true rfl)) (hR.le (Nat.le_of_ble_eq_true rfl))  9 0 s.2 h3 hq) (g_aload_n rfl (g_getR (mz_at hS (Nat.le_of_ble_eq_true rfl) mzcS_0) mzcf_11_0 (mz_rb hR (Nat.le_of_ble_eq_true rfl) rfl mzcR_0_0) (g_bipush mzb_10 (g_iconst mzi_0 ?_))))
    obtain ⟨h4, hp⟩ := hp
    refine g_v3n (Nat.le_of_ble_eq_true rfl) (mz_at hS (Nat.le_of_ble_eq_true rfl) mzcS_1) (fun _ hq => cs_119 (Nat.le_trans (Nat.le_of_ble_eq_true rfl) hd) (hS.le (Nat.le_of_ble_eq_true rfl)) (hR.le (Nat.le_of_ble_eq_true rfl))  10 0 (cf_119_0 9 0 s.2) h4 hq) (g_iconst mzi_0 (g_istore_n (Nat.le_of_ble_eq_true rfl) rfl ?_))
    refine g_weak ?_ (g_cl (cg_277_53 hd hS hR 0 (cf_119_0 10 0 (cf_119_0 9 0 s.2)) b hr hp (hx1 _ hC)))
    exact ⟨rfl, rfl, trivial⟩
theorem cg_277_9 (hd : 4 ≤ d) (hS : mz_ext S 232) (hR : mz_rok R 232)  (v1 : Int32) (N : mz_N) (b : Bool) {C0 : (Bool × mz_N) → Prop} (hr : ∀ (w : Bool) (N2 : mz_N), C0 (w, N2) → Q (.inl (some (.int (mz_b01 w)))) (mz_k S R N2 b t)) (hp : cp_277_9 v1 N b) (hC : C0 (cf_277_9 v1 N b)) : mz_G (d, mz_X0 L xs, some .boolean, [], mk_277, 2, Q) 9 mt_277_9 [(0, .ref 0), (1, .int v1)] [] false (mz_k S R N b t) := by
  obtain ⟨n, hn⟩ := hp
  exact g_loop (G := fun s => mz_G (d, mz_X0 L xs, some .boolean, [], mk_277, 2, Q) 9 mt_277_9 [(0, .ref 0), (1, .int s.1)] [] false (mz_k S R s.2 b t)) (C := C0) (fun C2 hc hx s hP hC => cb_277_9 hd hS hR b s hr hc hx hP hC) n (v1, N) hn hC
theorem cg_277_0 (hd : 4 ≤ d) (hS : mz_ext S 232) (hR : mz_rok R 232)  (N : mz_N) (b : Bool) {C0 : (Bool × mz_N) → Prop} (hr : ∀ (w : Bool) (N2 : mz_N), C0 (w, N2) → Q (.inl (some (.int (mz_b01 w)))) (mz_k S R N2 b t)) (hp : cp_277_0 N b) (hC : C0 (cf_277_0 N b)) : mz_G (d, mz_X0 L xs, some .boolean, [], mk_277, 2, Q) 0 mk_277 [(0, .ref 0)] [] true (mz_k S R N b t) := by
  unfold cf_277_0 at hC
  unfold cp_277_0 at hp
  refine g_aload_n rfl (g_getR (mz_at hS (Nat.le_of_ble_eq_true rfl) mzcS_0) mzcf_11_0 (mz_rb hR (Nat.le_of_ble_eq_true rfl) rfl mzcR_0_0) ?_)
  refine g_v1n (Nat.le_of_ble_eq_true rfl) (mz_at hS (Nat.le_of_ble_eq_true rfl) mzcS_1) (fun _ hq => cs_117 (Nat.le_trans (Nat.le_of_ble_eq_true rfl) hd) (hS.le (Nat.le_of_ble_eq_true rfl)) (hR.le (Nat.le_of_ble_eq_true rfl))  N trivial hq) (g_iconst mzi_0 (g_istore_n (Nat.le_of_ble_eq_true rfl) rfl ?_))
  refine g_weak ?_ (g_cl (cg_277_9 hd hS hR 0 (cf_117_0 N) b hr hp hC))
  exact ⟨rfl, rfl, trivial⟩
theorem cs_277 (hd : 5 ≤ d) (hS : mz_ext S 232) (hR : mz_rok R 232)  (N : mz_N) (b : Bool) (hp : cp_277_0 N b) (hq : Q (.inl (some (.int (mz_b01 ((cf_277_0 N b).1))))) (mz_k S R ((cf_277_0 N b).2) b t)) : mz_Ed (mz_X0 L xs) d 277 [.ref 0] (mz_k S R N b t) Q :=
  by
  refine g_in mzq_277 (Nat.le_of_ble_eq_true rfl) (Nat.le_of_ble_eq_true rfl) (Nat.le_trans (Nat.le_of_ble_eq_true rfl) hd) ?_
  refine g_weak ?_ (cg_277_0 (d := d - 1) (by omega) hS hR N b (C0 := fun z => Q (.inl (some (.int (mz_b01 z.1)))) (mz_k S R z.2 b t)) (fun _ _ h => h) hp hq)
  exact ⟨rfl, trivial⟩
/-! 268 KeptHouse.endMinute ()Z -/
theorem ms_268_0 : mz_sf mk_268 0 = mk_268 := mz_sf_zero _
theorem ms_268_26 : mz_sf mk_268 26 = mt_268_26 := mz_sf_add ms_268_0 (t := 26) rfl rfl
theorem ms_268_30 : mz_sf mk_268 30 = mt_268_30 := mz_sf_add ms_268_26 (t := 4) rfl rfl
theorem ms_268_58 : mz_sf mk_268 58 = mt_268_58 := mz_sf_add ms_268_30 (t := 28) rfl rfl
theorem ms_268_79 : mz_sf mk_268 79 = mt_268_79 := mz_sf_add ms_268_58 (t := 21) rfl rfl
theorem ms_268_83 : mz_sf mk_268 83 = mt_268_83 := mz_sf_add ms_268_79 (t := 4) rfl rfl
theorem ms_268_84 : mz_sf mk_268 84 = mt_268_84 := mz_sf_add ms_268_83 (t := 1) rfl rfl
set_option maxRecDepth 100000 in
theorem mzq_268 : mz_PG0 268 = some (11, ⟨"KeptHouse", "endMinute", "()Z"⟩, prog_1_method_83_code, 1, some .boolean, [], mk_268, []) := rfl
theorem cg_268_58 (hd : 5 ≤ d) (hS : mz_ext S 232) (hR : mz_rok R 232)  (N : mz_N) (b : Bool) {C0 : (Bool × mz_N) → Prop} (hr : ∀ (w : Bool) (N2 : mz_N), C0 (w, N2) → Q (.inl (some (.int (mz_b01 w)))) (mz_k S R N2 b t)) (hp : cp_268_58 N b) (hC : C0 (cf_268_58 N b)) : mz_G (d, mz_X0 L xs, some .boolean, [], mk_268, 1, Q) 58 mt_268_58 [(0, .ref 0)] [] false (mz_k S R N b t) := by
  unfold cf_268_58 at hC
  unfold cp_268_58 at hp
  refine g_aload_n rfl (g_getR (mz_at hS (Nat.le_of_ble_eq_true rfl) mzcS_0) mzcf_11_8 (mz_rb hR (Nat.le_of_ble_eq_true rfl) rfl mzcR_0_8) (g_getI (mz_at hS (Nat.le_of_ble_eq_true rfl) mzcS_208) mzcf_1_0 (g_sipush mzs_240 (g_irem (by decide) ?_))))
  refine g_ifne (tg := 79) rfl ms_268_79 hC (fun h1 hC => ?_) (fun h1 hC => ?_)
  · have hp := hp.1 h1
    refine g_aload_n rfl ?_
    have h2 := hp
    refine g_v1v (Nat.le_of_ble_eq_true rfl) (mz_at hS (Nat.le_of_ble_eq_true rfl) mzcS_0) (fun _ hq => cs_277 (Nat.le_trans (Nat.le_of_ble_eq_true rfl) hd) (hS.le (Nat.le_of_ble_eq_true rfl)) (hR.le (Nat.le_of_ble_eq_true rfl))  N b h2 hq) ?_
    refine g_zeq (tg := 83) rfl ms_268_83 hC (fun h3 hC => ?_) (fun h3 hC => ?_)
    · refine g_iconst mzi_1 (g_goto (tg := 84) rfl ms_268_84 ?_)
      exact g_zret (z := true) rfl (hr _ _ hC)
    · refine g_iconst mzi_0 ?_
      exact g_zret (z := false) rfl (hr _ _ hC)
  · have hp := hp.2 h1
    refine g_iconst mzi_1 (g_goto (tg := 84) rfl ms_268_84 ?_)
    exact g_zret (z := true) rfl (hr _ _ hC)
theorem cg_268_30 (hd : 5 ≤ d) (hS : mz_ext S 232) (hR : mz_rok R 232)  (N : mz_N) (b : Bool) {C0 : (Bool × mz_N) → Prop} (hr : ∀ (w : Bool) (N2 : mz_N), C0 (w, N2) → Q (.inl (some (.int (mz_b01 w)))) (mz_k S R N2 b t)) (hp : cp_268_30 N b) (hC : C0 (cf_268_30 N b)) : mz_G (d, mz_X0 L xs, some .boolean, [], mk_268, 1, Q) 30 mt_268_30 [(0, .ref 0)] [] false (mz_k S R N b t) := by
  unfold cf_268_30 at hC
  unfold cp_268_30 at hp
  refine g_aload_n rfl (g_getR (mz_at hS (Nat.le_of_ble_eq_true rfl) mzcS_0) mzcf_11_8 (mz_rb hR (Nat.le_of_ble_eq_true rfl) rfl mzcR_0_8) (g_getI (mz_at hS (Nat.le_of_ble_eq_true rfl) mzcS_208) mzcf_1_0 (g_sipush mzs_2400 (g_irem (by decide) ?_))))
  refine g_ifne (tg := 58) rfl ms_268_58 hC (fun h1 hC => ?_) (fun h1 hC => ?_)
  · have hp := hp.1 h1
    refine g_aload_n rfl (g_getR (mz_at hS (Nat.le_of_ble_eq_true rfl) mzcS_0) mzcf_11_8 (mz_rb hR (Nat.le_of_ble_eq_true rfl) rfl mzcR_0_8) (g_aload_n rfl (g_getR (mz_at hS (Nat.le_of_ble_eq_true rfl) mzcS_0) mzcf_11_1 (mz_rb hR (Nat.le_of_ble_eq_true rfl) rfl mzcR_0_1) (g_getR (mz_at hS (Nat.le_of_ble_eq_true rfl) mzcS_2) mzcf_5_17 (mz_rb hR (Nat.le_of_ble_eq_true rfl) rfl mzcR_2_17) ?_))))
    obtain ⟨h2, hp⟩ := hp
    refine g_v2n (Nat.le_of_ble_eq_true rfl) (mz_at hS (Nat.le_of_ble_eq_true rfl) mzcS_208) (fun _ hq => cs_272 (Nat.le_trans (Nat.le_of_ble_eq_true rfl) hd) (hS.le (Nat.le_of_ble_eq_true rfl)) (hR.le (Nat.le_of_ble_eq_true rfl))  N h2 hq) ?_
    refine g_weak ?_ (g_cl (cg_268_58 hd hS hR (cf_272_0 N) b hr hp hC))
    exact ⟨rfl, trivial⟩
  · have hp := hp.2 h1
    refine g_weak ?_ (g_cl (cg_268_58 hd hS hR N b hr hp hC))
    exact ⟨rfl, trivial⟩
theorem cg_268_0 (hd : 5 ≤ d) (hS : mz_ext S 232) (hR : mz_rok R 232)  (N : mz_N) (b : Bool) {C0 : (Bool × mz_N) → Prop} (hr : ∀ (w : Bool) (N2 : mz_N), C0 (w, N2) → Q (.inl (some (.int (mz_b01 w)))) (mz_k S R N2 b t)) (hp : cp_268_0 N b) (hC : C0 (cf_268_0 N b)) : mz_G (d, mz_X0 L xs, some .boolean, [], mk_268, 1, Q) 0 mk_268 [(0, .ref 0)] [] true (mz_k S R N b t) := by
  unfold cf_268_0 at hC
  unfold cp_268_0 at hp
  refine g_aload_n rfl (g_getR (mz_at hS (Nat.le_of_ble_eq_true rfl) mzcS_0) mzcf_11_8 (mz_rb hR (Nat.le_of_ble_eq_true rfl) rfl mzcR_0_8) (g_dup rfl (g_getI (mz_at hS (Nat.le_of_ble_eq_true rfl) mzcS_208) mzcf_1_0 (g_iconst mzi_1 (g_iadd (g_putI (mz_at hS (Nat.le_of_ble_eq_true rfl) mzcS_208) mzcf_1_0 (g_aload_n rfl ?_)))))))
  refine g_getR (mz_at hS (Nat.le_of_ble_eq_true rfl) mzcS_0) mzcf_11_8 (mz_rb hR (Nat.le_of_ble_eq_true rfl) rfl mzcR_0_8) (g_getI (mz_at hS (Nat.le_of_ble_eq_true rfl) mzcS_208) mzcf_1_0 (g_bipush mzb_10 (g_irem (by decide) ?_)))
  refine g_ifne (tg := 30) rfl ms_268_30 hC (fun h1 hC => ?_) (fun h1 hC => ?_)
  · have hp := hp.1 h1
    refine g_aload_n rfl ?_
    obtain ⟨h2, hp⟩ := hp
    refine g_v1n (Nat.le_of_ble_eq_true rfl) (mz_at hS (Nat.le_of_ble_eq_true rfl) mzcS_0) (fun _ hq => cs_269 (Nat.le_trans (Nat.le_of_ble_eq_true rfl) hd) (hS.le (Nat.le_of_ble_eq_true rfl)) (hR.le (Nat.le_of_ble_eq_true rfl))  (mz_pI N 208 0 ((N.1 208 0) + 1)) h2 hq) ?_
    refine g_weak ?_ (g_cl (cg_268_30 hd hS hR (cf_269_0 (mz_pI N 208 0 ((N.1 208 0) + 1))) b hr hp hC))
    exact ⟨rfl, trivial⟩
  · have hp := hp.2 h1
    refine g_weak ?_ (g_cl (cg_268_30 hd hS hR (mz_pI N 208 0 ((N.1 208 0) + 1)) b hr hp hC))
    exact ⟨rfl, trivial⟩
theorem cs_268 (hd : 6 ≤ d) (hS : mz_ext S 232) (hR : mz_rok R 232)  (N : mz_N) (b : Bool) (hp : cp_268_0 N b) (hq : Q (.inl (some (.int (mz_b01 ((cf_268_0 N b).1))))) (mz_k S R ((cf_268_0 N b).2) b t)) : mz_Ed (mz_X0 L xs) d 268 [.ref 0] (mz_k S R N b t) Q :=
  by
  refine g_in mzq_268 (Nat.le_of_ble_eq_true rfl) (Nat.le_of_ble_eq_true rfl) (Nat.le_trans (Nat.le_of_ble_eq_true rfl) hd) ?_
  refine g_weak ?_ (cg_268_0 (d := d - 1) (by omega) hS hR N b (C0 := fun z => Q (.inl (some (.int (mz_b01 z.1)))) (mz_k S R z.2 b t)) (fun _ _ h => h) hp hq)
  exact ⟨rfl, trivial⟩
/-! 199 KeptHouse.passMinute ()Z -/
theorem ms_199_0 : mz_sf mk_199 0 = mk_199 := mz_sf_zero _
theorem ms_199_17 : mz_sf mk_199 17 = mt_199_17 := mz_sf_add ms_199_0 (t := 17) rfl rfl
theorem ms_199_37 : mz_sf mk_199 37 = mt_199_37 := mz_sf_add ms_199_17 (t := 20) rfl rfl
theorem ms_199_67 : mz_sf mk_199 67 = mt_199_67 := mz_sf_add ms_199_37 (t := 30) rfl rfl
theorem ms_199_86 : mz_sf mk_199 86 = mt_199_86 := mz_sf_add ms_199_67 (t := 19) rfl rfl
theorem ms_199_95 : mz_sf mk_199 95 = mt_199_95 := mz_sf_add ms_199_86 (t := 9) rfl rfl
set_option maxRecDepth 100000 in
theorem mzq_199 : mz_PG0 199 = some (11, ⟨"KeptHouse", "passMinute", "()Z"⟩, prog_1_method_73_code, 2, some .boolean, [], mk_199, []) := rfl
theorem cg_199_86 (hd : 6 ≤ d) (hS : mz_ext S 232) (hR : mz_rok R 232)  (N : mz_N) (b : Bool) {C0 : (Bool × mz_N) → Prop} (hr : ∀ (w : Bool) (N2 : mz_N), C0 (w, N2) → Q (.inl (some (.int (mz_b01 w)))) (mz_k S R N2 b t)) (hp : cp_199_86 N b) (hC : C0 (cf_199_86 N b)) : mz_G (d, mz_X0 L xs, some .boolean, [], mk_199, 2, Q) 86 mt_199_86 [(0, .ref 0)] [] false (mz_k S R N b t) := by
  unfold cf_199_86 at hC
  unfold cp_199_86 at hp
  refine g_aload_n rfl ?_
  obtain ⟨h1, hp⟩ := hp
  refine g_v1v (Nat.le_of_ble_eq_true rfl) (mz_at hS (Nat.le_of_ble_eq_true rfl) mzcS_0) (fun _ hq => cs_255 (Nat.le_trans (Nat.le_of_ble_eq_true rfl) hd) (hS.le (Nat.le_of_ble_eq_true rfl)) (hR.le (Nat.le_of_ble_eq_true rfl))  N b h1 hq) ?_
  refine g_zne (tg := 95) rfl ms_199_95 hC (fun h2 hC => ?_) (fun h2 hC => ?_)
  · have hp := hp.1 h2
    refine g_aload_n rfl ?_
    obtain ⟨h3, hp⟩ := hp
    refine g_v1n (Nat.le_of_ble_eq_true rfl) (mz_at hS (Nat.le_of_ble_eq_true rfl) mzcS_0) (fun _ hq => cs_261 (Nat.le_trans (Nat.le_of_ble_eq_true rfl) hd) (hS.le (Nat.le_of_ble_eq_true rfl)) (hR.le (Nat.le_of_ble_eq_true rfl))  ((cf_255_0 N b).2) h3 hq) (g_aload_n rfl ?_)
    have h4 := hp
    refine g_v1v (Nat.le_of_ble_eq_true rfl) (mz_at hS (Nat.le_of_ble_eq_true rfl) mzcS_0) (fun _ hq => cs_268 (Nat.le_trans (Nat.le_of_ble_eq_true rfl) hd) (hS.le (Nat.le_of_ble_eq_true rfl)) (hR.le (Nat.le_of_ble_eq_true rfl))  (cf_261_0 ((cf_255_0 N b).2)) b h4 hq) ?_
    exact g_zret (z := ((cf_268_0 (cf_261_0 ((cf_255_0 N b).2)) b).1)) rfl (hr _ _ hC)
  · have hp := hp.2 h2
    refine g_iconst mzi_0 ?_
    exact g_zret (z := false) rfl (hr _ _ hC)
theorem cg_199_37 (hd : 6 ≤ d) (hS : mz_ext S 232) (hR : mz_rok R 232)  (v1 : Int32) (N : mz_N) (b : Bool) {C0 : (Bool × mz_N) → Prop} (hr : ∀ (w : Bool) (N2 : mz_N), C0 (w, N2) → Q (.inl (some (.int (mz_b01 w)))) (mz_k S R N2 b t)) (hp : cp_199_37 v1 N b) (hC : C0 (cf_199_37 v1 N b)) : mz_G (d, mz_X0 L xs, some .boolean, [], mk_199, 2, Q) 37 mt_199_37 [(0, .ref 0), (1, .int v1)] [] false (mz_k S R N b t) := by
  unfold cf_199_37 at hC
  unfold cp_199_37 at hp
  refine g_aload_n rfl (g_getR (mz_at hS (Nat.le_of_ble_eq_true rfl) mzcS_0) mzcf_11_4 (mz_rb hR (Nat.le_of_ble_eq_true rfl) rfl mzcR_0_4) (g_aload_n rfl (g_getR (mz_at hS (Nat.le_of_ble_eq_true rfl) mzcS_0) mzcf_11_1 (mz_rb hR (Nat.le_of_ble_eq_true rfl) rfl mzcR_0_1) (g_aload_n rfl (g_getR (mz_at hS (Nat.le_of_ble_eq_true rfl) mzcS_0) mzcf_11_3 (mz_rb hR (Nat.le_of_ble_eq_true rfl) rfl mzcR_0_3) (g_aload_n rfl (g_getR (mz_at hS (Nat.le_of_ble_eq_true rfl) mzcS_0) mzcf_11_10 (mz_rb hR (Nat.le_of_ble_eq_true rfl) rfl mzcR_0_10) ?_)))))))
  refine g_iload_n rfl ?_
  obtain ⟨h1, hp⟩ := hp
  refine g_v5n (Nat.le_of_ble_eq_true rfl) (mz_at hS (Nat.le_of_ble_eq_true rfl) mzcS_65) (fun _ hq => cs_244 (Nat.le_trans (Nat.le_of_ble_eq_true rfl) hd) (hS.le (Nat.le_of_ble_eq_true rfl)) (hR.le (Nat.le_of_ble_eq_true rfl))  v1 N h1 hq) (g_aload_n rfl (g_getR (mz_at hS (Nat.le_of_ble_eq_true rfl) mzcS_0) mzcf_11_4 (mz_rb hR (Nat.le_of_ble_eq_true rfl) rfl mzcR_0_4) ?_))
  obtain ⟨h2, hp⟩ := hp
  refine g_getZ (mz_at hS (Nat.le_of_ble_eq_true rfl) mzcS_65) mzcf_3_8 h2 ?_
  refine g_zeq (tg := 86) rfl ms_199_86 hC (fun h3 hC => ?_) (fun h3 hC => ?_)
  · have hp := hp.1 h3
    refine g_aload_n rfl (g_getR (mz_at hS (Nat.le_of_ble_eq_true rfl) mzcS_0) mzcf_11_4 (mz_rb hR (Nat.le_of_ble_eq_true rfl) rfl mzcR_0_4) (g_aload_n rfl (g_getR (mz_at hS (Nat.le_of_ble_eq_true rfl) mzcS_0) mzcf_11_1 (mz_rb hR (Nat.le_of_ble_eq_true rfl) rfl mzcR_0_1) (g_aload_n rfl (g_getR (mz_at hS (Nat.le_of_ble_eq_true rfl) mzcS_0) mzcf_11_3 (mz_rb hR (Nat.le_of_ble_eq_true rfl) rfl mzcR_0_3) (g_aload_n rfl (g_getR (mz_at hS (Nat.le_of_ble_eq_true rfl) mzcS_0) mzcf_11_10 (mz_rb hR (Nat.le_of_ble_eq_true rfl) rfl mzcR_0_10) ?_)))))))
    obtain ⟨h4, hp⟩ := hp
    refine g_v4n (Nat.le_of_ble_eq_true rfl) (mz_at hS (Nat.le_of_ble_eq_true rfl) mzcS_65) (fun _ hq => cs_247 (Nat.le_trans (Nat.le_of_ble_eq_true rfl) hd) (hS.le (Nat.le_of_ble_eq_true rfl)) (hR.le (Nat.le_of_ble_eq_true rfl))  (cf_244_0 v1 N) h4 hq) ?_
    refine g_weak ?_ (g_cl (cg_199_86 hd hS hR (cf_247_0 (cf_244_0 v1 N)) b hr hp hC))
    exact ⟨rfl, trivial⟩
  · have hp := hp.2 h3
    refine g_weak ?_ (g_cl (cg_199_86 hd hS hR (cf_244_0 v1 N) b hr hp hC))
    exact ⟨rfl, trivial⟩
theorem cg_199_0 (hd : 6 ≤ d) (hS : mz_ext S 232) (hR : mz_rok R 232)  (N : mz_N) (b : Bool) {C0 : (Bool × mz_N) → Prop} (hr : ∀ (w : Bool) (N2 : mz_N), C0 (w, N2) → Q (.inl (some (.int (mz_b01 w)))) (mz_k S R N2 b t)) (hp : cp_199_0 N b) (hC : C0 (cf_199_0 N b)) : mz_G (d, mz_X0 L xs, some .boolean, [], mk_199, 2, Q) 0 mk_199 [(0, .ref 0)] [] true (mz_k S R N b t) := by
  unfold cf_199_0 at hC
  unfold cp_199_0 at hp
  refine g_aload_n rfl (g_getR (mz_at hS (Nat.le_of_ble_eq_true rfl) mzcS_0) mzcf_11_8 (mz_rb hR (Nat.le_of_ble_eq_true rfl) rfl mzcR_0_8) ?_)
  refine g_v1v (Nat.le_of_ble_eq_true rfl) (mz_at hS (Nat.le_of_ble_eq_true rfl) mzcS_208) (fun _ hq => cs_200 (Nat.le_trans (Nat.le_of_ble_eq_true rfl) hd) (hS.le (Nat.le_of_ble_eq_true rfl)) (hR.le (Nat.le_of_ble_eq_true rfl))  N trivial hq) (g_istore_n (Nat.le_of_ble_eq_true rfl) rfl (g_aload_n rfl ?_))
  obtain ⟨h2, hp⟩ := hp
  refine g_v1v (Nat.le_of_ble_eq_true rfl) (mz_at hS (Nat.le_of_ble_eq_true rfl) mzcS_0) (fun _ hq => cs_201 (Nat.le_trans (Nat.le_of_ble_eq_true rfl) hd) (hS.le (Nat.le_of_ble_eq_true rfl)) (hR.le (Nat.le_of_ble_eq_true rfl))  N b h2 hq) ?_
  refine g_zne (tg := 17) rfl ms_199_17 hC (fun h3 hC => ?_) (fun h3 hC => ?_)
  · have hp := hp.1 h3
    refine g_aload_n rfl (g_iload_n rfl ?_)
    obtain ⟨h4, hp⟩ := hp
    refine g_v2n (Nat.le_of_ble_eq_true rfl) (mz_at hS (Nat.le_of_ble_eq_true rfl) mzcS_0) (fun _ hq => cs_208 (Nat.le_trans (Nat.le_of_ble_eq_true rfl) hd) (hS.le (Nat.le_of_ble_eq_true rfl)) (hR.le (Nat.le_of_ble_eq_true rfl))  (cf_200_0 N) ((cf_201_0 N b).2) b h4 hq) (g_aload_n rfl (g_iload_n rfl ?_))
    obtain ⟨h5, hp⟩ := hp
    refine g_v2n (Nat.le_of_ble_eq_true rfl) (mz_at hS (Nat.le_of_ble_eq_true rfl) mzcS_0) (fun _ hq => cs_219 (Nat.le_trans (Nat.le_of_ble_eq_true rfl) hd) (hS.le (Nat.le_of_ble_eq_true rfl)) (hR.le (Nat.le_of_ble_eq_true rfl))  (cf_200_0 N) (cf_208_0 (cf_200_0 N) ((cf_201_0 N b).2) b) h5 hq) (g_aload_n rfl (g_iload_n rfl ?_))
    obtain ⟨h6, hp⟩ := hp
    refine g_v2n (Nat.le_of_ble_eq_true rfl) (mz_at hS (Nat.le_of_ble_eq_true rfl) mzcS_0) (fun _ hq => cs_229 (Nat.le_trans (Nat.le_of_ble_eq_true rfl) hd) (hS.le (Nat.le_of_ble_eq_true rfl)) (hR.le (Nat.le_of_ble_eq_true rfl))  (cf_200_0 N) (cf_219_0 (cf_200_0 N) (cf_208_0 (cf_200_0 N) ((cf_201_0 N b).2) b)) h6 hq) (g_aload_n rfl (g_iload_n rfl ?_))
    obtain ⟨h7, hp⟩ := hp
    refine g_v2n (Nat.le_of_ble_eq_true rfl) (mz_at hS (Nat.le_of_ble_eq_true rfl) mzcS_0) (fun _ hq => cs_233 (Nat.le_trans (Nat.le_of_ble_eq_true rfl) hd) (hS.le (Nat.le_of_ble_eq_true rfl)) (hR.le (Nat.le_of_ble_eq_true rfl))  (cf_200_0 N) (cf_229_0 (cf_200_0 N) (cf_219_0 (cf_200_0 N) (cf_208_0 (cf_200_0 N) ((cf_201_0 N b).2) b))) h7 hq) ?_
    refine g_weak ?_ (g_cl (cg_199_37 hd hS hR (cf_200_0 N) (cf_233_0 (cf_200_0 N) (cf_229_0 (cf_200_0 N) (cf_219_0 (cf_200_0 N) (cf_208_0 (cf_200_0 N) ((cf_201_0 N b).2) b)))) b hr hp hC))
    exact ⟨rfl, rfl, trivial⟩
  · have hp := hp.2 h3
    refine g_iconst mzi_0 ?_
    exact g_zret (z := false) rfl (hr _ _ hC)
theorem cs_199 (hd : 7 ≤ d) (hS : mz_ext S 232) (hR : mz_rok R 232)  (N : mz_N) (b : Bool) (hp : cp_199_0 N b) (hq : Q (.inl (some (.int (mz_b01 ((cf_199_0 N b).1))))) (mz_k S R ((cf_199_0 N b).2) b t)) : mz_Ed (mz_X0 L xs) d 199 [.ref 0] (mz_k S R N b t) Q :=
  by
  refine g_in mzq_199 (Nat.le_of_ble_eq_true rfl) (Nat.le_of_ble_eq_true rfl) (Nat.le_trans (Nat.le_of_ble_eq_true rfl) hd) ?_
  refine g_weak ?_ (cg_199_0 (d := d - 1) (by omega) hS hR N b (C0 := fun z => Q (.inl (some (.int (mz_b01 z.1)))) (mz_k S R z.2 b t)) (fun _ _ h => h) hp hq)
  exact ⟨rfl, trivial⟩
/-! 198 KeptHouse.run (I)I -/
theorem ms_198_0 : mz_sf mk_198 0 = mk_198 := mz_sf_zero _
theorem ms_198_25 : mz_sf mk_198 25 = mt_198_25 := mz_sf_add ms_198_0 (t := 25) rfl rfl
theorem ms_198_29 : mz_sf mk_198 29 = mt_198_29 := mz_sf_add ms_198_25 (t := 4) rfl rfl
theorem ms_198_30 : mz_sf mk_198 30 = mt_198_30 := mz_sf_add ms_198_29 (t := 1) rfl rfl
theorem ms_198_35 : mz_sf mk_198 35 = mt_198_35 := mz_sf_add ms_198_30 (t := 5) rfl rfl
theorem ms_198_51 : mz_sf mk_198 51 = mt_198_51 := mz_sf_add ms_198_35 (t := 16) rfl rfl
theorem ms_198_57 : mz_sf mk_198 57 = mt_198_57 := mz_sf_add ms_198_51 (t := 6) rfl rfl
set_option maxRecDepth 100000 in
theorem mzq_198 : mz_PG0 198 = some (11, ⟨"KeptHouse", "run", "(I)I"⟩, prog_1_method_31_code, 3, some .int, [], mk_198, []) := rfl
theorem cb_198_35 (hd : 7 ≤ d) (hS : mz_ext S 232) (hR : mz_rok R 232)  (v1 : Int32) (b : Bool) (s : Int32 × mz_N) {C0 : (Nat × Int32 × mz_N) → Prop} (hr : ∀ (w : Int32) (N2 : mz_N), C0 (0, w, N2) → Q (.inl (some (.int w))) (mz_k S R N2 b t)) (ht : ∀ (c : Nat) (w : Int32) (N2 : mz_N), ¬ c = 0 → C0 (c, w, N2) → Q (.inr (c - 1)) (mz_k S R N2 b (t + 1))) (h1000 : t < 1000) {C1 : ((Int32 × mz_N) ⊕ (Nat × Int32 × mz_N)) → Prop} (hc1 : ∀ s2, C1 (.inl s2) → mz_G (d, mz_X0 L xs, some .int, [], mk_198, 3, Q) 35 mt_198_35 [(0, .ref 0), (1, .int v1), (2, .int s2.1)] [] false (mz_k S R s2.2 b t)) (hx1 : ∀ z, C1 (.inr z) → C0 z) (hp : cd_198_35 v1 b s) (hC : C1 (cq_198_35 v1 b s)) : mz_G (d, mz_X0 L xs, some .int, [], mk_198, 3, Q) 35 mt_198_35 [(0, .ref 0), (1, .int v1), (2, .int s.1)] [] false (mz_k S R s.2 b t) := by
  unfold cq_198_35 at hC
  unfold cd_198_35 at hp
  refine g_iload_n rfl (g_iload_n rfl ?_)
  refine g_icge (tg := 57) rfl ms_198_57 hC (fun h1 hC => ?_) (fun h1 hC => ?_)
  · have hp := hp.1 h1
    refine g_aload_n rfl ?_
    have h2 := hp
    refine g_v1v (Nat.le_of_ble_eq_true rfl) (mz_at hS (Nat.le_of_ble_eq_true rfl) mzcS_0) (fun _ hq => cs_199 (Nat.le_trans (Nat.le_of_ble_eq_true rfl) hd) (hS.le (Nat.le_of_ble_eq_true rfl)) (hR.le (Nat.le_of_ble_eq_true rfl))  s.2 b h2 hq) ?_
    refine g_zne (tg := 51) rfl ms_198_51 hC (fun h3 hC => ?_) (fun h3 hC => ?_)
    · refine g_iinc rfl mzi_1 (Nat.le_of_ble_eq_true rfl) rfl (g_goto (tg := 35) rfl ms_198_35 ?_)
      refine g_weak ?_ (g_cl (hc1 ((s.1 + 1), (cf_199_0 s.2 b).2) hC))
      exact ⟨rfl, rfl, rfl, trivial⟩
    · refine g_sipush mzs_m1001 ?_
      exact g_iret rfl (hr _ _ (hx1 _ hC))
  · have hp := hp.2 h1
    refine g_aload_n rfl (g_getR (mz_at hS (Nat.le_of_ble_eq_true rfl) mzcS_0) mzcf_11_8 (mz_rb hR (Nat.le_of_ble_eq_true rfl) rfl mzcR_0_8) (g_getI (mz_at hS (Nat.le_of_ble_eq_true rfl) mzcS_208) mzcf_1_0 ?_))
    exact g_iret rfl (hr _ _ (hx1 _ hC))
theorem cg_198_35 (hd : 7 ≤ d) (hS : mz_ext S 232) (hR : mz_rok R 232)  (v1 : Int32) (v2 : Int32) (N : mz_N) (b : Bool) {C0 : (Nat × Int32 × mz_N) → Prop} (hr : ∀ (w : Int32) (N2 : mz_N), C0 (0, w, N2) → Q (.inl (some (.int w))) (mz_k S R N2 b t)) (ht : ∀ (c : Nat) (w : Int32) (N2 : mz_N), ¬ c = 0 → C0 (c, w, N2) → Q (.inr (c - 1)) (mz_k S R N2 b (t + 1))) (h1000 : t < 1000) (hp : cp_198_35 v1 v2 N b) (hC : C0 (cf_198_35 v1 v2 N b)) : mz_G (d, mz_X0 L xs, some .int, [], mk_198, 3, Q) 35 mt_198_35 [(0, .ref 0), (1, .int v1), (2, .int v2)] [] false (mz_k S R N b t) := by
  obtain ⟨n, hn⟩ := hp
  exact g_loop (G := fun s => mz_G (d, mz_X0 L xs, some .int, [], mk_198, 3, Q) 35 mt_198_35 [(0, .ref 0), (1, .int v1), (2, .int s.1)] [] false (mz_k S R s.2 b t)) (C := C0) (fun C2 hc hx s hP hC => cb_198_35 hd hS hR v1 b s hr ht h1000 hc hx hP hC) n (v2, N) hn hC
theorem cg_198_30 (hd : 7 ≤ d) (hS : mz_ext S 232) (hR : mz_rok R 232)  (s0 : Bool) (v1 : Int32) (N : mz_N) (b : Bool) {C0 : (Nat × Int32 × mz_N) → Prop} (hr : ∀ (w : Int32) (N2 : mz_N), C0 (0, w, N2) → Q (.inl (some (.int w))) (mz_k S R N2 b t)) (ht : ∀ (c : Nat) (w : Int32) (N2 : mz_N), ¬ c = 0 → C0 (c, w, N2) → Q (.inr (c - 1)) (mz_k S R N2 b (t + 1))) (h1000 : t < 1000) (hp : cp_198_30 s0 v1 N b) (hC : C0 (cf_198_30 s0 v1 N b)) : mz_G (d, mz_X0 L xs, some .int, [], mk_198, 3, Q) 30 mt_198_30 [(0, .ref 0), (1, .int v1)] [.int (mz_b01 s0)] false (mz_k S R N b t) := by
  unfold cf_198_30 at hC
  unfold cp_198_30 at hp
  refine g_s1nt (Nat.le_of_ble_eq_true rfl) rfl (fun _ h0 h1 => cs_187 (Nat.le_trans (Nat.le_of_ble_eq_true rfl) hd) (hS.le (Nat.le_of_ble_eq_true rfl)) (hR.le (Nat.le_of_ble_eq_true rfl))  s0 trivial h1000 h0 h1) hC (fun h2 hC => ?_) (fun h2 hC => ?_)
  · have hp := hp.1 h2
    refine g_iconst mzi_0 (g_istore_n (Nat.le_of_ble_eq_true rfl) rfl ?_)
    refine g_weak ?_ (g_cl (cg_198_35 hd hS hR v1 0 N b hr ht h1000 hp hC))
    exact ⟨rfl, rfl, rfl, trivial⟩
  · have hp := hp.2 h2
    exact ht _ _ _ h2 hC
theorem cg_198_0 (hd : 7 ≤ d) (hS : mz_ext S 232) (hR : mz_rok R 232)  (v1 : Int32) (N : mz_N) (b : Bool) {C0 : (Nat × Int32 × mz_N) → Prop} (hr : ∀ (w : Int32) (N2 : mz_N), C0 (0, w, N2) → Q (.inl (some (.int w))) (mz_k S R N2 b t)) (ht : ∀ (c : Nat) (w : Int32) (N2 : mz_N), ¬ c = 0 → C0 (c, w, N2) → Q (.inr (c - 1)) (mz_k S R N2 b (t + 1))) (h1000 : t < 1000) (hp : cp_198_0 v1 N b) (hC : C0 (cf_198_0 v1 N b)) : mz_G (d, mz_X0 L xs, some .int, [], mk_198, 3, Q) 0 mk_198 [(0, .ref 0), (1, .int v1)] [] true (mz_k S R N b t) := by
  unfold cf_198_0 at hC
  unfold cp_198_0 at hp
  refine g_aload_n rfl ?_
  obtain ⟨h1, hp⟩ := hp
  refine g_v1nt (Nat.le_of_ble_eq_true rfl) (mz_at hS (Nat.le_of_ble_eq_true rfl) mzcS_0) rfl (fun _ h0 h1 => cs_104 (Nat.le_trans (Nat.le_of_ble_eq_true rfl) hd) (hS.le (Nat.le_of_ble_eq_true rfl)) (hR.le (Nat.le_of_ble_eq_true rfl))  N h1 h1000 h0 h1) hC (fun h5 hC => ?_) (fun h5 hC => ?_)
  · have hp := hp.1 h5
    refine g_iload_n rfl (g_iconst mzi_1 (g_bipush mzb_120 ?_))
    obtain ⟨h2, hp⟩ := hp
    refine g_s3nt (Nat.le_of_ble_eq_true rfl) rfl (fun _ h0 h1 => cs_105 (Nat.le_trans (Nat.le_of_ble_eq_true rfl) hd) (hS.le (Nat.le_of_ble_eq_true rfl)) (hR.le (Nat.le_of_ble_eq_true rfl))  v1 1 120 h2 h1000 h0 h1) hC (fun h4 hC => ?_) (fun h4 hC => ?_)
    · have hp := hp.1 h4
      refine g_aload_n rfl (g_getR (mz_at hS (Nat.le_of_ble_eq_true rfl) mzcS_0) mzcf_11_8 (mz_rb hR (Nat.le_of_ble_eq_true rfl) rfl mzcR_0_8) (g_getI (mz_at hS (Nat.le_of_ble_eq_true rfl) mzcS_208) mzcf_1_0 (g_iload_n rfl (g_iadd (g_con ?_)))))
      refine g_icgt (tg := 29) rfl ms_198_29 hC (fun h3 hC => ?_) (fun h3 hC => ?_)
      · have hp := hp.1 h3
        refine g_iconst mzi_0 ?_
        refine g_weak ?_ (g_cl (cg_198_30 hd hS hR false v1 N b hr ht h1000 hp hC))
        exact ⟨rfl, rfl, trivial⟩
      · have hp := hp.2 h3
        refine g_iconst mzi_1 (g_goto (tg := 30) rfl ms_198_30 ?_)
        refine g_weak ?_ (g_cl (cg_198_30 hd hS hR true v1 N b hr ht h1000 hp hC))
        exact ⟨rfl, rfl, trivial⟩
    · have hp := hp.2 h4
      exact ht _ _ _ h4 hC
  · have hp := hp.2 h5
    exact ht _ _ _ h5 hC
theorem cs_198 (hd : 8 ≤ d) (hS : mz_ext S 232) (hR : mz_rok R 232)  (v1 : Int32) (N : mz_N) (b : Bool) (hp : cp_198_0 v1 N b) (h1000 : t < 1000) (h0 : (cf_198_0 v1 N b).1 = 0 → Q (.inl (some (.int ((cf_198_0 v1 N b).2.1)))) (mz_k S R ((cf_198_0 v1 N b).2.2) b t)) (h1 : ¬ (cf_198_0 v1 N b).1 = 0 → Q (.inr (((cf_198_0 v1 N b).1) - 1)) (mz_k S R ((cf_198_0 v1 N b).2.2) b (t + 1))) : mz_Ed (mz_X0 L xs) d 198 [.ref 0, .int v1] (mz_k S R N b t) Q :=
  by
  refine g_in mzq_198 (Nat.le_of_ble_eq_true rfl) (Nat.le_of_ble_eq_true rfl) (Nat.le_trans (Nat.le_of_ble_eq_true rfl) hd) ?_
  refine g_weak ?_ (cg_198_0 (d := d - 1) (by omega) hS hR v1 N b (C0 := fun z => (z.1 = 0 → Q (.inl (some (.int z.2.1))) (mz_k S R z.2.2 b t)) ∧ (¬ z.1 = 0 → Q (.inr (z.1 - 1)) (mz_k S R z.2.2 b (t + 1)))) (fun _ _ h => h.1 rfl) (fun c _ _ hc h => h.2 hc) h1000 hp ⟨h0, h1⟩)
  exact ⟨rfl, rfl, trivial⟩
/-! 197 KeptHouseLaw.run (LKeptHouse;I[J)I -/
theorem ms_197_0 : mz_sf mk_197 0 = mk_197 := mz_sf_zero _
theorem ms_197_13 : mz_sf mk_197 13 = mt_197_13 := mz_sf_add ms_197_0 (t := 13) rfl rfl
theorem ms_197_16 : mz_sf mk_197 16 = mt_197_16 := mz_sf_add ms_197_13 (t := 3) rfl rfl
theorem ms_197_18 : mz_sf mk_197 18 = mt_197_18 := mz_sf_add ms_197_16 (t := 2) rfl rfl
set_option maxRecDepth 100000 in
theorem mzq_197 : mz_PG0 197 = some (13, ⟨"KeptHouseLaw", "run", "(LKeptHouse;I[J)I"⟩, method_27_code, 4, some .int, [(0, 9, 12, 13), (0, 9, 15, 15)], mk_197, [(0, 12, 13), (1, 15, 16)]) := rfl
theorem cg_197_0 (hd : 8 ≤ d) (hS : mz_ext S 343) (hR : mz_rok R 343)  (v1 : Int32) (N : mz_N) (b : Bool) (t : Nat) {C0 : (Int32 × mz_N × Nat) → Prop} (hr : ∀ (w : Int32) (N2 : mz_N) (t2 : Nat), C0 (w, N2, t2) → Q (.inl (some (.int w))) (mz_k S R N2 b t2)) (hp : cp_197_0 v1 N b t) (hC : C0 (cf_197_0 v1 N b t)) : mz_G (d, mz_X0 L xs, some .int, [(0, 12, 13), (1, 15, 16)], mk_197, 4, Q) 0 mk_197 [(0, .ref 0), (1, .int v1), (2, .ref 342)] [] true (mz_k S R N b t) := by
  unfold cf_197_0 at hC
  unfold cp_197_0 at hp
  refine g_aload_n rfl (g_iconst mzi_0 (g_aload_n rfl (g_iload_n rfl ?_)))
  obtain ⟨h1, hp⟩ := hp
  obtain ⟨h1000, hp⟩ := hp
  refine g_v2vh (Nat.le_of_ble_eq_true rfl) (mz_at hS (Nat.le_of_ble_eq_true rfl) mzcS_0) (fun _ h0 h1 => cs_198 (Nat.le_trans (Nat.le_of_ble_eq_true rfl) hd) (hS.le (Nat.le_of_ble_eq_true rfl)) (hR.le (Nat.le_of_ble_eq_true rfl))  v1 N b h1 h1000 h0 h1) hC (fun h2 hC => ?_) (fun h2 hC => ?_)
  · have hp := hp.1 h2
    refine g_i2l (g_last (mz_at hS (Nat.le_of_ble_eq_true rfl) mzcS_342) (mz_ibd (by decide)) (g_goto (tg := 18) rfl ms_197_18 (g_iconst mzi_0 ?_)))
    exact g_iret rfl (hr _ _ _ hC)
  · have hp := hp.2 h2
    refine mz_cs hC (fun h6 hC => ?_) (fun h6 hC => ?_)
    · have hp := hp.1 h6
      refine ⟨(0, 12, 13), (by rw [h6]; rfl), ?_⟩
      show mz_G (d, mz_X0 L xs, some .int, [(0, 12, 13), (1, 15, 16)], mk_197, 4, Q) 13 (mz_sf mk_197 13) [] [] false (mz_k S R ((cf_198_0 v1 N b).2.2) b (t + 1))
      rw [ms_197_13]
      refine g_iconst mzi_1 ?_
      exact g_iret rfl (hr _ _ _ hC)
    · have hp := hp.2 h6
      have h4 := hp
      refine ⟨(1, 15, 16), (by rw [h4]; rfl), ?_⟩
      show mz_G (d, mz_X0 L xs, some .int, [(0, 12, 13), (1, 15, 16)], mk_197, 4, Q) 16 (mz_sf mk_197 16) [] [] false (mz_k S R ((cf_198_0 v1 N b).2.2) b (t + 1))
      rw [ms_197_16]
      refine g_iconst mzi_2 ?_
      exact g_iret rfl (hr _ _ _ hC)
theorem cs_197 (hd : 9 ≤ d) (hS : mz_ext S 343) (hR : mz_rok R 343)  (v1 : Int32) (N : mz_N) (b : Bool) (t : Nat) (hp : cp_197_0 v1 N b t) (hq : Q (.inl (some (.int ((cf_197_0 v1 N b t).1)))) (mz_k S R ((cf_197_0 v1 N b t).2.1) b ((cf_197_0 v1 N b t).2.2))) : mz_Ed (mz_X0 L xs) d 197 [.ref 0, .int v1, .ref 342] (mz_k S R N b t) Q :=
  by
  refine g_in mzq_197 (Nat.le_of_ble_eq_true rfl) (Nat.le_of_ble_eq_true rfl) (Nat.le_trans (Nat.le_of_ble_eq_true rfl) hd) ?_
  refine g_weak ?_ (cg_197_0 (d := d - 1) (by omega) hS hR v1 N b t (C0 := fun z => Q (.inl (some (.int z.1))) (mz_k S R z.2.1 b z.2.2)) (fun _ _ _ h => h) hp hq)
  exact ⟨rfl, rfl, rfl, trivial⟩
/-! 279 KeptHouse.mains (Z)Z -/
theorem ms_279_0 : mz_sf mk_279 0 = mk_279 := mz_sf_zero _
set_option maxRecDepth 100000 in
theorem mzq_279 : mz_PG0 279 = some (11, ⟨"KeptHouse", "mains", "(Z)Z"⟩, prog_1_method_32_code, 3, some .boolean, [], mk_279, []) := rfl
theorem cg_279_0 (hd : 1 ≤ d) (hS : mz_ext S 232) (hR : mz_rok R 232)  (v1 : Bool) (N : mz_N) {C0 : (Nat × Bool × mz_N) → Prop} (hr : ∀ (w : Bool) (N2 : mz_N), C0 (0, w, N2) → Q (.inl (some (.int (mz_b01 w)))) (mz_k S R N2 b t)) (ht : ∀ (c : Nat) (w : Bool) (N2 : mz_N), ¬ c = 0 → C0 (c, w, N2) → Q (.inr (c - 1)) (mz_k S R N2 b (t + 1))) (h1000 : t < 1000) (hp : cp_279_0 v1 N) (hC : C0 (cf_279_0 v1 N)) : mz_G (d, mz_X0 L xs, some .boolean, [], mk_279, 3, Q) 0 mk_279 [(0, .ref 0), (1, .int (mz_b01 v1))] [] true (mz_k S R N b t) := by
  unfold cf_279_0 at hC
  unfold cp_279_0 at hp
  refine g_aload_n rfl ?_
  obtain ⟨h1, hp⟩ := hp
  refine g_v1nt (Nat.le_of_ble_eq_true rfl) (mz_at hS (Nat.le_of_ble_eq_true rfl) mzcS_0) rfl (fun _ h0 h1 => cs_104 (Nat.le_trans (Nat.le_of_ble_eq_true rfl) hd) (hS.le (Nat.le_of_ble_eq_true rfl)) (hR.le (Nat.le_of_ble_eq_true rfl))  N h1 h1000 h0 h1) hC (fun h3 hC => ?_) (fun h3 hC => ?_)
  · have hp := hp.1 h3
    refine g_aload_n rfl (g_getR (mz_at hS (Nat.le_of_ble_eq_true rfl) mzcS_0) mzcf_11_3 (mz_rb hR (Nat.le_of_ble_eq_true rfl) rfl mzcR_0_3) ?_)
    have h2 := hp
    refine g_getZ (mz_at hS (Nat.le_of_ble_eq_true rfl) mzcS_56) mzcf_9_4 h2 (g_istore_n (Nat.le_of_ble_eq_true rfl) rfl (g_aload_n rfl (g_getR (mz_at hS (Nat.le_of_ble_eq_true rfl) mzcS_0) mzcf_11_3 (mz_rb hR (Nat.le_of_ble_eq_true rfl) rfl mzcR_0_3) (g_iload_n rfl (g_putZ (z := v1) (mz_at hS (Nat.le_of_ble_eq_true rfl) mzcS_56) mzcf_9_4 (g_iload_n rfl ?_))))))
    exact g_zret (z := (mz_fZ N 56 4)) rfl (hr _ _ hC)
  · have hp := hp.2 h3
    exact ht _ _ _ h3 hC
theorem cs_279 (hd : 2 ≤ d) (hS : mz_ext S 232) (hR : mz_rok R 232)  (v1 : Bool) (N : mz_N) (hp : cp_279_0 v1 N) (h1000 : t < 1000) (h0 : (cf_279_0 v1 N).1 = 0 → Q (.inl (some (.int (mz_b01 ((cf_279_0 v1 N).2.1))))) (mz_k S R ((cf_279_0 v1 N).2.2) b t)) (h1 : ¬ (cf_279_0 v1 N).1 = 0 → Q (.inr (((cf_279_0 v1 N).1) - 1)) (mz_k S R ((cf_279_0 v1 N).2.2) b (t + 1))) : mz_Ed (mz_X0 L xs) d 279 [.ref 0, .int (mz_b01 v1)] (mz_k S R N b t) Q :=
  by
  refine g_in mzq_279 (Nat.le_of_ble_eq_true rfl) (Nat.le_of_ble_eq_true rfl) (Nat.le_trans (Nat.le_of_ble_eq_true rfl) hd) ?_
  refine g_weak ?_ (cg_279_0 (d := d - 1) (by omega) hS hR v1 N (C0 := fun z => (z.1 = 0 → Q (.inl (some (.int (mz_b01 z.2.1)))) (mz_k S R z.2.2 b t)) ∧ (¬ z.1 = 0 → Q (.inr (z.1 - 1)) (mz_k S R z.2.2 b (t + 1)))) (fun _ _ h => h.1 rfl) (fun c _ _ hc h => h.2 hc) h1000 hp ⟨h0, h1⟩)
  exact ⟨rfl, rfl, trivial⟩
/-! 278 KeptHouseLaw.mains (LKeptHouse;Z[J)I -/
theorem ms_278_0 : mz_sf mk_278 0 = mk_278 := mz_sf_zero _
theorem ms_278_14 : mz_sf mk_278 14 = mt_278_14 := mz_sf_add ms_278_0 (t := 14) rfl rfl
theorem ms_278_15 : mz_sf mk_278 15 = mt_278_15 := mz_sf_add ms_278_14 (t := 1) rfl rfl
theorem ms_278_20 : mz_sf mk_278 20 = mt_278_20 := mz_sf_add ms_278_15 (t := 5) rfl rfl
theorem ms_278_22 : mz_sf mk_278 22 = mt_278_22 := mz_sf_add ms_278_20 (t := 2) rfl rfl
set_option maxRecDepth 100000 in
theorem mzq_278 : mz_PG0 278 = some (13, ⟨"KeptHouseLaw", "mains", "(LKeptHouse;Z[J)I"⟩, method_28_code, 4, some .int, [(0, 16, 19, 15)], mk_278, [(1, 19, 20)]) := rfl
theorem cg_278_15 (hd : 2 ≤ d) (hS : mz_ext S 343) (hR : mz_rok R 343)  (s1 : Int32) (s2 : Int64) (N : mz_N) (t : Nat) {C0 : (Int32 × mz_N × Nat) → Prop} (hr : ∀ (w : Int32) (N2 : mz_N) (t2 : Nat), C0 (w, N2, t2) → Q (.inl (some (.int w))) (mz_k S R N2 b t2)) (hp : cp_278_15 s1 s2 N t) (hC : C0 (cf_278_15 s1 s2 N t)) : mz_G (d, mz_X0 L xs, some .int, [(1, 19, 20)], mk_278, 4, Q) 15 mt_278_15 [] [.long s2, .int s1, .ref 342] false (mz_k S R N b t) := by
  unfold cf_278_15 at hC
  unfold cp_278_15 at hp
  have h1 := hp
  refine g_last (mz_at hS (Nat.le_of_ble_eq_true rfl) mzcS_342) h1 (g_goto (tg := 22) rfl ms_278_22 (g_iconst mzi_0 ?_))
  exact g_iret rfl (hr _ _ _ hC)
theorem cg_278_0 (hd : 2 ≤ d) (hS : mz_ext S 343) (hR : mz_rok R 343)  (v1 : Bool) (N : mz_N) (t : Nat) {C0 : (Int32 × mz_N × Nat) → Prop} (hr : ∀ (w : Int32) (N2 : mz_N) (t2 : Nat), C0 (w, N2, t2) → Q (.inl (some (.int w))) (mz_k S R N2 b t2)) (hp : cp_278_0 v1 N t) (hC : C0 (cf_278_0 v1 N t)) : mz_G (d, mz_X0 L xs, some .int, [(1, 19, 20)], mk_278, 4, Q) 0 mk_278 [(0, .ref 0), (1, .int (mz_b01 v1)), (2, .ref 342)] [] true (mz_k S R N b t) := by
  unfold cf_278_0 at hC
  unfold cp_278_0 at hp
  refine g_aload_n rfl (g_iconst mzi_0 (g_aload_n rfl (g_iload_n rfl ?_)))
  obtain ⟨h1, hp⟩ := hp
  obtain ⟨h1000, hp⟩ := hp
  refine g_v2vh (Nat.le_of_ble_eq_true rfl) (mz_at hS (Nat.le_of_ble_eq_true rfl) mzcS_0) (fun _ h0 h1 => cs_279 (Nat.le_trans (Nat.le_of_ble_eq_true rfl) hd) (hS.le (Nat.le_of_ble_eq_true rfl)) (hR.le (Nat.le_of_ble_eq_true rfl))  v1 N h1 h1000 h0 h1) hC (fun h2 hC => ?_) (fun h2 hC => ?_)
  · have hp := hp.1 h2
    refine g_zeq (tg := 14) rfl ms_278_14 hC (fun h3 hC => ?_) (fun h3 hC => ?_)
    · have hp := hp.1 h3
      refine g_lconst mzl_1 (g_goto (tg := 15) rfl ms_278_15 ?_)
      refine g_weak ?_ (g_cl (cg_278_15 hd hS hR 0 1 ((cf_279_0 v1 N).2.2) t hr hp hC))
      exact trivial
    · have hp := hp.2 h3
      refine g_lconst mzl_0 ?_
      refine g_weak ?_ (g_cl (cg_278_15 hd hS hR 0 0 ((cf_279_0 v1 N).2.2) t hr hp hC))
      exact trivial
  · have hp := hp.2 h2
    have h5 := hp
    refine ⟨(1, 19, 20), (by rw [h5]; rfl), ?_⟩
    show mz_G (d, mz_X0 L xs, some .int, [(1, 19, 20)], mk_278, 4, Q) 20 (mz_sf mk_278 20) [] [] false (mz_k S R ((cf_279_0 v1 N).2.2) b (t + 1))
    rw [ms_278_20]
    refine g_iconst mzi_1 ?_
    exact g_iret rfl (hr _ _ _ hC)
theorem cs_278 (hd : 3 ≤ d) (hS : mz_ext S 343) (hR : mz_rok R 343)  (v1 : Bool) (N : mz_N) (t : Nat) (hp : cp_278_0 v1 N t) (hq : Q (.inl (some (.int ((cf_278_0 v1 N t).1)))) (mz_k S R ((cf_278_0 v1 N t).2.1) b ((cf_278_0 v1 N t).2.2))) : mz_Ed (mz_X0 L xs) d 278 [.ref 0, .int (mz_b01 v1), .ref 342] (mz_k S R N b t) Q :=
  by
  refine g_in mzq_278 (Nat.le_of_ble_eq_true rfl) (Nat.le_of_ble_eq_true rfl) (Nat.le_trans (Nat.le_of_ble_eq_true rfl) hd) ?_
  refine g_weak ?_ (cg_278_0 (d := d - 1) (by omega) hS hR v1 N t (C0 := fun z => Q (.inl (some (.int z.1))) (mz_k S R z.2.1 b z.2.2)) (fun _ _ _ h => h) hp hq)
  exact ⟨rfl, rfl, rfl, trivial⟩
/-! 281 KeptHouse.fuel (I)I -/
theorem ms_281_0 : mz_sf mk_281 0 = mk_281 := mz_sf_zero _
theorem ms_281_34 : mz_sf mk_281 34 = mt_281_34 := mz_sf_add ms_281_0 (t := 34) rfl rfl
set_option maxRecDepth 100000 in
theorem mzq_281 : mz_PG0 281 = some (11, ⟨"KeptHouse", "fuel", "(I)I"⟩, prog_1_method_33_code, 2, some .int, [], mk_281, []) := rfl
theorem cg_281_0 (hd : 1 ≤ d) (hS : mz_ext S 232) (hR : mz_rok R 232)  (v1 : Int32) (N : mz_N) {C0 : (Nat × Int32 × mz_N) → Prop} (hr : ∀ (w : Int32) (N2 : mz_N), C0 (0, w, N2) → Q (.inl (some (.int w))) (mz_k S R N2 b t)) (ht : ∀ (c : Nat) (w : Int32) (N2 : mz_N), ¬ c = 0 → C0 (c, w, N2) → Q (.inr (c - 1)) (mz_k S R N2 b (t + 1))) (h1000 : t < 1000) (hp : cp_281_0 v1 N) (hC : C0 (cf_281_0 v1 N)) : mz_G (d, mz_X0 L xs, some .int, [], mk_281, 2, Q) 0 mk_281 [(0, .ref 0), (1, .int v1)] [] true (mz_k S R N b t) := by
  unfold cf_281_0 at hC
  unfold cp_281_0 at hp
  refine g_aload_n rfl ?_
  obtain ⟨h1, hp⟩ := hp
  refine g_v1nt (Nat.le_of_ble_eq_true rfl) (mz_at hS (Nat.le_of_ble_eq_true rfl) mzcS_0) rfl (fun _ h0 h1 => cs_104 (Nat.le_trans (Nat.le_of_ble_eq_true rfl) hd) (hS.le (Nat.le_of_ble_eq_true rfl)) (hR.le (Nat.le_of_ble_eq_true rfl))  N h1 h1000 h0 h1) hC (fun h4 hC => ?_) (fun h4 hC => ?_)
  · have hp := hp.1 h4
    refine g_iload_n rfl (g_iconst mzi_0 (g_sipush mzs_1000 ?_))
    have h2 := hp
    refine g_s3nt (Nat.le_of_ble_eq_true rfl) rfl (fun _ h0 h1 => cs_105 (Nat.le_trans (Nat.le_of_ble_eq_true rfl) hd) (hS.le (Nat.le_of_ble_eq_true rfl)) (hR.le (Nat.le_of_ble_eq_true rfl))  v1 0 1000 h2 h1000 h0 h1) hC (fun h3 hC => ?_) (fun h3 hC => ?_)
    · refine g_aload_n rfl (g_getR (mz_at hS (Nat.le_of_ble_eq_true rfl) mzcS_0) mzcf_11_3 (mz_rb hR (Nat.le_of_ble_eq_true rfl) rfl mzcR_0_3) (g_sipush mzs_1000 (g_aload_n rfl (g_getR (mz_at hS (Nat.le_of_ble_eq_true rfl) mzcS_0) mzcf_11_3 (mz_rb hR (Nat.le_of_ble_eq_true rfl) rfl mzcR_0_3) (g_getI (mz_at hS (Nat.le_of_ble_eq_true rfl) mzcS_56) mzcf_9_2 (g_iload_n rfl (g_iadd ?_)))))))
      refine g_imin (Nat.le_of_ble_eq_true rfl) (g_putI (mz_at hS (Nat.le_of_ble_eq_true rfl) mzcS_56) mzcf_9_2 (g_aload_n rfl (g_getR (mz_at hS (Nat.le_of_ble_eq_true rfl) mzcS_0) mzcf_11_3 (mz_rb hR (Nat.le_of_ble_eq_true rfl) rfl mzcR_0_3) (g_getI (mz_at hS (Nat.le_of_ble_eq_true rfl) mzcS_56) mzcf_9_2 ?_))))
      exact g_iret rfl (hr _ _ hC)
    · exact ht _ _ _ h3 hC
  · have hp := hp.2 h4
    exact ht _ _ _ h4 hC
theorem cs_281 (hd : 2 ≤ d) (hS : mz_ext S 232) (hR : mz_rok R 232)  (v1 : Int32) (N : mz_N) (hp : cp_281_0 v1 N) (h1000 : t < 1000) (h0 : (cf_281_0 v1 N).1 = 0 → Q (.inl (some (.int ((cf_281_0 v1 N).2.1)))) (mz_k S R ((cf_281_0 v1 N).2.2) b t)) (h1 : ¬ (cf_281_0 v1 N).1 = 0 → Q (.inr (((cf_281_0 v1 N).1) - 1)) (mz_k S R ((cf_281_0 v1 N).2.2) b (t + 1))) : mz_Ed (mz_X0 L xs) d 281 [.ref 0, .int v1] (mz_k S R N b t) Q :=
  by
  refine g_in mzq_281 (Nat.le_of_ble_eq_true rfl) (Nat.le_of_ble_eq_true rfl) (Nat.le_trans (Nat.le_of_ble_eq_true rfl) hd) ?_
  refine g_weak ?_ (cg_281_0 (d := d - 1) (by omega) hS hR v1 N (C0 := fun z => (z.1 = 0 → Q (.inl (some (.int z.2.1))) (mz_k S R z.2.2 b t)) ∧ (¬ z.1 = 0 → Q (.inr (z.1 - 1)) (mz_k S R z.2.2 b (t + 1)))) (fun _ _ h => h.1 rfl) (fun c _ _ hc h => h.2 hc) h1000 hp ⟨h0, h1⟩)
  exact ⟨rfl, rfl, trivial⟩
/-! 280 KeptHouseLaw.fuel (LKeptHouse;I[J)I -/
theorem ms_280_0 : mz_sf mk_280 0 = mk_280 := mz_sf_zero _
theorem ms_280_13 : mz_sf mk_280 13 = mt_280_13 := mz_sf_add ms_280_0 (t := 13) rfl rfl
theorem ms_280_16 : mz_sf mk_280 16 = mt_280_16 := mz_sf_add ms_280_13 (t := 3) rfl rfl
theorem ms_280_18 : mz_sf mk_280 18 = mt_280_18 := mz_sf_add ms_280_16 (t := 2) rfl rfl
set_option maxRecDepth 100000 in
theorem mzq_280 : mz_PG0 280 = some (13, ⟨"KeptHouseLaw", "fuel", "(LKeptHouse;I[J)I"⟩, method_29_code, 4, some .int, [(0, 9, 12, 13), (0, 9, 15, 15)], mk_280, [(0, 12, 13), (1, 15, 16)]) := rfl
theorem cg_280_0 (hd : 2 ≤ d) (hS : mz_ext S 343) (hR : mz_rok R 343)  (v1 : Int32) (N : mz_N) (t : Nat) {C0 : (Int32 × mz_N × Nat) → Prop} (hr : ∀ (w : Int32) (N2 : mz_N) (t2 : Nat), C0 (w, N2, t2) → Q (.inl (some (.int w))) (mz_k S R N2 b t2)) (hp : cp_280_0 v1 N t) (hC : C0 (cf_280_0 v1 N t)) : mz_G (d, mz_X0 L xs, some .int, [(0, 12, 13), (1, 15, 16)], mk_280, 4, Q) 0 mk_280 [(0, .ref 0), (1, .int v1), (2, .ref 342)] [] true (mz_k S R N b t) := by
  unfold cf_280_0 at hC
  unfold cp_280_0 at hp
  refine g_aload_n rfl (g_iconst mzi_0 (g_aload_n rfl (g_iload_n rfl ?_)))
  obtain ⟨h1, hp⟩ := hp
  obtain ⟨h1000, hp⟩ := hp
  refine g_v2vh (Nat.le_of_ble_eq_true rfl) (mz_at hS (Nat.le_of_ble_eq_true rfl) mzcS_0) (fun _ h0 h1 => cs_281 (Nat.le_trans (Nat.le_of_ble_eq_true rfl) hd) (hS.le (Nat.le_of_ble_eq_true rfl)) (hR.le (Nat.le_of_ble_eq_true rfl))  v1 N h1 h1000 h0 h1) hC (fun h2 hC => ?_) (fun h2 hC => ?_)
  · have hp := hp.1 h2
    refine g_i2l (g_last (mz_at hS (Nat.le_of_ble_eq_true rfl) mzcS_342) (mz_ibd (by decide)) (g_goto (tg := 18) rfl ms_280_18 (g_iconst mzi_0 ?_)))
    exact g_iret rfl (hr _ _ _ hC)
  · have hp := hp.2 h2
    refine mz_cs hC (fun h6 hC => ?_) (fun h6 hC => ?_)
    · have hp := hp.1 h6
      refine ⟨(0, 12, 13), (by rw [h6]; rfl), ?_⟩
      show mz_G (d, mz_X0 L xs, some .int, [(0, 12, 13), (1, 15, 16)], mk_280, 4, Q) 13 (mz_sf mk_280 13) [] [] false (mz_k S R ((cf_281_0 v1 N).2.2) b (t + 1))
      rw [ms_280_13]
      refine g_iconst mzi_1 ?_
      exact g_iret rfl (hr _ _ _ hC)
    · have hp := hp.2 h6
      have h4 := hp
      refine ⟨(1, 15, 16), (by rw [h4]; rfl), ?_⟩
      show mz_G (d, mz_X0 L xs, some .int, [(0, 12, 13), (1, 15, 16)], mk_280, 4, Q) 16 (mz_sf mk_280 16) [] [] false (mz_k S R ((cf_281_0 v1 N).2.2) b (t + 1))
      rw [ms_280_16]
      refine g_iconst mzi_2 ?_
      exact g_iret rfl (hr _ _ _ hC)
theorem cs_280 (hd : 3 ≤ d) (hS : mz_ext S 343) (hR : mz_rok R 343)  (v1 : Int32) (N : mz_N) (t : Nat) (hp : cp_280_0 v1 N t) (hq : Q (.inl (some (.int ((cf_280_0 v1 N t).1)))) (mz_k S R ((cf_280_0 v1 N t).2.1) b ((cf_280_0 v1 N t).2.2))) : mz_Ed (mz_X0 L xs) d 280 [.ref 0, .int v1, .ref 342] (mz_k S R N b t) Q :=
  by
  refine g_in mzq_280 (Nat.le_of_ble_eq_true rfl) (Nat.le_of_ble_eq_true rfl) (Nat.le_trans (Nat.le_of_ble_eq_true rfl) hd) ?_
  refine g_weak ?_ (cg_280_0 (d := d - 1) (by omega) hS hR v1 N t (C0 := fun z => Q (.inl (some (.int z.1))) (mz_k S R z.2.1 b z.2.2)) (fun _ _ _ h => h) hp hq)
  exact ⟨rfl, rfl, rfl, trivial⟩
/-! 283 KeptHouse.reset (I)Z -/
theorem ms_283_0 : mz_sf mk_283 0 = mk_283 := mz_sf_zero _
theorem ms_283_25 : mz_sf mk_283 25 = mt_283_25 := mz_sf_add ms_283_0 (t := 25) rfl rfl
theorem ms_283_27 : mz_sf mk_283 27 = mt_283_27 := mz_sf_add ms_283_25 (t := 2) rfl rfl
theorem ms_283_51 : mz_sf mk_283 51 = mt_283_51 := mz_sf_add ms_283_27 (t := 24) rfl rfl
set_option maxRecDepth 100000 in
theorem mzq_283 : mz_PG0 283 = some (11, ⟨"KeptHouse", "reset", "(I)Z"⟩, prog_1_method_34_code, 2, some .boolean, [], mk_283, []) := rfl
theorem cg_283_0 (hd : 1 ≤ d) (hS : mz_ext S 232) (hR : mz_rok R 232)  (v1 : Int32) (N : mz_N) {C0 : (Nat × Bool × mz_N) → Prop} (hr : ∀ (w : Bool) (N2 : mz_N), C0 (0, w, N2) → Q (.inl (some (.int (mz_b01 w)))) (mz_k S R N2 b t)) (ht : ∀ (c : Nat) (w : Bool) (N2 : mz_N), ¬ c = 0 → C0 (c, w, N2) → Q (.inr (c - 1)) (mz_k S R N2 b (t + 1))) (h1000 : t < 1000) (hp : cp_283_0 v1 N) (hC : C0 (cf_283_0 v1 N)) : mz_G (d, mz_X0 L xs, some .boolean, [], mk_283, 2, Q) 0 mk_283 [(0, .ref 0), (1, .int v1)] [] true (mz_k S R N b t) := by
  unfold cf_283_0 at hC
  unfold cp_283_0 at hp
  refine g_aload_n rfl ?_
  obtain ⟨h1, hp⟩ := hp
  refine g_v1nt (Nat.le_of_ble_eq_true rfl) (mz_at hS (Nat.le_of_ble_eq_true rfl) mzcS_0) rfl (fun _ h0 h1 => cs_104 (Nat.le_trans (Nat.le_of_ble_eq_true rfl) hd) (hS.le (Nat.le_of_ble_eq_true rfl)) (hR.le (Nat.le_of_ble_eq_true rfl))  N h1 h1000 h0 h1) hC (fun h8 hC => ?_) (fun h8 hC => ?_)
  · have hp := hp.1 h8
    refine g_iload_n rfl (g_iconst mzi_0 (g_bipush mzb_10 ?_))
    obtain ⟨h2, hp⟩ := hp
    refine g_s3nt (Nat.le_of_ble_eq_true rfl) rfl (fun _ h0 h1 => cs_105 (Nat.le_trans (Nat.le_of_ble_eq_true rfl) hd) (hS.le (Nat.le_of_ble_eq_true rfl)) (hR.le (Nat.le_of_ble_eq_true rfl))  v1 0 10 h2 h1000 h0 h1) hC (fun h7 hC => ?_) (fun h7 hC => ?_)
    · have hp := hp.1 h7
      refine g_aload_n rfl (g_getR (mz_at hS (Nat.le_of_ble_eq_true rfl) mzcS_0) mzcf_11_3 (mz_rb hR (Nat.le_of_ble_eq_true rfl) rfl mzcR_0_3) (g_getR (mz_at hS (Nat.le_of_ble_eq_true rfl) mzcS_56) mzcf_9_0 (mz_rb hR (Nat.le_of_ble_eq_true rfl) rfl mzcR_56_0) (g_iconst mzi_2 (g_aald4 (m := 60) (mz_at hS (Nat.le_of_ble_eq_true rfl) mzcS_57) (mz_ibd (by decide)) (mz_rb hR (Nat.le_of_ble_eq_true rfl) rfl mzcRr_57_2) (g_iload_n rfl ?_)))))
      obtain ⟨h3, hp⟩ := hp
      refine g_iald hS.1 (mz_at hS (Nat.le_of_ble_eq_true rfl) mzcS_60) h3 ?_
      refine g_ifne (tg := 27) rfl ms_283_27 hC (fun h4 hC => ?_) (fun h4 hC => ?_)
      · have hp := hp.1 h4
        refine g_iconst mzi_0 ?_
        exact g_zret (z := false) rfl (hr _ _ hC)
      · have hp := hp.2 h4
        refine g_aload_n rfl (g_getR (mz_at hS (Nat.le_of_ble_eq_true rfl) mzcS_0) mzcf_11_3 (mz_rb hR (Nat.le_of_ble_eq_true rfl) rfl mzcR_0_3) (g_getR (mz_at hS (Nat.le_of_ble_eq_true rfl) mzcS_56) mzcf_9_0 (mz_rb hR (Nat.le_of_ble_eq_true rfl) rfl mzcR_56_0) (g_iconst mzi_2 (g_aald4 (m := 60) (mz_at hS (Nat.le_of_ble_eq_true rfl) mzcS_57) (mz_ibd (by decide)) (mz_rb hR (Nat.le_of_ble_eq_true rfl) rfl mzcRr_57_2) (g_iload_n rfl (g_iconst mzi_0 ?_))))))
        obtain ⟨h5, hp⟩ := hp
        refine g_iast (mz_at hS (Nat.le_of_ble_eq_true rfl) mzcS_60) h5 (g_aload_n rfl (g_getR (mz_at hS (Nat.le_of_ble_eq_true rfl) mzcS_0) mzcf_11_3 (mz_rb hR (Nat.le_of_ble_eq_true rfl) rfl mzcR_0_3) (g_getR (mz_at hS (Nat.le_of_ble_eq_true rfl) mzcS_56) mzcf_9_0 (mz_rb hR (Nat.le_of_ble_eq_true rfl) rfl mzcR_56_0) (g_iconst mzi_1 (g_aald4 (m := 59) (mz_at hS (Nat.le_of_ble_eq_true rfl) mzcS_57) (mz_ibd (by decide)) (mz_rb hR (Nat.le_of_ble_eq_true rfl) rfl mzcRr_57_1) (g_iload_n rfl (g_iconst mzi_0 ?_)))))))
        have h6 := hp
        refine g_iast (mz_at hS (Nat.le_of_ble_eq_true rfl) mzcS_59) h6 (g_iconst mzi_1 ?_)
        exact g_zret (z := true) rfl (hr _ _ hC)
    · have hp := hp.2 h7
      exact ht _ _ _ h7 hC
  · have hp := hp.2 h8
    exact ht _ _ _ h8 hC
theorem cs_283 (hd : 2 ≤ d) (hS : mz_ext S 232) (hR : mz_rok R 232)  (v1 : Int32) (N : mz_N) (hp : cp_283_0 v1 N) (h1000 : t < 1000) (h0 : (cf_283_0 v1 N).1 = 0 → Q (.inl (some (.int (mz_b01 ((cf_283_0 v1 N).2.1))))) (mz_k S R ((cf_283_0 v1 N).2.2) b t)) (h1 : ¬ (cf_283_0 v1 N).1 = 0 → Q (.inr (((cf_283_0 v1 N).1) - 1)) (mz_k S R ((cf_283_0 v1 N).2.2) b (t + 1))) : mz_Ed (mz_X0 L xs) d 283 [.ref 0, .int v1] (mz_k S R N b t) Q :=
  by
  refine g_in mzq_283 (Nat.le_of_ble_eq_true rfl) (Nat.le_of_ble_eq_true rfl) (Nat.le_trans (Nat.le_of_ble_eq_true rfl) hd) ?_
  refine g_weak ?_ (cg_283_0 (d := d - 1) (by omega) hS hR v1 N (C0 := fun z => (z.1 = 0 → Q (.inl (some (.int (mz_b01 z.2.1)))) (mz_k S R z.2.2 b t)) ∧ (¬ z.1 = 0 → Q (.inr (z.1 - 1)) (mz_k S R z.2.2 b (t + 1)))) (fun _ _ h => h.1 rfl) (fun c _ _ hc h => h.2 hc) h1000 hp ⟨h0, h1⟩)
  exact ⟨rfl, rfl, trivial⟩
/-! 282 KeptHouseLaw.reset (LKeptHouse;I[J)I -/
theorem ms_282_0 : mz_sf mk_282 0 = mk_282 := mz_sf_zero _
theorem ms_282_14 : mz_sf mk_282 14 = mt_282_14 := mz_sf_add ms_282_0 (t := 14) rfl rfl
theorem ms_282_15 : mz_sf mk_282 15 = mt_282_15 := mz_sf_add ms_282_14 (t := 1) rfl rfl
theorem ms_282_20 : mz_sf mk_282 20 = mt_282_20 := mz_sf_add ms_282_15 (t := 5) rfl rfl
theorem ms_282_23 : mz_sf mk_282 23 = mt_282_23 := mz_sf_add ms_282_20 (t := 3) rfl rfl
theorem ms_282_25 : mz_sf mk_282 25 = mt_282_25 := mz_sf_add ms_282_23 (t := 2) rfl rfl
set_option maxRecDepth 100000 in
theorem mzq_282 : mz_PG0 282 = some (13, ⟨"KeptHouseLaw", "reset", "(LKeptHouse;I[J)I"⟩, method_30_code, 4, some .int, [(0, 16, 19, 13), (0, 16, 22, 15)], mk_282, [(0, 19, 20), (1, 22, 23)]) := rfl
theorem cg_282_15 (hd : 2 ≤ d) (hS : mz_ext S 343) (hR : mz_rok R 343)  (s1 : Int32) (s2 : Int64) (N : mz_N) (t : Nat) {C0 : (Int32 × mz_N × Nat) → Prop} (hr : ∀ (w : Int32) (N2 : mz_N) (t2 : Nat), C0 (w, N2, t2) → Q (.inl (some (.int w))) (mz_k S R N2 b t2)) (hp : cp_282_15 s1 s2 N t) (hC : C0 (cf_282_15 s1 s2 N t)) : mz_G (d, mz_X0 L xs, some .int, [(0, 19, 20), (1, 22, 23)], mk_282, 4, Q) 15 mt_282_15 [] [.long s2, .int s1, .ref 342] false (mz_k S R N b t) := by
  unfold cf_282_15 at hC
  unfold cp_282_15 at hp
  have h1 := hp
  refine g_last (mz_at hS (Nat.le_of_ble_eq_true rfl) mzcS_342) h1 (g_goto (tg := 25) rfl ms_282_25 (g_iconst mzi_0 ?_))
  exact g_iret rfl (hr _ _ _ hC)
theorem cg_282_0 (hd : 2 ≤ d) (hS : mz_ext S 343) (hR : mz_rok R 343)  (v1 : Int32) (N : mz_N) (t : Nat) {C0 : (Int32 × mz_N × Nat) → Prop} (hr : ∀ (w : Int32) (N2 : mz_N) (t2 : Nat), C0 (w, N2, t2) → Q (.inl (some (.int w))) (mz_k S R N2 b t2)) (hp : cp_282_0 v1 N t) (hC : C0 (cf_282_0 v1 N t)) : mz_G (d, mz_X0 L xs, some .int, [(0, 19, 20), (1, 22, 23)], mk_282, 4, Q) 0 mk_282 [(0, .ref 0), (1, .int v1), (2, .ref 342)] [] true (mz_k S R N b t) := by
  unfold cf_282_0 at hC
  unfold cp_282_0 at hp
  refine g_aload_n rfl (g_iconst mzi_0 (g_aload_n rfl (g_iload_n rfl ?_)))
  obtain ⟨h1, hp⟩ := hp
  obtain ⟨h1000, hp⟩ := hp
  refine g_v2vh (Nat.le_of_ble_eq_true rfl) (mz_at hS (Nat.le_of_ble_eq_true rfl) mzcS_0) (fun _ h0 h1 => cs_283 (Nat.le_trans (Nat.le_of_ble_eq_true rfl) hd) (hS.le (Nat.le_of_ble_eq_true rfl)) (hR.le (Nat.le_of_ble_eq_true rfl))  v1 N h1 h1000 h0 h1) hC (fun h2 hC => ?_) (fun h2 hC => ?_)
  · have hp := hp.1 h2
    refine g_zeq (tg := 14) rfl ms_282_14 hC (fun h3 hC => ?_) (fun h3 hC => ?_)
    · have hp := hp.1 h3
      refine g_lconst mzl_1 (g_goto (tg := 15) rfl ms_282_15 ?_)
      refine g_weak ?_ (g_cl (cg_282_15 hd hS hR 0 1 ((cf_283_0 v1 N).2.2) t hr hp hC))
      exact trivial
    · have hp := hp.2 h3
      refine g_lconst mzl_0 ?_
      refine g_weak ?_ (g_cl (cg_282_15 hd hS hR 0 0 ((cf_283_0 v1 N).2.2) t hr hp hC))
      exact trivial
  · have hp := hp.2 h2
    refine mz_cs hC (fun h7 hC => ?_) (fun h7 hC => ?_)
    · have hp := hp.1 h7
      refine ⟨(0, 19, 20), (by rw [h7]; rfl), ?_⟩
      show mz_G (d, mz_X0 L xs, some .int, [(0, 19, 20), (1, 22, 23)], mk_282, 4, Q) 20 (mz_sf mk_282 20) [] [] false (mz_k S R ((cf_283_0 v1 N).2.2) b (t + 1))
      rw [ms_282_20]
      refine g_iconst mzi_1 ?_
      exact g_iret rfl (hr _ _ _ hC)
    · have hp := hp.2 h7
      have h5 := hp
      refine ⟨(1, 22, 23), (by rw [h5]; rfl), ?_⟩
      show mz_G (d, mz_X0 L xs, some .int, [(0, 19, 20), (1, 22, 23)], mk_282, 4, Q) 23 (mz_sf mk_282 23) [] [] false (mz_k S R ((cf_283_0 v1 N).2.2) b (t + 1))
      rw [ms_282_23]
      refine g_iconst mzi_2 ?_
      exact g_iret rfl (hr _ _ _ hC)
theorem cs_282 (hd : 3 ≤ d) (hS : mz_ext S 343) (hR : mz_rok R 343)  (v1 : Int32) (N : mz_N) (t : Nat) (hp : cp_282_0 v1 N t) (hq : Q (.inl (some (.int ((cf_282_0 v1 N t).1)))) (mz_k S R ((cf_282_0 v1 N t).2.1) b ((cf_282_0 v1 N t).2.2))) : mz_Ed (mz_X0 L xs) d 282 [.ref 0, .int v1, .ref 342] (mz_k S R N b t) Q :=
  by
  refine g_in mzq_282 (Nat.le_of_ble_eq_true rfl) (Nat.le_of_ble_eq_true rfl) (Nat.le_trans (Nat.le_of_ble_eq_true rfl) hd) ?_
  refine g_weak ?_ (cg_282_0 (d := d - 1) (by omega) hS hR v1 N t (C0 := fun z => Q (.inl (some (.int z.1))) (mz_k S R z.2.1 b z.2.2)) (fun _ _ _ h => h) hp hq)
  exact ⟨rfl, rfl, rfl, trivial⟩
/-! 285 KeptHouse.circuit (II)I -/
theorem ms_285_0 : mz_sf mk_285 0 = mk_285 := mz_sf_zero _
set_option maxRecDepth 100000 in
theorem mzq_285 : mz_PG0 285 = some (11, ⟨"KeptHouse", "circuit", "(II)I"⟩, prog_1_method_35_code, 3, some .int, [], mk_285, []) := rfl
theorem cg_285_0 (hd : 1 ≤ d) (hS : mz_ext S 232) (hR : mz_rok R 232)  (v1 : Int32) (v2 : Int32) (N : mz_N) {C0 : (Nat × Int32) → Prop} (hr : ∀ (w : Int32), C0 (0, w) → Q (.inl (some (.int w))) (mz_k S R N b t)) (ht : ∀ (c : Nat) (w : Int32), ¬ c = 0 → C0 (c, w) → Q (.inr (c - 1)) (mz_k S R N b (t + 1))) (h1000 : t < 1000) (hp : cp_285_0 v1 v2 N) (hC : C0 (cf_285_0 v1 v2 N)) : mz_G (d, mz_X0 L xs, some .int, [], mk_285, 3, Q) 0 mk_285 [(0, .ref 0), (1, .int v1), (2, .int v2)] [] true (mz_k S R N b t) := by
  unfold cf_285_0 at hC
  unfold cp_285_0 at hp
  refine g_aload_n rfl ?_
  obtain ⟨h1, hp⟩ := hp
  refine g_v1nt (Nat.le_of_ble_eq_true rfl) (mz_at hS (Nat.le_of_ble_eq_true rfl) mzcS_0) rfl (fun _ h0 h1 => cs_104 (Nat.le_trans (Nat.le_of_ble_eq_true rfl) hd) (hS.le (Nat.le_of_ble_eq_true rfl)) (hR.le (Nat.le_of_ble_eq_true rfl))  N h1 h1000 h0 h1) hC (fun h8 hC => ?_) (fun h8 hC => ?_)
  · have hp := hp.1 h8
    refine g_iload_n rfl (g_iconst mzi_0 (g_bipush mzb_10 ?_))
    obtain ⟨h2, hp⟩ := hp
    refine g_s3nt (Nat.le_of_ble_eq_true rfl) rfl (fun _ h0 h1 => cs_105 (Nat.le_trans (Nat.le_of_ble_eq_true rfl) hd) (hS.le (Nat.le_of_ble_eq_true rfl)) (hR.le (Nat.le_of_ble_eq_true rfl))  v1 0 10 h2 h1000 h0 h1) hC (fun h7 hC => ?_) (fun h7 hC => ?_)
    · have hp := hp.1 h7
      refine g_iload_n rfl (g_iconst mzi_0 (g_iconst mzi_5 ?_))
      obtain ⟨h3, hp⟩ := hp
      refine g_s3nt (Nat.le_of_ble_eq_true rfl) rfl (fun _ h0 h1 => cs_105 (Nat.le_trans (Nat.le_of_ble_eq_true rfl) hd) (hS.le (Nat.le_of_ble_eq_true rfl)) (hR.le (Nat.le_of_ble_eq_true rfl))  v2 0 5 h3 h1000 h0 h1) hC (fun h6 hC => ?_) (fun h6 hC => ?_)
      · have hp := hp.1 h6
        refine g_aload_n rfl (g_getR (mz_at hS (Nat.le_of_ble_eq_true rfl) mzcS_0) mzcf_11_3 (mz_rb hR (Nat.le_of_ble_eq_true rfl) rfl mzcR_0_3) (g_getR (mz_at hS (Nat.le_of_ble_eq_true rfl) mzcS_56) mzcf_9_0 (mz_rb hR (Nat.le_of_ble_eq_true rfl) rfl mzcR_56_0) (g_iload_n rfl ?_)))
        obtain ⟨h4, hp⟩ := hp
        refine g_aald4 (mz_at hS (Nat.le_of_ble_eq_true rfl) mzcS_57) h4 (mz_rb hR (Nat.le_of_ble_eq_true rfl) rfl (mzcR2_57 h4)) (g_iload_n rfl ?_)
        have h5 := hp
        refine g_iald hS.1 (mz_at hS (mzcL2_57 h4 (Nat.le_of_ble_eq_true rfl)) (mzcS2_57 h4)) h5 ?_
        exact g_iret rfl (hr _ hC)
      · have hp := hp.2 h6
        exact ht _ _ h6 hC
    · have hp := hp.2 h7
      exact ht _ _ h7 hC
  · have hp := hp.2 h8
    exact ht _ _ h8 hC
theorem cs_285 (hd : 2 ≤ d) (hS : mz_ext S 232) (hR : mz_rok R 232)  (v1 : Int32) (v2 : Int32) (N : mz_N) (hp : cp_285_0 v1 v2 N) (h1000 : t < 1000) (h0 : (cf_285_0 v1 v2 N).1 = 0 → Q (.inl (some (.int ((cf_285_0 v1 v2 N).2)))) (mz_k S R N b t)) (h1 : ¬ (cf_285_0 v1 v2 N).1 = 0 → Q (.inr (((cf_285_0 v1 v2 N).1) - 1)) (mz_k S R N b (t + 1))) : mz_Ed (mz_X0 L xs) d 285 [.ref 0, .int v1, .int v2] (mz_k S R N b t) Q :=
  by
  refine g_in mzq_285 (Nat.le_of_ble_eq_true rfl) (Nat.le_of_ble_eq_true rfl) (Nat.le_trans (Nat.le_of_ble_eq_true rfl) hd) ?_
  refine g_weak ?_ (cg_285_0 (d := d - 1) (by omega) hS hR v1 v2 N (C0 := fun z => (z.1 = 0 → Q (.inl (some (.int z.2))) (mz_k S R N b t)) ∧ (¬ z.1 = 0 → Q (.inr (z.1 - 1)) (mz_k S R N b (t + 1)))) (fun _ h => h.1 rfl) (fun c _ hc h => h.2 hc) h1000 hp ⟨h0, h1⟩)
  exact ⟨rfl, rfl, rfl, trivial⟩
/-! 284 KeptHouseLaw.circuit (LKeptHouse;II[J)I -/
theorem ms_284_0 : mz_sf mk_284 0 = mk_284 := mz_sf_zero _
theorem ms_284_15 : mz_sf mk_284 15 = mt_284_15 := mz_sf_add ms_284_0 (t := 15) rfl rfl
theorem ms_284_19 : mz_sf mk_284 19 = mt_284_19 := mz_sf_add ms_284_15 (t := 4) rfl rfl
theorem ms_284_21 : mz_sf mk_284 21 = mt_284_21 := mz_sf_add ms_284_19 (t := 2) rfl rfl
set_option maxRecDepth 100000 in
theorem mzq_284 : mz_PG0 284 = some (13, ⟨"KeptHouseLaw", "circuit", "(LKeptHouse;II[J)I"⟩, method_31_code, 5, some .int, [(0, 10, 13, 13), (0, 10, 17, 15)], mk_284, [(0, 13, 15), (1, 17, 19)]) := rfl
theorem cg_284_0 (hd : 2 ≤ d) (hS : mz_ext S 343) (hR : mz_rok R 343)  (v1 : Int32) (v2 : Int32) (N : mz_N) (t : Nat) {C0 : (Int32 × mz_N × Nat) → Prop} (hr : ∀ (w : Int32) (N2 : mz_N) (t2 : Nat), C0 (w, N2, t2) → Q (.inl (some (.int w))) (mz_k S R N2 b t2)) (hp : cp_284_0 v1 v2 N t) (hC : C0 (cf_284_0 v1 v2 N t)) : mz_G (d, mz_X0 L xs, some .int, [(0, 13, 15), (1, 17, 19)], mk_284, 5, Q) 0 mk_284 [(0, .ref 0), (1, .int v1), (2, .int v2), (3, .ref 342)] [] true (mz_k S R N b t) := by
  unfold cf_284_0 at hC
  unfold cp_284_0 at hp
  refine g_aload_n rfl (g_iconst mzi_0 (g_aload_n rfl (g_iload_n rfl (g_iload_n rfl ?_))))
  obtain ⟨h1, hp⟩ := hp
  obtain ⟨h1000, hp⟩ := hp
  refine g_v3vh (Nat.le_of_ble_eq_true rfl) (mz_at hS (Nat.le_of_ble_eq_true rfl) mzcS_0) (fun _ h0 h1 => cs_285 (Nat.le_trans (Nat.le_of_ble_eq_true rfl) hd) (hS.le (Nat.le_of_ble_eq_true rfl)) (hR.le (Nat.le_of_ble_eq_true rfl))  v1 v2 N h1 h1000 h0 h1) hC (fun h2 hC => ?_) (fun h2 hC => ?_)
  · have hp := hp.1 h2
    refine g_i2l (g_last (mz_at hS (Nat.le_of_ble_eq_true rfl) mzcS_342) (mz_ibd (by decide)) (g_goto (tg := 21) rfl ms_284_21 (g_iconst mzi_0 ?_)))
    exact g_iret rfl (hr _ _ _ hC)
  · have hp := hp.2 h2
    refine mz_cs hC (fun h6 hC => ?_) (fun h6 hC => ?_)
    · have hp := hp.1 h6
      refine ⟨(0, 13, 15), (by rw [h6]; rfl), ?_⟩
      show mz_G (d, mz_X0 L xs, some .int, [(0, 13, 15), (1, 17, 19)], mk_284, 5, Q) 15 (mz_sf mk_284 15) [] [] false (mz_k S R N b (t + 1))
      rw [ms_284_15]
      refine g_iconst mzi_1 ?_
      exact g_iret rfl (hr _ _ _ hC)
    · have hp := hp.2 h6
      have h4 := hp
      refine ⟨(1, 17, 19), (by rw [h4]; rfl), ?_⟩
      show mz_G (d, mz_X0 L xs, some .int, [(0, 13, 15), (1, 17, 19)], mk_284, 5, Q) 19 (mz_sf mk_284 19) [] [] false (mz_k S R N b (t + 1))
      rw [ms_284_19]
      refine g_iconst mzi_2 ?_
      exact g_iret rfl (hr _ _ _ hC)
theorem cs_284 (hd : 3 ≤ d) (hS : mz_ext S 343) (hR : mz_rok R 343)  (v1 : Int32) (v2 : Int32) (N : mz_N) (t : Nat) (hp : cp_284_0 v1 v2 N t) (hq : Q (.inl (some (.int ((cf_284_0 v1 v2 N t).1)))) (mz_k S R ((cf_284_0 v1 v2 N t).2.1) b ((cf_284_0 v1 v2 N t).2.2))) : mz_Ed (mz_X0 L xs) d 284 [.ref 0, .int v1, .int v2, .ref 342] (mz_k S R N b t) Q :=
  by
  refine g_in mzq_284 (Nat.le_of_ble_eq_true rfl) (Nat.le_of_ble_eq_true rfl) (Nat.le_trans (Nat.le_of_ble_eq_true rfl) hd) ?_
  refine g_weak ?_ (cg_284_0 (d := d - 1) (by omega) hS hR v1 v2 N t (C0 := fun z => Q (.inl (some (.int z.1))) (mz_k S R z.2.1 b z.2.2)) (fun _ _ _ h => h) hp hq)
  exact ⟨rfl, rfl, rfl, rfl, trivial⟩
end Fn13
