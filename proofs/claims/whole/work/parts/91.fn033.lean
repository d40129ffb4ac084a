/-! THE FUNCTIONS: written by program: each method comes to its function. -/
section Fn33
variable {L : Nat} {xs : Nat → Int32} {d : Nat} {S : mz_S} {R : Nat → Nat → Option Nat} {Q : mz_Q} {N : mz_N} {b : Bool} {t : Nat}
/-! 564 KeptHouseModel.ticketBehind (J)I -/
theorem ms_564_0 : mz_sf mk_564 0 = mk_564 := mz_sf_zero _
theorem ms_564_5 : mz_sf mk_564 5 = mt_564_5 := mz_sf_add ms_564_0 (t := 5) rfl rfl
theorem ms_564_34 : mz_sf mk_564 34 = mt_564_34 := mz_sf_add ms_564_5 (t := 29) rfl rfl
theorem ms_564_55 : mz_sf mk_564 55 = mt_564_55 := mz_sf_add ms_564_34 (t := 21) rfl rfl
theorem ms_564_60 : mz_sf mk_564 60 = mt_564_60 := mz_sf_add ms_564_55 (t := 5) rfl rfl
theorem ms_564_61 : mz_sf mk_564 61 = mt_564_61 := mz_sf_add ms_564_60 (t := 1) rfl rfl
theorem ms_564_62 : mz_sf mk_564 62 = mt_564_62 := mz_sf_add ms_564_61 (t := 1) rfl rfl
theorem ms_564_68 : mz_sf mk_564 68 = mt_564_68 := mz_sf_add ms_564_62 (t := 6) rfl rfl
set_option maxRecDepth 100000 in
theorem mzq_564 : mz_PG0 564 = some (12, ⟨"KeptHouseModel", "ticketBehind", "(J)I"⟩, prog_14_method_126_code, 5, some .int, [], mk_564, []) := rfl
theorem cg_564_62 (hd : 0 ≤ d) (hS : mz_extR S 342) (hR : mz_rok R 342)  (v1 : Int64) (v3 : Int32) (v4 : Int32) (N : mz_N) {C0 : (Int32) → Prop} (hr : ∀ (w : Int32), C0 w → Q (.inl (some (.int w))) (mz_k S R N b t)) {C1 : ((Int32 × Int32) ⊕ (Int32)) → Prop} (hc1 : ∀ s2, C1 (.inl s2) → mz_G (d, mz_X0 L xs, some .int, [], mk_564, 5, Q) 5 mt_564_5 [(0, .ref 232), (1, .long v1), (3, .int s2.1), (4, .int s2.2)] [] false (mz_k S R N b t)) (hx1 : ∀ z, C1 (.inr z) → C0 z) (hp : cp_564_62 v1 v3 v4 N) (hC : C1 (cf_564_62 v1 v3 v4 N)) : mz_G (d, mz_X0 L xs, some .int, [], mk_564, 5, Q) 62 mt_564_62 [(0, .ref 232), (1, .long v1), (3, .int v3), (4, .int v4)] [] false (mz_k S R N b t) := by
  unfold cf_564_62 at hC
  unfold cp_564_62 at hp
  refine g_iinc rfl mzi_1 (Nat.le_of_ble_eq_true rfl) rfl (g_goto (tg := 5) rfl ms_564_5 ?_)
  refine g_weak ?_ (g_cl (hc1 (v3, (v4 + 1)) hC))
  exact ⟨rfl, rfl, rfl, rfl, trivial⟩
theorem cg_564_61 (hd : 0 ≤ d) (hS : mz_extR S 342) (hR : mz_rok R 342)  (s0 : Int32) (v1 : Int64) (v4 : Int32) (N : mz_N) {C0 : (Int32) → Prop} (hr : ∀ (w : Int32), C0 w → Q (.inl (some (.int w))) (mz_k S R N b t)) {C1 : ((Int32 × Int32) ⊕ (Int32)) → Prop} (hc1 : ∀ s2, C1 (.inl s2) → mz_G (d, mz_X0 L xs, some .int, [], mk_564, 5, Q) 5 mt_564_5 [(0, .ref 232), (1, .long v1), (3, .int s2.1), (4, .int s2.2)] [] false (mz_k S R N b t)) (hx1 : ∀ z, C1 (.inr z) → C0 z) (hp : cp_564_61 s0 v1 v4 N) (hC : C1 (cf_564_61 s0 v1 v4 N)) : mz_G (d, mz_X0 L xs, some .int, [], mk_564, 5, Q) 61 mt_564_61 [(0, .ref 232), (1, .long v1), (4, .int v4)] [.int s0] false (mz_k S R N b t) := by
  unfold cf_564_61 at hC
  unfold cp_564_61 at hp
  refine g_istore_n (Nat.le_of_ble_eq_true rfl) rfl ?_
  refine g_weak ?_ (g_cl (cg_564_62 hd hS hR v1 s0 v4 N hr hc1 hx1 hp hC))
  exact ⟨rfl, rfl, rfl, rfl, trivial⟩
theorem cg_564_55 (hd : 0 ≤ d) (hS : mz_extR S 342) (hR : mz_rok R 342)  (v1 : Int64) (v4 : Int32) (N : mz_N) {C0 : (Int32) → Prop} (hr : ∀ (w : Int32), C0 w → Q (.inl (some (.int w))) (mz_k S R N b t)) {C1 : ((Int32 × Int32) ⊕ (Int32)) → Prop} (hc1 : ∀ s2, C1 (.inl s2) → mz_G (d, mz_X0 L xs, some .int, [], mk_564, 5, Q) 5 mt_564_5 [(0, .ref 232), (1, .long v1), (3, .int s2.1), (4, .int s2.2)] [] false (mz_k S R N b t)) (hx1 : ∀ z, C1 (.inr z) → C0 z) (hp : cp_564_55 v1 v4 N) (hC : C1 (cf_564_55 v1 v4 N)) : mz_G (d, mz_X0 L xs, some .int, [], mk_564, 5, Q) 55 mt_564_55 [(0, .ref 232), (1, .long v1), (4, .int v4)] [] false (mz_k S R N b t) := by
  unfold cf_564_55 at hC
  unfold cp_564_55 at hp
  refine g_iload rfl (g_goto (tg := 61) rfl ms_564_61 ?_)
  refine g_weak ?_ (g_cl (cg_564_61 hd hS hR v4 v1 v4 N hr hc1 hx1 hp hC))
  exact ⟨rfl, rfl, rfl, trivial⟩
theorem cb_564_5 (hd : 0 ≤ d) (hS : mz_extR S 342) (hR : mz_rok R 342)  (v1 : Int64) (N : mz_N) (s : Int32 × Int32) {C0 : (Int32) → Prop} (hr : ∀ (w : Int32), C0 w → Q (.inl (some (.int w))) (mz_k S R N b t)) {C1 : ((Int32 × Int32) ⊕ (Int32)) → Prop} (hc1 : ∀ s2, C1 (.inl s2) → mz_G (d, mz_X0 L xs, some .int, [], mk_564, 5, Q) 5 mt_564_5 [(0, .ref 232), (1, .long v1), (3, .int s2.1), (4, .int s2.2)] [] false (mz_k S R N b t)) (hx1 : ∀ z, C1 (.inr z) → C0 z) (hp : cd_564_5 v1 N s) (hC : C1 (cq_564_5 v1 N s)) : mz_G (d, mz_X0 L xs, some .int, [], mk_564, 5, Q) 5 mt_564_5 [(0, .ref 232), (1, .long v1), (3, .int s.1), (4, .int s.2)] [] false (mz_k S R N b t) := by
  unfold cq_564_5 at hC
  unfold cd_564_5 at hp
  refine g_iload rfl (g_bipush mzb_16 ?_)
  refine g_icge (tg := 68) rfl ms_564_68 hC (fun h1 hC => ?_) (fun h1 hC => ?_)
  · have hp := hp.1 h1
    refine g_aload_n rfl (g_getR (mz_at hS (Nat.le_of_ble_eq_true rfl) mzcS_232) mzcf_12_80 (mz_rb hR (Nat.le_of_ble_eq_true rfl) rfl mzcR_232_80) (g_iload rfl ?_))
    obtain ⟨h2, hp⟩ := hp
    obtain ⟨h3, hp⟩ := hp
    refine g_zald (mz_at hS (Nat.le_of_ble_eq_true rfl) mzcS_287) h2 h3 ?_
    refine g_zeq (tg := 62) rfl ms_564_62 hC (fun h4 hC => ?_) (fun h4 hC => ?_)
    · have hp := hp.1 h4
      refine g_aload_n rfl (g_getR (mz_at hS (Nat.le_of_ble_eq_true rfl) mzcS_232) mzcf_12_85 (mz_rb hR (Nat.le_of_ble_eq_true rfl) rfl mzcR_232_85) (g_iload rfl ?_))
      obtain ⟨h5, hp⟩ := hp
      refine g_lald (mz_at hS (Nat.le_of_ble_eq_true rfl) mzcS_292) h5 (g_lload_n rfl (g_lcmp ?_))
      refine g_lle (tg := 62) rfl ms_564_62 hC (fun h6 hC => ?_) (fun h6 hC => ?_)
      · have hp := hp.1 h6
        refine g_iload_n rfl ?_
        refine g_iflt (tg := 55) rfl ms_564_55 hC (fun h7 hC => ?_) (fun h7 hC => ?_)
        · have hp := hp.1 h7
          refine g_weak ?_ (g_cl (cg_564_55 hd hS hR v1 s.2 N hr hc1 hx1 hp hC))
          exact ⟨rfl, rfl, rfl, trivial⟩
        · have hp := hp.2 h7
          refine g_aload_n rfl (g_getR (mz_at hS (Nat.le_of_ble_eq_true rfl) mzcS_232) mzcf_12_85 (mz_rb hR (Nat.le_of_ble_eq_true rfl) rfl mzcR_232_85) (g_iload rfl ?_))
          obtain ⟨h8, hp⟩ := hp
          refine g_lald (mz_at hS (Nat.le_of_ble_eq_true rfl) mzcS_292) h8 (g_aload_n rfl (g_getR (mz_at hS (Nat.le_of_ble_eq_true rfl) mzcS_232) mzcf_12_85 (mz_rb hR (Nat.le_of_ble_eq_true rfl) rfl mzcR_232_85) (g_iload_n rfl ?_)))
          obtain ⟨h9, hp⟩ := hp
          refine g_lald (mz_at hS (Nat.le_of_ble_eq_true rfl) mzcS_292) h9 (g_lcmp ?_)
          refine g_lge (tg := 60) rfl ms_564_60 hC (fun h10 hC => ?_) (fun h10 hC => ?_)
          · have hp := hp.1 h10
            refine g_weak ?_ (g_cl (cg_564_55 hd hS hR v1 s.2 N hr hc1 hx1 hp hC))
            exact ⟨rfl, rfl, rfl, trivial⟩
          · have hp := hp.2 h10
            refine g_iload_n rfl ?_
            refine g_weak ?_ (g_cl (cg_564_61 hd hS hR s.1 v1 s.2 N hr hc1 hx1 hp hC))
            exact ⟨rfl, rfl, rfl, trivial⟩
      · have hp := hp.2 h6
        refine g_weak ?_ (g_cl (cg_564_62 hd hS hR v1 s.1 s.2 N hr hc1 hx1 hp hC))
        exact ⟨rfl, rfl, rfl, rfl, trivial⟩
    · have hp := hp.2 h4
      refine g_weak ?_ (g_cl (cg_564_62 hd hS hR v1 s.1 s.2 N hr hc1 hx1 hp hC))
      exact ⟨rfl, rfl, rfl, rfl, trivial⟩
  · have hp := hp.2 h1
    refine g_iload_n rfl ?_
    exact g_iret rfl (hr _ (hx1 _ hC))
theorem cg_564_5 (hd : 0 ≤ d) (hS : mz_extR S 342) (hR : mz_rok R 342)  (v1 : Int64) (v3 : Int32) (v4 : Int32) (N : mz_N) {C0 : (Int32) → Prop} (hr : ∀ (w : Int32), C0 w → Q (.inl (some (.int w))) (mz_k S R N b t)) (hp : cp_564_5 v1 v3 v4 N) (hC : C0 (cf_564_5 v1 v3 v4 N)) : mz_G (d, mz_X0 L xs, some .int, [], mk_564, 5, Q) 5 mt_564_5 [(0, .ref 232), (1, .long v1), (3, .int v3), (4, .int v4)] [] false (mz_k S R N b t) := by
  obtain ⟨n, hn⟩ := hp
  exact g_loop (G := fun s => mz_G (d, mz_X0 L xs, some .int, [], mk_564, 5, Q) 5 mt_564_5 [(0, .ref 232), (1, .long v1), (3, .int s.1), (4, .int s.2)] [] false (mz_k S R N b t)) (C := C0) (fun C2 hc hx s hP hC => cb_564_5 hd hS hR v1 N s hr hc hx hP hC) n (v3, v4) hn hC
theorem cg_564_0 (hd : 0 ≤ d) (hS : mz_extR S 342) (hR : mz_rok R 342)  (v1 : Int64) (N : mz_N) {C0 : (Int32) → Prop} (hr : ∀ (w : Int32), C0 w → Q (.inl (some (.int w))) (mz_k S R N b t)) (hp : cp_564_0 v1 N) (hC : C0 (cf_564_0 v1 N)) : mz_G (d, mz_X0 L xs, some .int, [], mk_564, 5, Q) 0 mk_564 [(0, .ref 232), (1, .long v1)] [] true (mz_k S R N b t) := by
  unfold cf_564_0 at hC
  unfold cp_564_0 at hp
  refine g_iconst mzi_m1 (g_istore_n (Nat.le_of_ble_eq_true rfl) rfl (g_iconst mzi_0 (g_istore (Nat.le_of_ble_eq_true rfl) rfl ?_)))
  refine g_weak ?_ (g_cl (cg_564_5 hd hS hR v1 (-1) 0 N hr hp hC))
  exact ⟨rfl, rfl, rfl, rfl, trivial⟩
theorem cs_564 (hd : 1 ≤ d) (hS : mz_extR S 342) (hR : mz_rok R 342)  (v1 : Int64) (N : mz_N) (hp : cp_564_0 v1 N) (hq : Q (.inl (some (.int (cf_564_0 v1 N)))) (mz_k S R N b t)) : mz_Ed (mz_X0 L xs) d 564 [.ref 232, .long v1] (mz_k S R N b t) Q :=
  by
  refine g_in mzq_564 (Nat.le_of_ble_eq_true rfl) (Nat.le_of_ble_eq_true rfl) (Nat.le_trans (Nat.le_of_ble_eq_true rfl) hd) ?_
  refine g_weak ?_ (cg_564_0 (d := d - 1) (by omega) hS hR v1 N (C0 := fun z => Q (.inl (some (.int z))) (mz_k S R N b t)) (fun _ h => h) hp hq)
  exact ⟨rfl, rfl, trivial⟩
/-! 563 KeptHouseModel.ticketOf (II)I -/
theorem ms_563_0 : mz_sf mk_563 0 = mk_563 := mz_sf_zero _
theorem ms_563_33 : mz_sf mk_563 33 = mt_563_33 := mz_sf_add ms_563_0 (t := 33) rfl rfl
theorem ms_563_34 : mz_sf mk_563 34 = mt_563_34 := mz_sf_add ms_563_33 (t := 1) rfl rfl
theorem ms_563_43 : mz_sf mk_563 43 = mt_563_43 := mz_sf_add ms_563_34 (t := 9) rfl rfl
theorem ms_563_54 : mz_sf mk_563 54 = mt_563_54 := mz_sf_add ms_563_43 (t := 11) rfl rfl
theorem ms_563_77 : mz_sf mk_563 77 = mt_563_77 := mz_sf_add ms_563_54 (t := 23) rfl rfl
theorem ms_563_120 : mz_sf mk_563 120 = mt_563_120 := mz_sf_add ms_563_77 (t := 43) rfl rfl
theorem ms_563_127 : mz_sf mk_563 127 = mt_563_127 := mz_sf_add ms_563_120 (t := 7) rfl rfl
theorem ms_563_134 : mz_sf mk_563 134 = mt_563_134 := mz_sf_add ms_563_127 (t := 7) rfl rfl
theorem ms_563_141 : mz_sf mk_563 141 = mt_563_141 := mz_sf_add ms_563_134 (t := 7) rfl rfl
theorem ms_563_149 : mz_sf mk_563 149 = mt_563_149 := mz_sf_add ms_563_141 (t := 8) rfl rfl
set_option maxRecDepth 100000 in
theorem mzq_563 : mz_PG0 563 = some (12, ⟨"KeptHouseModel", "ticketOf", "(II)I"⟩, prog_14_method_127_code, 5, some .int, [], mk_563, []) := rfl
theorem cb_563_54 (hd : 1 ≤ d) (hS : mz_extR S 342) (hR : mz_rok R 342)  (v1 : Int32) (v2 : Int32) (N : mz_N) (s : Int32 × Int32) {C0 : (Int32 × mz_N) → Prop} (hr : ∀ (w : Int32) (N2 : mz_N), C0 (w, N2) → Q (.inl (some (.int w))) (mz_k S R N2 b t)) {C1 : ((Int32 × Int32) ⊕ (Int32 × mz_N)) → Prop} (hc1 : ∀ s2, C1 (.inl s2) → mz_G (d, mz_X0 L xs, some .int, [], mk_563, 5, Q) 54 mt_563_54 [(0, .ref 232), (1, .int v1), (2, .int v2), (3, .int s2.1), (4, .int s2.2)] [] false (mz_k S R N b t)) (hx1 : ∀ z, C1 (.inr z) → C0 z) (hp : cd_563_54 v1 v2 N s) (hC : C1 (cq_563_54 v1 v2 N s)) : mz_G (d, mz_X0 L xs, some .int, [], mk_563, 5, Q) 54 mt_563_54 [(0, .ref 232), (1, .int v1), (2, .int v2), (3, .int s.1), (4, .int s.2)] [] false (mz_k S R N b t) := by
  unfold cq_563_54 at hC
  unfold cd_563_54 at hp
  refine g_iload rfl (g_iload_n rfl ?_)
  refine g_icge (tg := 77) rfl ms_563_77 hC (fun h1 hC => ?_) (fun h1 hC => ?_)
  · have hp := hp.1 h1
    refine g_aload_n rfl (g_aload_n rfl (g_getR (mz_at hS (Nat.le_of_ble_eq_true rfl) mzcS_232) mzcf_12_85 (mz_rb hR (Nat.le_of_ble_eq_true rfl) rfl mzcR_232_85) (g_iload_n rfl ?_)))
    obtain ⟨h2, hp⟩ := hp
    refine g_lald (mz_at hS (Nat.le_of_ble_eq_true rfl) mzcS_292) h2 ?_
    have h3 := hp
    refine g_v2v (Nat.le_of_ble_eq_true rfl) (mz_at hS (Nat.le_of_ble_eq_true rfl) mzcS_232) (fun _ hq => cs_564 (Nat.le_trans (Nat.le_of_ble_eq_true rfl) hd) (hS.le (Nat.le_of_ble_eq_true rfl)) (hR.le (Nat.le_of_ble_eq_true rfl))  (mz_gL N 292 s.1) N h3 hq) (g_istore_n (Nat.le_of_ble_eq_true rfl) rfl (g_iinc rfl mzi_1 (Nat.le_of_ble_eq_true rfl) rfl (g_goto (tg := 54) rfl ms_563_54 ?_)))
    refine g_weak ?_ (g_cl (hc1 ((cf_564_0 (mz_gL N 292 s.1) N), (s.2 + 1)) hC))
    exact ⟨rfl, rfl, rfl, rfl, rfl, trivial⟩
  · have hp := hp.2 h1
    refine g_iload_n rfl ?_
    refine mz_cs hC (fun h4 hC => ?_) (fun h4 hC => ?_)
    · have hp := hp.1 h4
      refine g_brn (tg := 112) (by rw [h4]; rfl) (by decide) rfl ?_
      refine g_aload_n rfl (g_getR (mz_at hS (Nat.le_of_ble_eq_true rfl) mzcS_232) mzcf_12_85 (mz_rb hR (Nat.le_of_ble_eq_true rfl) rfl mzcR_232_85) (g_iload_n rfl ?_))
      have h14 := hp
      refine g_lald (mz_at hS (Nat.le_of_ble_eq_true rfl) mzcS_292) h14 (g_l2i ?_)
      exact g_iret rfl (hr _ _ (hx1 _ hC))
    · have hp := hp.2 h4
      refine mz_cs hC (fun h5 hC => ?_) (fun h5 hC => ?_)
      · have hp := hp.1 h5
        refine g_br (tg := 120) (by rw [h5]; rfl) ms_563_120 ?_
        refine g_aload_n rfl (g_getR (mz_at hS (Nat.le_of_ble_eq_true rfl) mzcS_232) mzcf_12_81 (mz_rb hR (Nat.le_of_ble_eq_true rfl) rfl mzcR_232_81) (g_iload_n rfl ?_))
        have h13 := hp
        refine g_iald hS.1 (mz_at hS (Nat.le_of_ble_eq_true rfl) mzcS_288) h13 ?_
        exact g_iret rfl (hr _ _ (hx1 _ hC))
      · have hp := hp.2 h5
        refine mz_cs hC (fun h6 hC => ?_) (fun h6 hC => ?_)
        · have hp := hp.1 h6
          refine g_br (tg := 127) (by rw [h6]; rfl) ms_563_127 ?_
          refine g_aload_n rfl (g_getR (mz_at hS (Nat.le_of_ble_eq_true rfl) mzcS_232) mzcf_12_82 (mz_rb hR (Nat.le_of_ble_eq_true rfl) rfl mzcR_232_82) (g_iload_n rfl ?_))
          have h12 := hp
          refine g_iald hS.1 (mz_at hS (Nat.le_of_ble_eq_true rfl) mzcS_289) h12 ?_
          exact g_iret rfl (hr _ _ (hx1 _ hC))
        · have hp := hp.2 h6
          refine mz_cs hC (fun h7 hC => ?_) (fun h7 hC => ?_)
          · have hp := hp.1 h7
            refine g_br (tg := 134) (by rw [h7]; rfl) ms_563_134 ?_
            refine g_aload_n rfl (g_getR (mz_at hS (Nat.le_of_ble_eq_true rfl) mzcS_232) mzcf_12_83 (mz_rb hR (Nat.le_of_ble_eq_true rfl) rfl mzcR_232_83) (g_iload_n rfl ?_))
            have h11 := hp
            refine g_iald hS.1 (mz_at hS (Nat.le_of_ble_eq_true rfl) mzcS_290) h11 ?_
            exact g_iret rfl (hr _ _ (hx1 _ hC))
          · have hp := hp.2 h7
            refine mz_cs hC (fun h8 hC => ?_) (fun h8 hC => ?_)
            · have hp := hp.1 h8
              refine g_br (tg := 141) (by rw [h8]; rfl) ms_563_141 ?_
              refine g_aload_n rfl (g_getR (mz_at hS (Nat.le_of_ble_eq_true rfl) mzcS_232) mzcf_12_84 (mz_rb hR (Nat.le_of_ble_eq_true rfl) rfl mzcR_232_84) (g_iload_n rfl ?_))
              have h10 := hp
              refine g_lald (mz_at hS (Nat.le_of_ble_eq_true rfl) mzcS_291) h10 (g_l2i ?_)
              exact g_iret rfl (hr _ _ (hx1 _ hC))
            · have hp := hp.2 h8
              refine g_br (tg := 149) ((mz_tsw_d (l := [0, 1, 2, 3, 4]) (mz_rng 0 4) ⟨h4, h5, h6, h7, h8, trivial⟩).trans (mz_tg_t rfl)) ms_563_149 ?_
              refine g_aload_n rfl (g_getR (mz_at hS (Nat.le_of_ble_eq_true rfl) mzcS_232) mzcf_12_86 (mz_rb hR (Nat.le_of_ble_eq_true rfl) rfl mzcR_232_86) (g_iload_n rfl ?_))
              have h9 := hp
              refine g_iald hS.1 (mz_at hS (Nat.le_of_ble_eq_true rfl) mzcS_293) h9 ?_
              exact g_iret rfl (hr _ _ (hx1 _ hC))
theorem cg_563_54 (hd : 1 ≤ d) (hS : mz_extR S 342) (hR : mz_rok R 342)  (v1 : Int32) (v2 : Int32) (v3 : Int32) (v4 : Int32) (N : mz_N) {C0 : (Int32 × mz_N) → Prop} (hr : ∀ (w : Int32) (N2 : mz_N), C0 (w, N2) → Q (.inl (some (.int w))) (mz_k S R N2 b t)) (hp : cp_563_54 v1 v2 v3 v4 N) (hC : C0 (cf_563_54 v1 v2 v3 v4 N)) : mz_G (d, mz_X0 L xs, some .int, [], mk_563, 5, Q) 54 mt_563_54 [(0, .ref 232), (1, .int v1), (2, .int v2), (3, .int v3), (4, .int v4)] [] false (mz_k S R N b t) := by
  obtain ⟨n, hn⟩ := hp
  exact g_loop (G := fun s => mz_G (d, mz_X0 L xs, some .int, [], mk_563, 5, Q) 54 mt_563_54 [(0, .ref 232), (1, .int v1), (2, .int v2), (3, .int s.1), (4, .int s.2)] [] false (mz_k S R N b t)) (C := C0) (fun C2 hc hx s hP hC => cb_563_54 hd hS hR v1 v2 N s hr hc hx hP hC) n (v3, v4) hn hC
theorem cg_563_34 (hd : 1 ≤ d) (hS : mz_extR S 342) (hR : mz_rok R 342)  (s1 : Bool) (v1 : Int32) (v2 : Int32) (N : mz_N) {C0 : (Int32 × mz_N) → Prop} (hr : ∀ (w : Int32) (N2 : mz_N), C0 (w, N2) → Q (.inl (some (.int w))) (mz_k S R N2 b t)) (hp : cp_563_34 s1 v1 v2 N) (hC : C0 (cf_563_34 s1 v1 v2 N)) : mz_G (d, mz_X0 L xs, some .int, [], mk_563, 5, Q) 34 mt_563_34 [(0, .ref 232), (1, .int v1), (2, .int v2)] [.int (mz_b01 s1), .ref 232] false (mz_k S R N b t) := by
  unfold cf_563_34 at hC
  unfold cp_563_34 at hp
  refine g_iconst mzi_1 ?_
  obtain ⟨h1, hp⟩ := hp
  refine g_v3v (Nat.le_of_ble_eq_true rfl) (mz_at hS (Nat.le_of_ble_eq_true rfl) mzcS_232) (fun _ hq => cs_462 (Nat.le_trans (Nat.le_of_ble_eq_true rfl) hd) (hS.le (Nat.le_of_ble_eq_true rfl)) (hR.le (Nat.le_of_ble_eq_true rfl))  s1 true N h1 hq) ?_
  refine g_zeq (tg := 43) rfl ms_563_43 hC (fun h2 hC => ?_) (fun h2 hC => ?_)
  · have hp := hp.1 h2
    refine g_iconst mzi_0 ?_
    exact g_iret rfl (hr _ _ hC)
  · have hp := hp.2 h2
    refine g_aload_n rfl (g_con3 ?_)
    obtain ⟨h3, hp⟩ := hp
    refine g_v2v (Nat.le_of_ble_eq_true rfl) (mz_at hS (Nat.le_of_ble_eq_true rfl) mzcS_232) (fun _ hq => cs_564 (Nat.le_trans (Nat.le_of_ble_eq_true rfl) hd) (hS.le (Nat.le_of_ble_eq_true rfl)) (hR.le (Nat.le_of_ble_eq_true rfl))  (-1) ((cf_462_0 s1 true N).2) h3 hq) (g_istore_n (Nat.le_of_ble_eq_true rfl) rfl (g_iconst mzi_0 (g_istore (Nat.le_of_ble_eq_true rfl) rfl ?_)))
    refine g_weak ?_ (g_cl (cg_563_54 hd hS hR v1 v2 (cf_564_0 (-1) ((cf_462_0 s1 true N).2)) 0 ((cf_462_0 s1 true N).2) hr hp hC))
    exact ⟨rfl, rfl, rfl, rfl, rfl, trivial⟩
theorem cg_563_33 (hd : 1 ≤ d) (hS : mz_extR S 342) (hR : mz_rok R 342)  (v1 : Int32) (v2 : Int32) (N : mz_N) {C0 : (Int32 × mz_N) → Prop} (hr : ∀ (w : Int32) (N2 : mz_N), C0 (w, N2) → Q (.inl (some (.int w))) (mz_k S R N2 b t)) (hp : cp_563_33 v1 v2 N) (hC : C0 (cf_563_33 v1 v2 N)) : mz_G (d, mz_X0 L xs, some .int, [], mk_563, 5, Q) 33 mt_563_33 [(0, .ref 232), (1, .int v1), (2, .int v2)] [.ref 232] false (mz_k S R N b t) := by
  unfold cf_563_33 at hC
  unfold cp_563_33 at hp
  refine g_iconst mzi_0 ?_
  refine g_weak ?_ (g_cl (cg_563_34 hd hS hR false v1 v2 N hr hp hC))
  exact ⟨rfl, rfl, rfl, trivial⟩
theorem cg_563_0 (hd : 1 ≤ d) (hS : mz_extR S 342) (hR : mz_rok R 342)  (v1 : Int32) (v2 : Int32) (N : mz_N) {C0 : (Int32 × mz_N) → Prop} (hr : ∀ (w : Int32) (N2 : mz_N), C0 (w, N2) → Q (.inl (some (.int w))) (mz_k S R N2 b t)) (hp : cp_563_0 v1 v2 N) (hC : C0 (cf_563_0 v1 v2 N)) : mz_G (d, mz_X0 L xs, some .int, [], mk_563, 5, Q) 0 mk_563 [(0, .ref 232), (1, .int v1), (2, .int v2)] [] true (mz_k S R N b t) := by
  unfold cf_563_0 at hC
  unfold cp_563_0 at hp
  refine g_aload_n rfl (g_iload_n rfl (g_i2l (g_lconst mzl_0 (g_aload_n rfl ?_))))
  obtain ⟨h1, hp⟩ := hp
  refine g_v1v (Nat.le_of_ble_eq_true rfl) (mz_at hS (Nat.le_of_ble_eq_true rfl) mzcS_232) (fun _ hq => cs_562 (Nat.le_trans (Nat.le_of_ble_eq_true rfl) hd) (hS.le (Nat.le_of_ble_eq_true rfl)) (hR.le (Nat.le_of_ble_eq_true rfl))  N h1 hq) (g_iconst mzi_1 (g_isub (g_i2l ?_)))
  refine g_s3v (Nat.le_of_ble_eq_true rfl) (fun _ hq => cs_466 (Nat.le_trans (Nat.le_of_ble_eq_true rfl) hd) (hS.le (Nat.le_of_ble_eq_true rfl)) (hR.le (Nat.le_of_ble_eq_true rfl))  v1.toInt64 0 (((cf_562_0 N) - 1).toInt64) trivial hq) ?_
  refine g_zeq (tg := 33) rfl ms_563_33 hC (fun h3 hC => ?_) (fun h3 hC => ?_)
  · have hp := hp.1 h3
    refine g_iload_n rfl (g_i2l (g_lconst mzl_0 (g_con3 ?_)))
    refine g_s3v (Nat.le_of_ble_eq_true rfl) (fun _ hq => cs_466 (Nat.le_trans (Nat.le_of_ble_eq_true rfl) hd) (hS.le (Nat.le_of_ble_eq_true rfl)) (hR.le (Nat.le_of_ble_eq_true rfl))  v2.toInt64 0 5 trivial hq) ?_
    refine g_zeq (tg := 33) rfl ms_563_33 hC (fun h5 hC => ?_) (fun h5 hC => ?_)
    · have hp := hp.1 h5
      refine g_iconst mzi_1 (g_goto (tg := 34) rfl ms_563_34 ?_)
      refine g_weak ?_ (g_cl (cg_563_34 hd hS hR true v1 v2 N hr hp hC))
      exact ⟨rfl, rfl, rfl, trivial⟩
    · have hp := hp.2 h5
      refine g_weak ?_ (g_cl (cg_563_33 hd hS hR v1 v2 N hr hp hC))
      exact ⟨rfl, rfl, rfl, trivial⟩
  · have hp := hp.2 h3
    refine g_weak ?_ (g_cl (cg_563_33 hd hS hR v1 v2 N hr hp hC))
    exact ⟨rfl, rfl, rfl, trivial⟩
theorem cs_563 (hd : 2 ≤ d) (hS : mz_extR S 342) (hR : mz_rok R 342)  (v1 : Int32) (v2 : Int32) (N : mz_N) (hp : cp_563_0 v1 v2 N) (hq : Q (.inl (some (.int ((cf_563_0 v1 v2 N).1)))) (mz_k S R ((cf_563_0 v1 v2 N).2) b t)) : mz_Ed (mz_X0 L xs) d 563 [.ref 232, .int v1, .int v2] (mz_k S R N b t) Q :=
  by
  refine g_in mzq_563 (Nat.le_of_ble_eq_true rfl) (Nat.le_of_ble_eq_true rfl) (Nat.le_trans (Nat.le_of_ble_eq_true rfl) hd) ?_
  refine g_weak ?_ (cg_563_0 (d := d - 1) (by omega) hS hR v1 v2 N (C0 := fun z => Q (.inl (some (.int z.1))) (mz_k S R z.2 b t)) (fun _ _ h => h) hp hq)
  exact ⟨rfl, rfl, rfl, trivial⟩
/-! 566 KeptHouseModel.takenFor (I)I -/
theorem ms_566_0 : mz_sf mk_566 0 = mk_566 := mz_sf_zero _
theorem ms_566_4 : mz_sf mk_566 4 = mt_566_4 := mz_sf_add ms_566_0 (t := 4) rfl rfl
theorem ms_566_43 : mz_sf mk_566 43 = mt_566_43 := mz_sf_add ms_566_4 (t := 39) rfl rfl
theorem ms_566_44 : mz_sf mk_566 44 = mt_566_44 := mz_sf_add ms_566_43 (t := 1) rfl rfl
theorem ms_566_52 : mz_sf mk_566 52 = mt_566_52 := mz_sf_add ms_566_44 (t := 8) rfl rfl
set_option maxRecDepth 100000 in
theorem mzq_566 : mz_PG0 566 = some (12, ⟨"KeptHouseModel", "takenFor", "(I)I"⟩, prog_14_method_132_code, 4, some .int, [], mk_566, []) := rfl
theorem cg_566_44 (hd : 0 ≤ d) (hS : mz_extR S 342) (hR : mz_rok R 342)  (s0 : Int32) (s1 : Bool) (v1 : Int32) (v3 : Int32) (N : mz_N) {C0 : (Int32) → Prop} (hr : ∀ (w : Int32), C0 w → Q (.inl (some (.int w))) (mz_k S R N b t)) {C1 : ((Int32 × Int32) ⊕ (Int32)) → Prop} (hc1 : ∀ s2, C1 (.inl s2) → mz_G (d, mz_X0 L xs, some .int, [], mk_566, 4, Q) 4 mt_566_4 [(0, .ref 232), (1, .int v1), (2, .int s2.1), (3, .int s2.2)] [] false (mz_k S R N b t)) (hx1 : ∀ z, C1 (.inr z) → C0 z) (hp : cp_566_44 s0 s1 v1 v3 N) (hC : C1 (cf_566_44 s0 s1 v1 v3 N)) : mz_G (d, mz_X0 L xs, some .int, [], mk_566, 4, Q) 44 mt_566_44 [(0, .ref 232), (1, .int v1), (3, .int v3)] [.int (mz_b01 s1), .int s0] false (mz_k S R N b t) := by
  unfold cf_566_44 at hC
  unfold cp_566_44 at hp
  refine g_iadd (g_istore_n (Nat.le_of_ble_eq_true rfl) rfl (g_iinc rfl mzi_1 (Nat.le_of_ble_eq_true rfl) rfl (g_goto (tg := 4) rfl ms_566_4 ?_)))
  refine g_weak ?_ (g_cl (hc1 ((s0 + (mz_b01 s1)), (v3 + 1)) hC))
  exact ⟨rfl, rfl, rfl, rfl, trivial⟩
theorem cg_566_43 (hd : 0 ≤ d) (hS : mz_extR S 342) (hR : mz_rok R 342)  (s0 : Int32) (v1 : Int32) (v3 : Int32) (N : mz_N) {C0 : (Int32) → Prop} (hr : ∀ (w : Int32), C0 w → Q (.inl (some (.int w))) (mz_k S R N b t)) {C1 : ((Int32 × Int32) ⊕ (Int32)) → Prop} (hc1 : ∀ s2, C1 (.inl s2) → mz_G (d, mz_X0 L xs, some .int, [], mk_566, 4, Q) 4 mt_566_4 [(0, .ref 232), (1, .int v1), (2, .int s2.1), (3, .int s2.2)] [] false (mz_k S R N b t)) (hx1 : ∀ z, C1 (.inr z) → C0 z) (hp : cp_566_43 s0 v1 v3 N) (hC : C1 (cf_566_43 s0 v1 v3 N)) : mz_G (d, mz_X0 L xs, some .int, [], mk_566, 4, Q) 43 mt_566_43 [(0, .ref 232), (1, .int v1), (3, .int v3)] [.int s0] false (mz_k S R N b t) := by
  unfold cf_566_43 at hC
  unfold cp_566_43 at hp
  refine g_iconst mzi_0 ?_
  refine g_weak ?_ (g_cl (cg_566_44 hd hS hR s0 false v1 v3 N hr hc1 hx1 hp hC))
  exact ⟨rfl, rfl, rfl, trivial⟩
theorem cb_566_4 (hd : 0 ≤ d) (hS : mz_extR S 342) (hR : mz_rok R 342)  (v1 : Int32) (N : mz_N) (s : Int32 × Int32) {C0 : (Int32) → Prop} (hr : ∀ (w : Int32), C0 w → Q (.inl (some (.int w))) (mz_k S R N b t)) {C1 : ((Int32 × Int32) ⊕ (Int32)) → Prop} (hc1 : ∀ s2, C1 (.inl s2) → mz_G (d, mz_X0 L xs, some .int, [], mk_566, 4, Q) 4 mt_566_4 [(0, .ref 232), (1, .int v1), (2, .int s2.1), (3, .int s2.2)] [] false (mz_k S R N b t)) (hx1 : ∀ z, C1 (.inr z) → C0 z) (hp : cd_566_4 v1 N s) (hC : C1 (cq_566_4 v1 N s)) : mz_G (d, mz_X0 L xs, some .int, [], mk_566, 4, Q) 4 mt_566_4 [(0, .ref 232), (1, .int v1), (2, .int s.1), (3, .int s.2)] [] false (mz_k S R N b t) := by
  unfold cq_566_4 at hC
  unfold cd_566_4 at hp
  refine g_iload_n rfl (g_bipush mzb_16 ?_)
  refine g_icge (tg := 52) rfl ms_566_52 hC (fun h1 hC => ?_) (fun h1 hC => ?_)
  · have hp := hp.1 h1
    refine g_iload_n rfl (g_aload_n rfl (g_getR (mz_at hS (Nat.le_of_ble_eq_true rfl) mzcS_232) mzcf_12_80 (mz_rb hR (Nat.le_of_ble_eq_true rfl) rfl mzcR_232_80) (g_iload_n rfl ?_)))
    obtain ⟨h2, hp⟩ := hp
    obtain ⟨h3, hp⟩ := hp
    refine g_zald (mz_at hS (Nat.le_of_ble_eq_true rfl) mzcS_287) h2 h3 ?_
    refine g_zeq (tg := 43) rfl ms_566_43 hC (fun h4 hC => ?_) (fun h4 hC => ?_)
    · have hp := hp.1 h4
      refine g_aload_n rfl (g_getR (mz_at hS (Nat.le_of_ble_eq_true rfl) mzcS_232) mzcf_12_83 (mz_rb hR (Nat.le_of_ble_eq_true rfl) rfl mzcR_232_83) (g_iload_n rfl ?_))
      obtain ⟨h5, hp⟩ := hp
      refine g_iald hS.1 (mz_at hS (Nat.le_of_ble_eq_true rfl) mzcS_290) h5 (g_iload_n rfl ?_)
      refine g_icne (tg := 43) rfl ms_566_43 hC (fun h6 hC => ?_) (fun h6 hC => ?_)
      · have hp := hp.1 h6
        refine g_aload_n rfl (g_getR (mz_at hS (Nat.le_of_ble_eq_true rfl) mzcS_232) mzcf_12_86 (mz_rb hR (Nat.le_of_ble_eq_true rfl) rfl mzcR_232_86) (g_iload_n rfl ?_))
        obtain ⟨h7, hp⟩ := hp
        refine g_iald hS.1 (mz_at hS (Nat.le_of_ble_eq_true rfl) mzcS_293) h7 ?_
        refine g_iflt (tg := 43) rfl ms_566_43 hC (fun h8 hC => ?_) (fun h8 hC => ?_)
        · have hp := hp.1 h8
          refine g_weak ?_ (g_cl (cg_566_43 hd hS hR s.1 v1 s.2 N hr hc1 hx1 hp hC))
          exact ⟨rfl, rfl, rfl, trivial⟩
        · have hp := hp.2 h8
          refine g_iconst mzi_1 (g_goto (tg := 44) rfl ms_566_44 ?_)
          refine g_weak ?_ (g_cl (cg_566_44 hd hS hR s.1 true v1 s.2 N hr hc1 hx1 hp hC))
          exact ⟨rfl, rfl, rfl, trivial⟩
      · have hp := hp.2 h6
        refine g_weak ?_ (g_cl (cg_566_43 hd hS hR s.1 v1 s.2 N hr hc1 hx1 hp hC))
        exact ⟨rfl, rfl, rfl, trivial⟩
    · have hp := hp.2 h4
      refine g_weak ?_ (g_cl (cg_566_43 hd hS hR s.1 v1 s.2 N hr hc1 hx1 hp hC))
      exact ⟨rfl, rfl, rfl, trivial⟩
  · have hp := hp.2 h1
    refine g_iload_n rfl ?_
    exact g_iret rfl (hr _ (hx1 _ hC))
theorem cg_566_4 (hd : 0 ≤ d) (hS : mz_extR S 342) (hR : mz_rok R 342)  (v1 : Int32) (v2 : Int32) (v3 : Int32) (N : mz_N) {C0 : (Int32) → Prop} (hr : ∀ (w : Int32), C0 w → Q (.inl (some (.int w))) (mz_k S R N b t)) (hp : cp_566_4 v1 v2 v3 N) (hC : C0 (cf_566_4 v1 v2 v3 N)) : mz_G (d, mz_X0 L xs, some .int, [], mk_566, 4, Q) 4 mt_566_4 [(0, .ref 232), (1, .int v1), (2, .int v2), (3, .int v3)] [] false (mz_k S R N b t) := by
  obtain ⟨n, hn⟩ := hp
  exact g_loop (G := fun s => mz_G (d, mz_X0 L xs, some .int, [], mk_566, 4, Q) 4 mt_566_4 [(0, .ref 232), (1, .int v1), (2, .int s.1), (3, .int s.2)] [] false (mz_k S R N b t)) (C := C0) (fun C2 hc hx s hP hC => cb_566_4 hd hS hR v1 N s hr hc hx hP hC) n (v2, v3) hn hC
theorem cg_566_0 (hd : 0 ≤ d) (hS : mz_extR S 342) (hR : mz_rok R 342)  (v1 : Int32) (N : mz_N) {C0 : (Int32) → Prop} (hr : ∀ (w : Int32), C0 w → Q (.inl (some (.int w))) (mz_k S R N b t)) (hp : cp_566_0 v1 N) (hC : C0 (cf_566_0 v1 N)) : mz_G (d, mz_X0 L xs, some .int, [], mk_566, 4, Q) 0 mk_566 [(0, .ref 232), (1, .int v1)] [] true (mz_k S R N b t) := by
  unfold cf_566_0 at hC
  unfold cp_566_0 at hp
  refine g_iconst mzi_0 (g_istore_n (Nat.le_of_ble_eq_true rfl) rfl (g_iconst mzi_0 (g_istore_n (Nat.le_of_ble_eq_true rfl) rfl ?_)))
  refine g_weak ?_ (g_cl (cg_566_4 hd hS hR v1 0 0 N hr hp hC))
  exact ⟨rfl, rfl, rfl, rfl, trivial⟩
theorem cs_566 (hd : 1 ≤ d) (hS : mz_extR S 342) (hR : mz_rok R 342)  (v1 : Int32) (N : mz_N) (hp : cp_566_0 v1 N) (hq : Q (.inl (some (.int (cf_566_0 v1 N)))) (mz_k S R N b t)) : mz_Ed (mz_X0 L xs) d 566 [.ref 232, .int v1] (mz_k S R N b t) Q :=
  by
  refine g_in mzq_566 (Nat.le_of_ble_eq_true rfl) (Nat.le_of_ble_eq_true rfl) (Nat.le_trans (Nat.le_of_ble_eq_true rfl) hd) ?_
  refine g_weak ?_ (cg_566_0 (d := d - 1) (by omega) hS hR v1 N (C0 := fun z => Q (.inl (some (.int z))) (mz_k S R N b t)) (fun _ h => h) hp hq)
  exact ⟨rfl, rfl, trivial⟩
/-! 569 KeptHouseModel.apart (II)I -/
theorem ms_569_0 : mz_sf mk_569 0 = mk_569 := mz_sf_zero _
theorem ms_569_11 : mz_sf mk_569 11 = mt_569_11 := mz_sf_add ms_569_0 (t := 11) rfl rfl
theorem ms_569_14 : mz_sf mk_569 14 = mt_569_14 := mz_sf_add ms_569_11 (t := 3) rfl rfl
set_option maxRecDepth 100000 in
theorem mzq_569 : mz_PG0 569 = some (12, ⟨"KeptHouseModel", "apart", "(II)I"⟩, prog_14_method_128_code, 2, some .int, [], mk_569, []) := rfl
theorem cg_569_0 (hd : 0 ≤ d) (hS : mz_extR S 342) (hR : mz_rok R 342)  (v0 : Int32) (v1 : Int32) {C0 : (Int32) → Prop} (hr : ∀ (w : Int32), C0 w → Q (.inl (some (.int w))) (mz_k S R N b t)) (hp : cp_569_0 v0 v1) (hC : C0 (cf_569_0 v0 v1)) : mz_G (d, mz_X0 L xs, some .int, [], mk_569, 2, Q) 0 mk_569 [(0, .int v0), (1, .int v1)] [] true (mz_k S R N b t) := by
  unfold cf_569_0 at hC
  unfold cp_569_0 at hp
  refine g_iload_n rfl (g_iload_n rfl ?_)
  refine g_icle (tg := 11) rfl ms_569_11 hC (fun h1 hC => ?_) (fun h1 hC => ?_)
  · refine g_iload_n rfl (g_iload_n rfl (g_isub (g_goto (tg := 14) rfl ms_569_14 ?_)))
    exact g_iret rfl (hr _ hC)
  · refine g_iload_n rfl (g_iload_n rfl (g_isub ?_))
    exact g_iret rfl (hr _ hC)
theorem cs_569 (hd : 1 ≤ d) (hS : mz_extR S 342) (hR : mz_rok R 342)  (v0 : Int32) (v1 : Int32) (hp : cp_569_0 v0 v1) (hq : Q (.inl (some (.int (cf_569_0 v0 v1)))) (mz_k S R N b t)) : mz_Ed (mz_X0 L xs) d 569 [.int v0, .int v1] (mz_k S R N b t) Q :=
  by
  refine g_in mzq_569 (Nat.le_of_ble_eq_true rfl) (Nat.le_of_ble_eq_true rfl) (Nat.le_trans (Nat.le_of_ble_eq_true rfl) hd) ?_
  refine g_weak ?_ (cg_569_0 (d := d - 1) (by omega) hS hR v0 v1 (C0 := fun z => Q (.inl (some (.int z))) (mz_k S R N b t)) (fun _ h => h) hp hq)
  exact ⟨rfl, rfl, trivial⟩
/-! 568 KeptHouseModel.wayTo (II)I -/
theorem ms_568_0 : mz_sf mk_568 0 = mk_568 := mz_sf_zero _
theorem ms_568_8 : mz_sf mk_568 8 = mt_568_8 := mz_sf_add ms_568_0 (t := 8) rfl rfl
theorem ms_568_14 : mz_sf mk_568 14 = mt_568_14 := mz_sf_add ms_568_8 (t := 6) rfl rfl
theorem ms_568_23 : mz_sf mk_568 23 = mt_568_23 := mz_sf_add ms_568_14 (t := 9) rfl rfl
theorem ms_568_29 : mz_sf mk_568 29 = mt_568_29 := mz_sf_add ms_568_23 (t := 6) rfl rfl
theorem ms_568_39 : mz_sf mk_568 39 = mt_568_39 := mz_sf_add ms_568_29 (t := 10) rfl rfl
theorem ms_568_45 : mz_sf mk_568 45 = mt_568_45 := mz_sf_add ms_568_39 (t := 6) rfl rfl
theorem ms_568_55 : mz_sf mk_568 55 = mt_568_55 := mz_sf_add ms_568_45 (t := 10) rfl rfl
theorem ms_568_61 : mz_sf mk_568 61 = mt_568_61 := mz_sf_add ms_568_55 (t := 6) rfl rfl
set_option maxRecDepth 100000 in
theorem mzq_568 : mz_PG0 568 = some (12, ⟨"KeptHouseModel", "wayTo", "(II)I"⟩, prog_14_method_129_code, 7, some .int, [], mk_568, []) := rfl
theorem cg_568_61 (hd : 1 ≤ d) (hS : mz_extR S 342) (hR : mz_rok R 342)  (s0 : Int32) (v3 : Int32) (v4 : Int32) (v5 : Int32) (N : mz_N) {C0 : (Int32) → Prop} (hr : ∀ (w : Int32), C0 w → Q (.inl (some (.int w))) (mz_k S R N b t)) (hp : cp_568_61 s0 v3 v4 v5 N) (hC : C0 (cf_568_61 s0 v3 v4 v5 N)) : mz_G (d, mz_X0 L xs, some .int, [], mk_568, 7, Q) 61 mt_568_61 [(3, .int v3), (4, .int v4), (5, .int v5)] [.int s0] true (mz_k S R N b t) := by
  unfold cf_568_61 at hC
  unfold cp_568_61 at hp
  refine g_istore (Nat.le_of_ble_eq_true rfl) rfl (g_iload rfl (g_bipush mzb_8 (g_irem (by decide) (g_iload rfl (g_bipush mzb_8 (g_irem (by decide) ?_))))))
  refine g_s2v (Nat.le_of_ble_eq_true rfl) (fun _ hq => cs_569 (Nat.le_trans (Nat.le_of_ble_eq_true rfl) hd) (hS.le (Nat.le_of_ble_eq_true rfl)) (hR.le (Nat.le_of_ble_eq_true rfl))  (mz_irem v5 8) (mz_irem s0 8) trivial hq) (g_iload rfl (g_bipush mzb_8 (g_idiv (by decide) (g_iload rfl (g_bipush mzb_8 (g_idiv (by decide) ?_))))))
  refine g_s2v (Nat.le_of_ble_eq_true rfl) (fun _ hq => cs_569 (Nat.le_trans (Nat.le_of_ble_eq_true rfl) hd) (hS.le (Nat.le_of_ble_eq_true rfl)) (hR.le (Nat.le_of_ble_eq_true rfl))  (v5 / 8) (s0 / 8) trivial hq) (g_iadd (g_bipush mzb_10 (g_iload_n rfl (g_iload rfl ?_))))
  refine g_s2v (Nat.le_of_ble_eq_true rfl) (fun _ hq => cs_569 (Nat.le_trans (Nat.le_of_ble_eq_true rfl) hd) (hS.le (Nat.le_of_ble_eq_true rfl)) (hR.le (Nat.le_of_ble_eq_true rfl))  v3 v4 trivial hq) (g_imul (g_iadd ?_))
  exact g_iret rfl (hr _ hC)
theorem cg_568_45 (hd : 1 ≤ d) (hS : mz_extR S 342) (hR : mz_rok R 342)  (s0 : Int32) (v2 : Int32) (v3 : Int32) (v4 : Int32) (N : mz_N) {C0 : (Int32) → Prop} (hr : ∀ (w : Int32), C0 w → Q (.inl (some (.int w))) (mz_k S R N b t)) (hp : cp_568_45 s0 v2 v3 v4 N) (hC : C0 (cf_568_45 s0 v2 v3 v4 N)) : mz_G (d, mz_X0 L xs, some .int, [], mk_568, 7, Q) 45 mt_568_45 [(0, .ref 232), (2, .int v2), (3, .int v3), (4, .int v4)] [.int s0] true (mz_k S R N b t) := by
  unfold cf_568_45 at hC
  unfold cp_568_45 at hp
  refine g_istore (Nat.le_of_ble_eq_true rfl) rfl (g_iload_n rfl ?_)
  refine g_ifge (tg := 55) rfl ms_568_55 hC (fun h1 hC => ?_) (fun h1 hC => ?_)
  · have hp := hp.1 h1
    refine g_iconst mzi_0 (g_goto (tg := 61) rfl ms_568_61 ?_)
    refine g_weak ?_ (cg_568_61 hd hS hR 0 v3 v4 s0 N hr hp hC)
    exact ⟨rfl, rfl, rfl, trivial⟩
  · have hp := hp.2 h1
    refine g_aload_n rfl (g_getR (mz_at hS (Nat.le_of_ble_eq_true rfl) mzcS_232) mzcf_12_82 (mz_rb hR (Nat.le_of_ble_eq_true rfl) rfl mzcR_232_82) (g_iload_n rfl ?_))
    obtain ⟨h2, hp⟩ := hp
    refine g_iald hS.1 (mz_at hS (Nat.le_of_ble_eq_true rfl) mzcS_289) h2 ?_
    refine g_weak ?_ (cg_568_61 hd hS hR (mz_gI N 289 v2) v3 v4 s0 N hr hp hC)
    exact ⟨rfl, rfl, rfl, trivial⟩
theorem cg_568_29 (hd : 1 ≤ d) (hS : mz_extR S 342) (hR : mz_rok R 342)  (s0 : Int32) (v1 : Int32) (v2 : Int32) (v3 : Int32) (N : mz_N) {C0 : (Int32) → Prop} (hr : ∀ (w : Int32), C0 w → Q (.inl (some (.int w))) (mz_k S R N b t)) (hp : cp_568_29 s0 v1 v2 v3 N) (hC : C0 (cf_568_29 s0 v1 v2 v3 N)) : mz_G (d, mz_X0 L xs, some .int, [], mk_568, 7, Q) 29 mt_568_29 [(0, .ref 232), (1, .int v1), (2, .int v2), (3, .int v3)] [.int s0] true (mz_k S R N b t) := by
  unfold cf_568_29 at hC
  unfold cp_568_29 at hp
  refine g_istore (Nat.le_of_ble_eq_true rfl) rfl (g_iload_n rfl ?_)
  refine g_ifge (tg := 39) rfl ms_568_39 hC (fun h1 hC => ?_) (fun h1 hC => ?_)
  · have hp := hp.1 h1
    refine g_iconst mzi_0 (g_goto (tg := 45) rfl ms_568_45 ?_)
    refine g_weak ?_ (cg_568_45 hd hS hR 0 v2 v3 s0 N hr hp hC)
    exact ⟨rfl, rfl, rfl, rfl, trivial⟩
  · have hp := hp.2 h1
    refine g_aload_n rfl (g_getR (mz_at hS (Nat.le_of_ble_eq_true rfl) mzcS_232) mzcf_12_82 (mz_rb hR (Nat.le_of_ble_eq_true rfl) rfl mzcR_232_82) (g_iload_n rfl ?_))
    obtain ⟨h2, hp⟩ := hp
    refine g_iald hS.1 (mz_at hS (Nat.le_of_ble_eq_true rfl) mzcS_289) h2 ?_
    refine g_weak ?_ (cg_568_45 hd hS hR (mz_gI N 289 v1) v2 v3 s0 N hr hp hC)
    exact ⟨rfl, rfl, rfl, rfl, trivial⟩
theorem cg_568_14 (hd : 1 ≤ d) (hS : mz_extR S 342) (hR : mz_rok R 342)  (s0 : Int32) (v1 : Int32) (v2 : Int32) (N : mz_N) {C0 : (Int32) → Prop} (hr : ∀ (w : Int32), C0 w → Q (.inl (some (.int w))) (mz_k S R N b t)) (hp : cp_568_14 s0 v1 v2 N) (hC : C0 (cf_568_14 s0 v1 v2 N)) : mz_G (d, mz_X0 L xs, some .int, [], mk_568, 7, Q) 14 mt_568_14 [(0, .ref 232), (1, .int v1), (2, .int v2)] [.int s0] true (mz_k S R N b t) := by
  unfold cf_568_14 at hC
  unfold cp_568_14 at hp
  refine g_istore_n (Nat.le_of_ble_eq_true rfl) rfl (g_iload_n rfl ?_)
  refine g_ifge (tg := 23) rfl ms_568_23 hC (fun h1 hC => ?_) (fun h1 hC => ?_)
  · have hp := hp.1 h1
    refine g_iconst mzi_0 (g_goto (tg := 29) rfl ms_568_29 ?_)
    refine g_weak ?_ (cg_568_29 hd hS hR 0 v1 v2 s0 N hr hp hC)
    exact ⟨rfl, rfl, rfl, rfl, trivial⟩
  · have hp := hp.2 h1
    refine g_aload_n rfl (g_getR (mz_at hS (Nat.le_of_ble_eq_true rfl) mzcS_232) mzcf_12_81 (mz_rb hR (Nat.le_of_ble_eq_true rfl) rfl mzcR_232_81) (g_iload_n rfl ?_))
    obtain ⟨h2, hp⟩ := hp
    refine g_iald hS.1 (mz_at hS (Nat.le_of_ble_eq_true rfl) mzcS_288) h2 ?_
    refine g_weak ?_ (cg_568_29 hd hS hR (mz_gI N 288 v2) v1 v2 s0 N hr hp hC)
    exact ⟨rfl, rfl, rfl, rfl, trivial⟩
theorem cg_568_0 (hd : 1 ≤ d) (hS : mz_extR S 342) (hR : mz_rok R 342)  (v1 : Int32) (v2 : Int32) (N : mz_N) {C0 : (Int32) → Prop} (hr : ∀ (w : Int32), C0 w → Q (.inl (some (.int w))) (mz_k S R N b t)) (hp : cp_568_0 v1 v2 N) (hC : C0 (cf_568_0 v1 v2 N)) : mz_G (d, mz_X0 L xs, some .int, [], mk_568, 7, Q) 0 mk_568 [(0, .ref 232), (1, .int v1), (2, .int v2)] [] true (mz_k S R N b t) := by
  unfold cf_568_0 at hC
  unfold cp_568_0 at hp
  refine g_iload_n rfl ?_
  refine g_ifge (tg := 8) rfl ms_568_8 hC (fun h1 hC => ?_) (fun h1 hC => ?_)
  · have hp := hp.1 h1
    refine g_iconst mzi_0 (g_goto (tg := 14) rfl ms_568_14 ?_)
    refine g_weak ?_ (cg_568_14 hd hS hR 0 v1 v2 N hr hp hC)
    exact ⟨rfl, rfl, rfl, trivial⟩
  · have hp := hp.2 h1
    refine g_aload_n rfl (g_getR (mz_at hS (Nat.le_of_ble_eq_true rfl) mzcS_232) mzcf_12_81 (mz_rb hR (Nat.le_of_ble_eq_true rfl) rfl mzcR_232_81) (g_iload_n rfl ?_))
    obtain ⟨h2, hp⟩ := hp
    refine g_iald hS.1 (mz_at hS (Nat.le_of_ble_eq_true rfl) mzcS_288) h2 ?_
    refine g_weak ?_ (cg_568_14 hd hS hR (mz_gI N 288 v1) v1 v2 N hr hp hC)
    exact ⟨rfl, rfl, rfl, trivial⟩
theorem cs_568 (hd : 2 ≤ d) (hS : mz_extR S 342) (hR : mz_rok R 342)  (v1 : Int32) (v2 : Int32) (N : mz_N) (hp : cp_568_0 v1 v2 N) (hq : Q (.inl (some (.int (cf_568_0 v1 v2 N)))) (mz_k S R N b t)) : mz_Ed (mz_X0 L xs) d 568 [.ref 232, .int v1, .int v2] (mz_k S R N b t) Q :=
  by
  refine g_in mzq_568 (Nat.le_of_ble_eq_true rfl) (Nat.le_of_ble_eq_true rfl) (Nat.le_trans (Nat.le_of_ble_eq_true rfl) hd) ?_
  refine g_weak ?_ (cg_568_0 (d := d - 1) (by omega) hS hR v1 v2 N (C0 := fun z => Q (.inl (some (.int z))) (mz_k S R N b t)) (fun _ h => h) hp hq)
  exact ⟨rfl, rfl, rfl, trivial⟩
/-! 567 KeptHouseModel.wayThrough (I)I -/
theorem ms_567_0 : mz_sf mk_567 0 = mk_567 := mz_sf_zero _
theorem ms_567_7 : mz_sf mk_567 7 = mt_567_7 := mz_sf_add ms_567_0 (t := 7) rfl rfl
theorem ms_567_33 : mz_sf mk_567 33 = mt_567_33 := mz_sf_add ms_567_7 (t := 26) rfl rfl
theorem ms_567_52 : mz_sf mk_567 52 = mt_567_52 := mz_sf_add ms_567_33 (t := 19) rfl rfl
set_option maxRecDepth 100000 in
theorem mzq_567 : mz_PG0 567 = some (12, ⟨"KeptHouseModel", "wayThrough", "(I)I"⟩, prog_14_method_131_code, 5, some .int, [], mk_567, []) := rfl
theorem cb_567_7 (hd : 2 ≤ d) (hS : mz_extR S 342) (hR : mz_rok R 342)  (v1 : Int32) (N : mz_N) (s : Int32 × Int32 × Int32) {C0 : (Int32) → Prop} (hr : ∀ (w : Int32), C0 w → Q (.inl (some (.int w))) (mz_k S R N b t)) {C1 : ((Int32 × Int32 × Int32) ⊕ (Int32)) → Prop} (hc1 : ∀ s2, C1 (.inl s2) → mz_G (d, mz_X0 L xs, some .int, [], mk_567, 5, Q) 7 mt_567_7 [(0, .ref 232), (1, .int v1), (2, .int s2.1), (3, .int s2.2.1), (4, .int s2.2.2)] [] false (mz_k S R N b t)) (hx1 : ∀ z, C1 (.inr z) → C0 z) (hp : cd_567_7 v1 N s) (hC : C1 (cq_567_7 v1 N s)) : mz_G (d, mz_X0 L xs, some .int, [], mk_567, 5, Q) 7 mt_567_7 [(0, .ref 232), (1, .int v1), (2, .int s.1), (3, .int s.2.1), (4, .int s.2.2)] [] false (mz_k S R N b t) := by
  unfold cq_567_7 at hC
  unfold cd_567_7 at hp
  refine g_iload rfl (g_iload_n rfl ?_)
  refine g_icge (tg := 52) rfl ms_567_52 hC (fun h1 hC => ?_) (fun h1 hC => ?_)
  · have hp := hp.1 h1
    refine g_iload_n rfl (g_aload_n rfl (g_iload_n rfl (g_aload_n rfl (g_getR (mz_at hS (Nat.le_of_ble_eq_true rfl) mzcS_232) mzcf_12_95 (mz_rb hR (Nat.le_of_ble_eq_true rfl) rfl mzcR_232_95) (g_aload_n rfl (g_getR (mz_at hS (Nat.le_of_ble_eq_true rfl) mzcS_232) mzcf_12_93 (mz_rb hR (Nat.le_of_ble_eq_true rfl) rfl mzcR_232_93) (g_iload rfl ?_)))))))
    obtain ⟨h2, hp⟩ := hp
    refine g_iald hS.1 (mz_at hS (Nat.le_of_ble_eq_true rfl) mzcS_299) h2 ?_
    obtain ⟨h3, hp⟩ := hp
    refine g_iald hS.1 (mz_at hS (Nat.le_of_ble_eq_true rfl) mzcS_301) h3 ?_
    obtain ⟨h4, hp⟩ := hp
    refine g_v3v (Nat.le_of_ble_eq_true rfl) (mz_at hS (Nat.le_of_ble_eq_true rfl) mzcS_232) (fun _ hq => cs_568 (Nat.le_trans (Nat.le_of_ble_eq_true rfl) hd) (hS.le (Nat.le_of_ble_eq_true rfl)) (hR.le (Nat.le_of_ble_eq_true rfl))  s.2.1 (mz_gI N 301 (mz_gI N 299 s.2.2)) N h4 hq) (g_iadd (g_istore_n (Nat.le_of_ble_eq_true rfl) rfl (g_aload_n rfl (g_getR (mz_at hS (Nat.le_of_ble_eq_true rfl) mzcS_232) mzcf_12_95 (mz_rb hR (Nat.le_of_ble_eq_true rfl) rfl mzcR_232_95) (g_aload_n rfl (g_getR (mz_at hS (Nat.le_of_ble_eq_true rfl) mzcS_232) mzcf_12_93 (mz_rb hR (Nat.le_of_ble_eq_true rfl) rfl mzcR_232_93) (g_iload rfl ?_)))))))
    obtain ⟨h5, hp⟩ := hp
    refine g_iald hS.1 (mz_at hS (Nat.le_of_ble_eq_true rfl) mzcS_299) h5 ?_
    have h6 := hp
    refine g_iald hS.1 (mz_at hS (Nat.le_of_ble_eq_true rfl) mzcS_301) h6 (g_istore_n (Nat.le_of_ble_eq_true rfl) rfl (g_iinc rfl mzi_1 (Nat.le_of_ble_eq_true rfl) rfl (g_goto (tg := 7) rfl ms_567_7 ?_)))
    refine g_weak ?_ (g_cl (hc1 ((s.1 + (cf_568_0 s.2.1 (mz_gI N 301 (mz_gI N 299 s.2.2)) N)), (mz_gI N 301 (mz_gI N 299 s.2.2)), (s.2.2 + 1)) hC))
    exact ⟨rfl, rfl, rfl, rfl, rfl, trivial⟩
  · have hp := hp.2 h1
    refine g_iload_n rfl (g_aload_n rfl (g_iload_n rfl (g_iconst mzi_m1 ?_)))
    have h7 := hp
    refine g_v3v (Nat.le_of_ble_eq_true rfl) (mz_at hS (Nat.le_of_ble_eq_true rfl) mzcS_232) (fun _ hq => cs_568 (Nat.le_trans (Nat.le_of_ble_eq_true rfl) hd) (hS.le (Nat.le_of_ble_eq_true rfl)) (hR.le (Nat.le_of_ble_eq_true rfl))  s.2.1 (-1) N h7 hq) (g_iadd ?_)
    exact g_iret rfl (hr _ (hx1 _ hC))
theorem cg_567_7 (hd : 2 ≤ d) (hS : mz_extR S 342) (hR : mz_rok R 342)  (v1 : Int32) (v2 : Int32) (v3 : Int32) (v4 : Int32) (N : mz_N) {C0 : (Int32) → Prop} (hr : ∀ (w : Int32), C0 w → Q (.inl (some (.int w))) (mz_k S R N b t)) (hp : cp_567_7 v1 v2 v3 v4 N) (hC : C0 (cf_567_7 v1 v2 v3 v4 N)) : mz_G (d, mz_X0 L xs, some .int, [], mk_567, 5, Q) 7 mt_567_7 [(0, .ref 232), (1, .int v1), (2, .int v2), (3, .int v3), (4, .int v4)] [] false (mz_k S R N b t) := by
  obtain ⟨n, hn⟩ := hp
  exact g_loop (G := fun s => mz_G (d, mz_X0 L xs, some .int, [], mk_567, 5, Q) 7 mt_567_7 [(0, .ref 232), (1, .int v1), (2, .int s.1), (3, .int s.2.1), (4, .int s.2.2)] [] false (mz_k S R N b t)) (C := C0) (fun C2 hc hx s hP hC => cb_567_7 hd hS hR v1 N s hr hc hx hP hC) n (v2, v3, v4) hn hC
theorem cg_567_0 (hd : 2 ≤ d) (hS : mz_extR S 342) (hR : mz_rok R 342)  (v1 : Int32) (N : mz_N) {C0 : (Int32) → Prop} (hr : ∀ (w : Int32), C0 w → Q (.inl (some (.int w))) (mz_k S R N b t)) (hp : cp_567_0 v1 N) (hC : C0 (cf_567_0 v1 N)) : mz_G (d, mz_X0 L xs, some .int, [], mk_567, 5, Q) 0 mk_567 [(0, .ref 232), (1, .int v1)] [] true (mz_k S R N b t) := by
  unfold cf_567_0 at hC
  unfold cp_567_0 at hp
  refine g_iconst mzi_0 (g_istore_n (Nat.le_of_ble_eq_true rfl) rfl (g_iconst mzi_m1 (g_istore_n (Nat.le_of_ble_eq_true rfl) rfl (g_iconst mzi_0 (g_istore (Nat.le_of_ble_eq_true rfl) rfl ?_)))))
  refine g_weak ?_ (g_cl (cg_567_7 hd hS hR v1 0 (-1) 0 N hr hp hC))
  exact ⟨rfl, rfl, rfl, rfl, rfl, trivial⟩
theorem cs_567 (hd : 3 ≤ d) (hS : mz_extR S 342) (hR : mz_rok R 342)  (v1 : Int32) (N : mz_N) (hp : cp_567_0 v1 N) (hq : Q (.inl (some (.int (cf_567_0 v1 N)))) (mz_k S R N b t)) : mz_Ed (mz_X0 L xs) d 567 [.ref 232, .int v1] (mz_k S R N b t) Q :=
  by
  refine g_in mzq_567 (Nat.le_of_ble_eq_true rfl) (Nat.le_of_ble_eq_true rfl) (Nat.le_trans (Nat.le_of_ble_eq_true rfl) hd) ?_
  refine g_weak ?_ (cg_567_0 (d := d - 1) (by omega) hS hR v1 N (C0 := fun z => Q (.inl (some (.int z))) (mz_k S R N b t)) (fun _ h => h) hp hq)
  exact ⟨rfl, rfl, trivial⟩
/-! 570 KeptHouseModel.nextWay (I)Z -/
theorem ms_570_0 : mz_sf mk_570 0 = mk_570 := mz_sf_zero _
theorem ms_570_4 : mz_sf mk_570 4 = mt_570_4 := mz_sf_add ms_570_0 (t := 4) rfl rfl
theorem ms_570_25 : mz_sf mk_570 25 = mt_570_25 := mz_sf_add ms_570_4 (t := 21) rfl rfl
theorem ms_570_31 : mz_sf mk_570 31 = mt_570_31 := mz_sf_add ms_570_25 (t := 6) rfl rfl
theorem ms_570_37 : mz_sf mk_570 37 = mt_570_37 := mz_sf_add ms_570_31 (t := 6) rfl rfl
theorem ms_570_41 : mz_sf mk_570 41 = mt_570_41 := mz_sf_add ms_570_37 (t := 4) rfl rfl
theorem ms_570_62 : mz_sf mk_570 62 = mt_570_62 := mz_sf_add ms_570_41 (t := 21) rfl rfl
theorem ms_570_82 : mz_sf mk_570 82 = mt_570_82 := mz_sf_add ms_570_62 (t := 20) rfl rfl
theorem ms_570_100 : mz_sf mk_570 100 = mt_570_100 := mz_sf_add ms_570_82 (t := 18) rfl rfl
theorem ms_570_130 : mz_sf mk_570 130 = mt_570_130 := mz_sf_add ms_570_100 (t := 30) rfl rfl
theorem ms_570_148 : mz_sf mk_570 148 = mt_570_148 := mz_sf_add ms_570_130 (t := 18) rfl rfl
set_option maxRecDepth 100000 in
theorem mzq_570 : mz_PG0 570 = some (12, ⟨"KeptHouseModel", "nextWay", "(I)Z"⟩, prog_14_method_130_code, 7, some .boolean, [], mk_570, []) := rfl
set_option maxRecDepth 20000 in
theorem cb_570_100 (hd : 0 ≤ d) (hS : mz_extR S 342) (hR : mz_rok R 342)   (s : Int32 × Int32 × mz_N) {C0 : (Bool × mz_N) → Prop} (hr : ∀ (w : Bool) (N2 : mz_N), C0 (w, N2) → Q (.inl (some (.int (mz_b01 w)))) (mz_k S R N2 b t)) {C1 : ((Int32 × Int32 × mz_N) ⊕ (Bool × mz_N)) → Prop} (hc1 : ∀ s2, C1 (.inl s2) → mz_G (d, mz_X0 L xs, some .boolean, [], mk_570, 7, Q) 100 mt_570_100 [(0, .ref 232), (5, .int s2.1), (6, .int s2.2.1)] [] false (mz_k S R s2.2.2 b t)) (hx1 : ∀ z, C1 (.inr z) → C0 z) (hp : cd_570_100  s) (hC : C1 (cq_570_100  s)) : mz_G (d, mz_X0 L xs, some .boolean, [], mk_570, 7, Q) 100 mt_570_100 [(0, .ref 232), (5, .int s.1), (6, .int s.2.1)] [] false (mz_k S R s.2.2 b t) := by
  unfold cq_570_100 at hC
  unfold cd_570_100 at hp
  refine g_iload rfl (g_iload rfl ?_)
  refine g_icge (tg := 148) rfl ms_570_148 hC (fun h1 hC => ?_) (fun h1 hC => ?_)
  · have hp := hp.1 h1
    refine g_aload_n rfl (g_getR (mz_at hS (Nat.le_of_ble_eq_true rfl) mzcS_232) mzcf_12_93 (mz_rb hR (Nat.le_of_ble_eq_true rfl) rfl mzcR_232_93) (g_iload rfl ?_))
    obtain ⟨h2, hp⟩ := hp
    refine g_iald hS.1 (mz_at hS (Nat.le_of_ble_eq_true rfl) mzcS_299) h2 (g_istore (Nat.le_of_ble_eq_true rfl) rfl (g_aload_n rfl (g_getR (mz_at hS (Nat.le_of_ble_eq_true rfl) mzcS_232) mzcf_12_93 (mz_rb hR (Nat.le_of_ble_eq_true rfl) rfl mzcR_232_93) (g_iload rfl (g_aload_n rfl (g_getR (mz_at hS (Nat.le_of_ble_eq_true rfl) mzcS_232) mzcf_12_93 (mz_rb hR (Nat.le_of_ble_eq_true rfl) rfl mzcR_232_93) (g_iload rfl ?_)))))))
    obtain ⟨h3, hp⟩ := hp
    refine g_iald hS.1 (mz_at hS (Nat.le_of_ble_eq_true rfl) mzcS_299) h3 ?_
    obtain ⟨h4, hp⟩ := hp
    refine g_iast (mz_at hS (Nat.le_of_ble_eq_true rfl) mzcS_299) h4 (g_aload_n rfl (g_getR (mz_at hS (Nat.le_of_ble_eq_true rfl) mzcS_232) mzcf_12_93 (mz_rb hR (Nat.le_of_ble_eq_true rfl) rfl mzcR_232_93) (g_iload rfl (g_iload rfl ?_))))
    have h5 := hp
    refine g_iast (mz_at hS (Nat.le_of_ble_eq_true rfl) mzcS_299) h5 (g_iinc rfl mzi_1 (Nat.le_of_ble_eq_true rfl) rfl (g_iinc rfl mzi_m1 (Nat.le_of_ble_eq_true rfl) rfl (g_goto (tg := 100) rfl ms_570_100 ?_)))
    have hg := hc1 ((s.1 + 1), (s.2.1 + (-1)), mz_wI (mz_wI s.2.2 299 s.1 (mz_gI s.2.2 299 s.2.1)) 299 s.2.1 (mz_gI s.2.2 299 s.1)) hC
    try dsimp only at hg
    refine g_weak ?_ (g_cl hg)
    exact ⟨rfl, rfl, rfl, trivial⟩
  · have hp := hp.2 h1
    refine g_iconst mzi_1 ?_
    exact g_zret (z := true) rfl (hr _ _ (hx1 _ hC))
theorem cg_570_100 (hd : 0 ≤ d) (hS : mz_extR S 342) (hR : mz_rok R 342)  (v5 : Int32) (v6 : Int32) (N : mz_N) {C0 : (Bool × mz_N) → Prop} (hr : ∀ (w : Bool) (N2 : mz_N), C0 (w, N2) → Q (.inl (some (.int (mz_b01 w)))) (mz_k S R N2 b t)) (hp : cp_570_100 v5 v6 N) (hC : C0 (cf_570_100 v5 v6 N)) : mz_G (d, mz_X0 L xs, some .boolean, [], mk_570, 7, Q) 100 mt_570_100 [(0, .ref 232), (5, .int v5), (6, .int v6)] [] false (mz_k S R N b t) := by
  obtain ⟨n, hn⟩ := hp
  exact g_loop (G := fun s => mz_G (d, mz_X0 L xs, some .boolean, [], mk_570, 7, Q) 100 mt_570_100 [(0, .ref 232), (5, .int s.1), (6, .int s.2.1)] [] false (mz_k S R s.2.2 b t)) (C := C0) (fun C2 hc hx s hP hC => cb_570_100 hd hS hR  s hr hc hx hP hC) n (v5, v6, N) hn hC
set_option maxRecDepth 20000 in
theorem cb_570_41 (hd : 0 ≤ d) (hS : mz_extR S 342) (hR : mz_rok R 342)  (v1 : Int32) (v2 : Int32) (N : mz_N) (s : Int32) {C0 : (Bool × mz_N) → Prop} (hr : ∀ (w : Bool) (N2 : mz_N), C0 (w, N2) → Q (.inl (some (.int (mz_b01 w)))) (mz_k S R N2 b t)) {C1 : ((Int32) ⊕ (Bool × mz_N)) → Prop} (hc1 : ∀ s2, C1 (.inl s2) → mz_G (d, mz_X0 L xs, some .boolean, [], mk_570, 7, Q) 41 mt_570_41 [(0, .ref 232), (1, .int v1), (2, .int v2), (3, .int s2)] [] false (mz_k S R N b t)) (hx1 : ∀ z, C1 (.inr z) → C0 z) (hp : cd_570_41 v1 v2 N s) (hC : C1 (cq_570_41 v1 v2 N s)) : mz_G (d, mz_X0 L xs, some .boolean, [], mk_570, 7, Q) 41 mt_570_41 [(0, .ref 232), (1, .int v1), (2, .int v2), (3, .int s)] [] false (mz_k S R N b t) := by
  unfold cq_570_41 at hC
  unfold cd_570_41 at hp
  refine g_aload_n rfl (g_getR (mz_at hS (Nat.le_of_ble_eq_true rfl) mzcS_232) mzcf_12_93 (mz_rb hR (Nat.le_of_ble_eq_true rfl) rfl mzcR_232_93) (g_iload_n rfl ?_))
  obtain ⟨h1, hp⟩ := hp
  refine g_iald hS.1 (mz_at hS (Nat.le_of_ble_eq_true rfl) mzcS_299) h1 (g_aload_n rfl (g_getR (mz_at hS (Nat.le_of_ble_eq_true rfl) mzcS_232) mzcf_12_93 (mz_rb hR (Nat.le_of_ble_eq_true rfl) rfl mzcR_232_93) (g_iload_n rfl ?_)))
  obtain ⟨h2, hp⟩ := hp
  refine g_iald hS.1 (mz_at hS (Nat.le_of_ble_eq_true rfl) mzcS_299) h2 ?_
  refine g_icge (tg := 62) rfl ms_570_62 hC (fun h3 hC => ?_) (fun h3 hC => ?_)
  · have hp := hp.1 h3
    refine g_iinc rfl mzi_m1 (Nat.le_of_ble_eq_true rfl) rfl (g_goto (tg := 41) rfl ms_570_41 ?_)
    have hg := hc1 ((s + (-1))) hC
    try dsimp only at hg
    refine g_weak ?_ (g_cl hg)
    exact ⟨rfl, rfl, rfl, rfl, trivial⟩
  · have hp := hp.2 h3
    refine g_aload_n rfl (g_getR (mz_at hS (Nat.le_of_ble_eq_true rfl) mzcS_232) mzcf_12_93 (mz_rb hR (Nat.le_of_ble_eq_true rfl) rfl mzcR_232_93) (g_iload_n rfl ?_))
    obtain ⟨h4, hp⟩ := hp
    refine g_iald hS.1 (mz_at hS (Nat.le_of_ble_eq_true rfl) mzcS_299) h4 (g_istore (Nat.le_of_ble_eq_true rfl) rfl (g_aload_n rfl (g_getR (mz_at hS (Nat.le_of_ble_eq_true rfl) mzcS_232) mzcf_12_93 (mz_rb hR (Nat.le_of_ble_eq_true rfl) rfl mzcR_232_93) (g_iload_n rfl (g_aload_n rfl (g_getR (mz_at hS (Nat.le_of_ble_eq_true rfl) mzcS_232) mzcf_12_93 (mz_rb hR (Nat.le_of_ble_eq_true rfl) rfl mzcR_232_93) (g_iload_n rfl ?_)))))))
    obtain ⟨h5, hp⟩ := hp
    refine g_iald hS.1 (mz_at hS (Nat.le_of_ble_eq_true rfl) mzcS_299) h5 ?_
    obtain ⟨h6, hp⟩ := hp
    refine g_iast (mz_at hS (Nat.le_of_ble_eq_true rfl) mzcS_299) h6 (g_aload_n rfl (g_getR (mz_at hS (Nat.le_of_ble_eq_true rfl) mzcS_232) mzcf_12_93 (mz_rb hR (Nat.le_of_ble_eq_true rfl) rfl mzcR_232_93) (g_iload_n rfl (g_iload rfl ?_))))
    obtain ⟨h7, hp⟩ := hp
    refine g_iast (mz_at hS (Nat.le_of_ble_eq_true rfl) mzcS_299) h7 (g_iload_n rfl (g_iconst mzi_1 (g_iadd (g_istore (Nat.le_of_ble_eq_true rfl) rfl (g_iload_n rfl (g_iconst mzi_1 (g_isub ?_)))))))
    refine g_istore (Nat.le_of_ble_eq_true rfl) rfl ?_
    refine g_weak ?_ (g_cl (cg_570_100 hd hS hR (v2 + 1) (v1 - 1) (mz_wI (mz_wI N 299 v2 (mz_gI N 299 s)) 299 s (mz_gI N 299 v2)) hr hp (hx1 _ hC)))
    exact ⟨rfl, rfl, rfl, trivial⟩
theorem cg_570_41 (hd : 0 ≤ d) (hS : mz_extR S 342) (hR : mz_rok R 342)  (v1 : Int32) (v2 : Int32) (v3 : Int32) (N : mz_N) {C0 : (Bool × mz_N) → Prop} (hr : ∀ (w : Bool) (N2 : mz_N), C0 (w, N2) → Q (.inl (some (.int (mz_b01 w)))) (mz_k S R N2 b t)) (hp : cp_570_41 v1 v2 v3 N) (hC : C0 (cf_570_41 v1 v2 v3 N)) : mz_G (d, mz_X0 L xs, some .boolean, [], mk_570, 7, Q) 41 mt_570_41 [(0, .ref 232), (1, .int v1), (2, .int v2), (3, .int v3)] [] false (mz_k S R N b t) := by
  obtain ⟨n, hn⟩ := hp
  exact g_loop (G := fun s => mz_G (d, mz_X0 L xs, some .boolean, [], mk_570, 7, Q) 41 mt_570_41 [(0, .ref 232), (1, .int v1), (2, .int v2), (3, .int s)] [] false (mz_k S R N b t)) (C := C0) (fun C2 hc hx s hP hC => cb_570_41 hd hS hR v1 v2 N s hr hc hx hP hC) n (v3) hn hC
theorem cg_570_31 (hd : 0 ≤ d) (hS : mz_extR S 342) (hR : mz_rok R 342)  (v1 : Int32) (v2 : Int32) (N : mz_N) {C0 : (Bool × mz_N) → Prop} (hr : ∀ (w : Bool) (N2 : mz_N), C0 (w, N2) → Q (.inl (some (.int (mz_b01 w)))) (mz_k S R N2 b t)) (hp : cp_570_31 v1 v2 N) (hC : C0 (cf_570_31 v1 v2 N)) : mz_G (d, mz_X0 L xs, some .boolean, [], mk_570, 7, Q) 31 mt_570_31 [(0, .ref 232), (1, .int v1), (2, .int v2)] [] false (mz_k S R N b t) := by
  unfold cf_570_31 at hC
  unfold cp_570_31 at hp
  refine g_iload_n rfl ?_
  refine g_ifge (tg := 37) rfl ms_570_37 hC (fun h1 hC => ?_) (fun h1 hC => ?_)
  · have hp := hp.1 h1
    refine g_iconst mzi_0 ?_
    exact g_zret (z := false) rfl (hr _ _ hC)
  · have hp := hp.2 h1
    refine g_iload_n rfl (g_iconst mzi_1 (g_isub (g_istore_n (Nat.le_of_ble_eq_true rfl) rfl ?_)))
    refine g_weak ?_ (g_cl (cg_570_41 hd hS hR v1 v2 (v1 - 1) N hr hp hC))
    exact ⟨rfl, rfl, rfl, rfl, trivial⟩
set_option maxRecDepth 20000 in
theorem cb_570_4 (hd : 0 ≤ d) (hS : mz_extR S 342) (hR : mz_rok R 342)  (v1 : Int32) (N : mz_N) (s : Int32) {C0 : (Bool × mz_N) → Prop} (hr : ∀ (w : Bool) (N2 : mz_N), C0 (w, N2) → Q (.inl (some (.int (mz_b01 w)))) (mz_k S R N2 b t)) {C1 : ((Int32) ⊕ (Bool × mz_N)) → Prop} (hc1 : ∀ s2, C1 (.inl s2) → mz_G (d, mz_X0 L xs, some .boolean, [], mk_570, 7, Q) 4 mt_570_4 [(0, .ref 232), (1, .int v1), (2, .int s2)] [] false (mz_k S R N b t)) (hx1 : ∀ z, C1 (.inr z) → C0 z) (hp : cd_570_4 v1 N s) (hC : C1 (cq_570_4 v1 N s)) : mz_G (d, mz_X0 L xs, some .boolean, [], mk_570, 7, Q) 4 mt_570_4 [(0, .ref 232), (1, .int v1), (2, .int s)] [] false (mz_k S R N b t) := by
  unfold cq_570_4 at hC
  unfold cd_570_4 at hp
  refine g_iload_n rfl ?_
  refine g_iflt (tg := 31) rfl ms_570_31 hC (fun h1 hC => ?_) (fun h1 hC => ?_)
  · have hp := hp.1 h1
    refine g_weak ?_ (g_cl (cg_570_31 hd hS hR v1 s N hr hp (hx1 _ hC)))
    exact ⟨rfl, rfl, rfl, trivial⟩
  · have hp := hp.2 h1
    refine g_aload_n rfl (g_getR (mz_at hS (Nat.le_of_ble_eq_true rfl) mzcS_232) mzcf_12_93 (mz_rb hR (Nat.le_of_ble_eq_true rfl) rfl mzcR_232_93) (g_iload_n rfl ?_))
    obtain ⟨h2, hp⟩ := hp
    refine g_iald hS.1 (mz_at hS (Nat.le_of_ble_eq_true rfl) mzcS_299) h2 (g_aload_n rfl (g_getR (mz_at hS (Nat.le_of_ble_eq_true rfl) mzcS_232) mzcf_12_93 (mz_rb hR (Nat.le_of_ble_eq_true rfl) rfl mzcR_232_93) (g_iload_n rfl (g_iconst mzi_1 (g_iadd ?_)))))
    obtain ⟨h3, hp⟩ := hp
    refine g_iald hS.1 (mz_at hS (Nat.le_of_ble_eq_true rfl) mzcS_299) h3 ?_
    refine g_icle (tg := 31) rfl ms_570_31 hC (fun h4 hC => ?_) (fun h4 hC => ?_)
    · have hp := hp.1 h4
      refine g_iinc rfl mzi_m1 (Nat.le_of_ble_eq_true rfl) rfl (g_goto (tg := 4) rfl ms_570_4 ?_)
      have hg := hc1 ((s + (-1))) hC
      try dsimp only at hg
      refine g_weak ?_ (g_cl hg)
      exact ⟨rfl, rfl, rfl, trivial⟩
    · have hp := hp.2 h4
      refine g_weak ?_ (g_cl (cg_570_31 hd hS hR v1 s N hr hp (hx1 _ hC)))
      exact ⟨rfl, rfl, rfl, trivial⟩
theorem cg_570_4 (hd : 0 ≤ d) (hS : mz_extR S 342) (hR : mz_rok R 342)  (v1 : Int32) (v2 : Int32) (N : mz_N) {C0 : (Bool × mz_N) → Prop} (hr : ∀ (w : Bool) (N2 : mz_N), C0 (w, N2) → Q (.inl (some (.int (mz_b01 w)))) (mz_k S R N2 b t)) (hp : cp_570_4 v1 v2 N) (hC : C0 (cf_570_4 v1 v2 N)) : mz_G (d, mz_X0 L xs, some .boolean, [], mk_570, 7, Q) 4 mt_570_4 [(0, .ref 232), (1, .int v1), (2, .int v2)] [] false (mz_k S R N b t) := by
  obtain ⟨n, hn⟩ := hp
  exact g_loop (G := fun s => mz_G (d, mz_X0 L xs, some .boolean, [], mk_570, 7, Q) 4 mt_570_4 [(0, .ref 232), (1, .int v1), (2, .int s)] [] false (mz_k S R N b t)) (C := C0) (fun C2 hc hx s hP hC => cb_570_4 hd hS hR v1 N s hr hc hx hP hC) n (v2) hn hC
theorem cg_570_0 (hd : 0 ≤ d) (hS : mz_extR S 342) (hR : mz_rok R 342)  (v1 : Int32) (N : mz_N) {C0 : (Bool × mz_N) → Prop} (hr : ∀ (w : Bool) (N2 : mz_N), C0 (w, N2) → Q (.inl (some (.int (mz_b01 w)))) (mz_k S R N2 b t)) (hp : cp_570_0 v1 N) (hC : C0 (cf_570_0 v1 N)) : mz_G (d, mz_X0 L xs, some .boolean, [], mk_570, 7, Q) 0 mk_570 [(0, .ref 232), (1, .int v1)] [] true (mz_k S R N b t) := by
  unfold cf_570_0 at hC
  unfold cp_570_0 at hp
  refine g_iload_n rfl (g_iconst mzi_2 (g_isub (g_istore_n (Nat.le_of_ble_eq_true rfl) rfl ?_)))
  refine g_weak ?_ (g_cl (cg_570_4 hd hS hR v1 (v1 - 2) N hr hp hC))
  exact ⟨rfl, rfl, rfl, trivial⟩
theorem cs_570 (hd : 1 ≤ d) (hS : mz_extR S 342) (hR : mz_rok R 342)  (v1 : Int32) (N : mz_N) (hp : cp_570_0 v1 N) (hq : Q (.inl (some (.int (mz_b01 ((cf_570_0 v1 N).1))))) (mz_k S R ((cf_570_0 v1 N).2) b t)) : mz_Ed (mz_X0 L xs) d 570 [.ref 232, .int v1] (mz_k S R N b t) Q :=
  by
  refine g_in mzq_570 (Nat.le_of_ble_eq_true rfl) (Nat.le_of_ble_eq_true rfl) (Nat.le_trans (Nat.le_of_ble_eq_true rfl) hd) ?_
  refine g_weak ?_ (cg_570_0 (d := d - 1) (by omega) hS hR v1 N (C0 := fun z => Q (.inl (some (.int (mz_b01 z.1)))) (mz_k S R z.2 b t)) (fun _ _ h => h) hp hq)
  exact ⟨rfl, rfl, trivial⟩
/-! 565 KeptHouseModel.tour (I)I -/
theorem ms_565_0 : mz_sf mk_565 0 = mk_565 := mz_sf_zero _
theorem ms_565_25 : mz_sf mk_565 25 = mt_565_25 := mz_sf_add ms_565_0 (t := 25) rfl rfl
theorem ms_565_26 : mz_sf mk_565 26 = mt_565_26 := mz_sf_add ms_565_25 (t := 1) rfl rfl
theorem ms_565_34 : mz_sf mk_565 34 = mt_565_34 := mz_sf_add ms_565_26 (t := 8) rfl rfl
theorem ms_565_44 : mz_sf mk_565 44 = mt_565_44 := mz_sf_add ms_565_34 (t := 10) rfl rfl
theorem ms_565_90 : mz_sf mk_565 90 = mt_565_90 := mz_sf_add ms_565_44 (t := 46) rfl rfl
theorem ms_565_94 : mz_sf mk_565 94 = mt_565_94 := mz_sf_add ms_565_90 (t := 4) rfl rfl
theorem ms_565_95 : mz_sf mk_565 95 = mt_565_95 := mz_sf_add ms_565_94 (t := 1) rfl rfl
theorem ms_565_118 : mz_sf mk_565 118 = mt_565_118 := mz_sf_add ms_565_95 (t := 23) rfl rfl
theorem ms_565_135 : mz_sf mk_565 135 = mt_565_135 := mz_sf_add ms_565_118 (t := 17) rfl rfl
theorem ms_565_149 : mz_sf mk_565 149 = mt_565_149 := mz_sf_add ms_565_135 (t := 14) rfl rfl
theorem ms_565_155 : mz_sf mk_565 155 = mt_565_155 := mz_sf_add ms_565_149 (t := 6) rfl rfl
theorem ms_565_164 : mz_sf mk_565 164 = mt_565_164 := mz_sf_add ms_565_155 (t := 9) rfl rfl
theorem ms_565_187 : mz_sf mk_565 187 = mt_565_187 := mz_sf_add ms_565_164 (t := 23) rfl rfl
theorem ms_565_190 : mz_sf mk_565 190 = mt_565_190 := mz_sf_add ms_565_187 (t := 3) rfl rfl
theorem ms_565_208 : mz_sf mk_565 208 = mt_565_208 := mz_sf_add ms_565_190 (t := 18) rfl rfl
theorem ms_565_234 : mz_sf mk_565 234 = mt_565_234 := mz_sf_add ms_565_208 (t := 26) rfl rfl
theorem ms_565_240 : mz_sf mk_565 240 = mt_565_240 := mz_sf_add ms_565_234 (t := 6) rfl rfl
theorem ms_565_251 : mz_sf mk_565 251 = mt_565_251 := mz_sf_add ms_565_240 (t := 11) rfl rfl
theorem ms_565_252 : mz_sf mk_565 252 = mt_565_252 := mz_sf_add ms_565_251 (t := 1) rfl rfl
theorem ms_565_256 : mz_sf mk_565 256 = mt_565_256 := mz_sf_add ms_565_252 (t := 4) rfl rfl
theorem ms_565_268 : mz_sf mk_565 268 = mt_565_268 := mz_sf_add ms_565_256 (t := 12) rfl rfl
theorem ms_565_306 : mz_sf mk_565 306 = mt_565_306 := mz_sf_add ms_565_268 (t := 38) rfl rfl
theorem ms_565_334 : mz_sf mk_565 334 = mt_565_334 := mz_sf_add ms_565_306 (t := 28) rfl rfl
theorem ms_565_344 : mz_sf mk_565 344 = mt_565_344 := mz_sf_add ms_565_334 (t := 10) rfl rfl
theorem ms_565_375 : mz_sf mk_565 375 = mt_565_375 := mz_sf_add ms_565_344 (t := 31) rfl rfl
set_option maxRecDepth 100000 in
theorem mzq_565 : mz_PG0 565 = some (12, ⟨"KeptHouseModel", "tour", "(I)I"⟩, prog_14_method_133_code, 9, some .int, [], mk_565, []) := rfl
theorem cg_565_135 (hd : 3 ≤ d) (hS : mz_extR S 342) (hR : mz_rok R 342)  (v1 : Int32) (v2 : Int32) (v3 : Int32) (N : mz_N) {C0 : (Int32 × mz_N) → Prop} (hr : ∀ (w : Int32) (N2 : mz_N), C0 (w, N2) → Q (.inl (some (.int w))) (mz_k S R N2 b t)) {C1 : ((Int32 × Int32 × mz_N) ⊕ (Int32 × mz_N)) → Prop} (hc1 : ∀ s2, C1 (.inl s2) → mz_G (d, mz_X0 L xs, some .int, [], mk_565, 9, Q) 44 mt_565_44 [(0, .ref 232), (1, .int v1), (2, .int s2.1), (3, .int s2.2.1)] [] false (mz_k S R s2.2.2 b t)) (hx1 : ∀ z, C1 (.inr z) → C0 z) (hp : cp_565_135 v1 v2 v3 N) (hC : C1 (cf_565_135 v1 v2 v3 N)) : mz_G (d, mz_X0 L xs, some .int, [], mk_565, 9, Q) 135 mt_565_135 [(0, .ref 232), (1, .int v1), (2, .int v2), (3, .int v3)] [] false (mz_k S R N b t) := by
  unfold cf_565_135 at hC
  unfold cp_565_135 at hp
  refine g_aload_n rfl (g_aload_n rfl (g_getR (mz_at hS (Nat.le_of_ble_eq_true rfl) mzcS_232) mzcf_12_85 (mz_rb hR (Nat.le_of_ble_eq_true rfl) rfl mzcR_232_85) (g_iload_n rfl ?_)))
  obtain ⟨h1, hp⟩ := hp
  refine g_lald (mz_at hS (Nat.le_of_ble_eq_true rfl) mzcS_292) h1 ?_
  have h2 := hp
  refine g_v2v (Nat.le_of_ble_eq_true rfl) (mz_at hS (Nat.le_of_ble_eq_true rfl) mzcS_232) (fun _ hq => cs_564 (Nat.le_trans (Nat.le_of_ble_eq_true rfl) hd) (hS.le (Nat.le_of_ble_eq_true rfl)) (hR.le (Nat.le_of_ble_eq_true rfl))  (mz_gL N 292 v3) N h2 hq) (g_istore_n (Nat.le_of_ble_eq_true rfl) rfl (g_goto (tg := 44) rfl ms_565_44 ?_))
  refine g_weak ?_ (g_cl (hc1 (v2, (cf_564_0 (mz_gL N 292 v3) N), N) hC))
  exact ⟨rfl, rfl, rfl, rfl, trivial⟩
theorem cg_565_95 (hd : 3 ≤ d) (hS : mz_extR S 342) (hR : mz_rok R 342)  (s0 : Bool) (v1 : Int32) (v2 : Int32) (v3 : Int32) (N : mz_N) {C0 : (Int32 × mz_N) → Prop} (hr : ∀ (w : Int32) (N2 : mz_N), C0 (w, N2) → Q (.inl (some (.int w))) (mz_k S R N2 b t)) {C1 : ((Int32 × Int32 × mz_N) ⊕ (Int32 × mz_N)) → Prop} (hc1 : ∀ s2, C1 (.inl s2) → mz_G (d, mz_X0 L xs, some .int, [], mk_565, 9, Q) 44 mt_565_44 [(0, .ref 232), (1, .int v1), (2, .int s2.1), (3, .int s2.2.1)] [] false (mz_k S R s2.2.2 b t)) (hx1 : ∀ z, C1 (.inr z) → C0 z) (hp : cp_565_95 s0 v1 v2 v3 N) (hC : C1 (cf_565_95 s0 v1 v2 v3 N)) : mz_G (d, mz_X0 L xs, some .int, [], mk_565, 9, Q) 95 mt_565_95 [(0, .ref 232), (1, .int v1), (2, .int v2), (3, .int v3)] [.int (mz_b01 s0)] false (mz_k S R N b t) := by
  unfold cf_565_95 at hC
  unfold cp_565_95 at hp
  refine g_istore (Nat.le_of_ble_eq_true rfl) rfl (g_aload_n rfl (g_getR (mz_at hS (Nat.le_of_ble_eq_true rfl) mzcS_232) mzcf_12_86 (mz_rb hR (Nat.le_of_ble_eq_true rfl) rfl mzcR_232_86) (g_iload_n rfl ?_)))
  obtain ⟨h1, hp⟩ := hp
  refine g_iald hS.1 (mz_at hS (Nat.le_of_ble_eq_true rfl) mzcS_293) h1 ?_
  refine g_ifge (tg := 135) rfl ms_565_135 hC (fun h2 hC => ?_) (fun h2 hC => ?_)
  · have hp := hp.1 h2
    refine g_iload rfl ?_
    refine g_zeq (tg := 135) rfl ms_565_135 hC (fun h3 hC => ?_) (fun h3 hC => ?_)
    · have hp := hp.1 h3
      refine g_aload_n rfl (g_getR (mz_at hS (Nat.le_of_ble_eq_true rfl) mzcS_232) mzcf_12_86 (mz_rb hR (Nat.le_of_ble_eq_true rfl) rfl mzcR_232_86) (g_iload_n rfl (g_iload_n rfl ?_)))
      obtain ⟨h4, hp⟩ := hp
      refine g_iast (mz_at hS (Nat.le_of_ble_eq_true rfl) mzcS_293) h4 (g_aload_n rfl (g_getR (mz_at hS (Nat.le_of_ble_eq_true rfl) mzcS_232) mzcf_12_95 (mz_rb hR (Nat.le_of_ble_eq_true rfl) rfl mzcR_232_95) (g_iload_n rfl (g_iload_n rfl ?_))))
      obtain ⟨h5, hp⟩ := hp
      refine g_iast (mz_at hS (Nat.le_of_ble_eq_true rfl) mzcS_301) h5 (g_aload_n rfl (g_getR (mz_at hS (Nat.le_of_ble_eq_true rfl) mzcS_232) mzcf_12_93 (mz_rb hR (Nat.le_of_ble_eq_true rfl) rfl mzcR_232_93) (g_iload_n rfl (g_iload_n rfl ?_))))
      obtain ⟨h6, hp⟩ := hp
      refine g_iast (mz_at hS (Nat.le_of_ble_eq_true rfl) mzcS_299) h6 (g_iinc rfl mzi_1 (Nat.le_of_ble_eq_true rfl) rfl ?_)
      refine g_weak ?_ (g_cl (cg_565_135 hd hS hR v1 (v2 + 1) v3 (mz_wI (mz_wI (mz_wI N 293 v3 v1) 301 v2 v3) 299 v2 v2) hr hc1 hx1 hp hC))
      exact ⟨rfl, rfl, rfl, rfl, trivial⟩
    · have hp := hp.2 h3
      refine g_weak ?_ (g_cl (cg_565_135 hd hS hR v1 v2 v3 N hr hc1 hx1 hp hC))
      exact ⟨rfl, rfl, rfl, rfl, trivial⟩
  · have hp := hp.2 h2
    refine g_weak ?_ (g_cl (cg_565_135 hd hS hR v1 v2 v3 N hr hc1 hx1 hp hC))
    exact ⟨rfl, rfl, rfl, rfl, trivial⟩
theorem cg_565_90 (hd : 3 ≤ d) (hS : mz_extR S 342) (hR : mz_rok R 342)  (v1 : Int32) (v2 : Int32) (v3 : Int32) (N : mz_N) {C0 : (Int32 × mz_N) → Prop} (hr : ∀ (w : Int32) (N2 : mz_N), C0 (w, N2) → Q (.inl (some (.int w))) (mz_k S R N2 b t)) {C1 : ((Int32 × Int32 × mz_N) ⊕ (Int32 × mz_N)) → Prop} (hc1 : ∀ s2, C1 (.inl s2) → mz_G (d, mz_X0 L xs, some .int, [], mk_565, 9, Q) 44 mt_565_44 [(0, .ref 232), (1, .int v1), (2, .int s2.1), (3, .int s2.2.1)] [] false (mz_k S R s2.2.2 b t)) (hx1 : ∀ z, C1 (.inr z) → C0 z) (hp : cp_565_90 v1 v2 v3 N) (hC : C1 (cf_565_90 v1 v2 v3 N)) : mz_G (d, mz_X0 L xs, some .int, [], mk_565, 9, Q) 90 mt_565_90 [(0, .ref 232), (1, .int v1), (2, .int v2), (3, .int v3)] [] false (mz_k S R N b t) := by
  unfold cf_565_90 at hC
  unfold cp_565_90 at hp
  refine g_iconst mzi_1 (g_goto (tg := 95) rfl ms_565_95 ?_)
  refine g_weak ?_ (g_cl (cg_565_95 hd hS hR true v1 v2 v3 N hr hc1 hx1 hp hC))
  exact ⟨rfl, rfl, rfl, rfl, trivial⟩
theorem cg_565_252 (hd : 3 ≤ d) (hS : mz_extR S 342) (hR : mz_rok R 342)  (s0 : Int32) (v1 : Int32) (v2 : Int32) (N : mz_N) {C0 : (Int32 × mz_N) → Prop} (hr : ∀ (w : Int32) (N2 : mz_N), C0 (w, N2) → Q (.inl (some (.int w))) (mz_k S R N2 b t)) {C1 : ((Int32 × mz_N) ⊕ (Int32 × mz_N)) → Prop} (hc1 : ∀ s2, C1 (.inl s2) → mz_G (d, mz_X0 L xs, some .int, [], mk_565, 9, Q) 190 mt_565_190 [(0, .ref 232), (1, .int v1), (2, .int v2), (3, .int s2.1)] [] false (mz_k S R s2.2 b t)) (hx1 : ∀ z, C1 (.inr z) → C0 z) (hp : cp_565_252 s0 v1 v2 N) (hC : C1 (cf_565_252 s0 v1 v2 N)) : mz_G (d, mz_X0 L xs, some .int, [], mk_565, 9, Q) 252 mt_565_252 [(0, .ref 232), (1, .int v1), (2, .int v2)] [.int s0] false (mz_k S R N b t) := by
  unfold cf_565_252 at hC
  unfold cp_565_252 at hp
  refine g_istore_n (Nat.le_of_ble_eq_true rfl) rfl (g_goto (tg := 190) rfl ms_565_190 ?_)
  refine g_weak ?_ (g_cl (hc1 (s0, N) hC))
  exact ⟨rfl, rfl, rfl, rfl, trivial⟩
theorem cg_565_240 (hd : 3 ≤ d) (hS : mz_extR S 342) (hR : mz_rok R 342)  (v1 : Int32) (v2 : Int32) (v3 : Int32) (v4 : Int32) (N : mz_N) {C0 : (Int32 × mz_N) → Prop} (hr : ∀ (w : Int32) (N2 : mz_N), C0 (w, N2) → Q (.inl (some (.int w))) (mz_k S R N2 b t)) {C1 : ((Int32 × mz_N) ⊕ (Int32 × mz_N)) → Prop} (hc1 : ∀ s2, C1 (.inl s2) → mz_G (d, mz_X0 L xs, some .int, [], mk_565, 9, Q) 190 mt_565_190 [(0, .ref 232), (1, .int v1), (2, .int v2), (3, .int s2.1)] [] false (mz_k S R s2.2 b t)) (hx1 : ∀ z, C1 (.inr z) → C0 z) (hp : cp_565_240 v1 v2 v3 v4 N) (hC : C1 (cf_565_240 v1 v2 v3 v4 N)) : mz_G (d, mz_X0 L xs, some .int, [], mk_565, 9, Q) 240 mt_565_240 [(0, .ref 232), (1, .int v1), (2, .int v2), (3, .int v3), (4, .int v4)] [] false (mz_k S R N b t) := by
  unfold cf_565_240 at hC
  unfold cp_565_240 at hp
  refine g_iload rfl (g_iload_n rfl ?_)
  refine g_icge (tg := 251) rfl ms_565_251 hC (fun h1 hC => ?_) (fun h1 hC => ?_)
  · have hp := hp.1 h1
    refine g_iload rfl (g_goto (tg := 252) rfl ms_565_252 ?_)
    refine g_weak ?_ (g_cl (cg_565_252 hd hS hR v4 v1 v2 N hr hc1 hx1 hp hC))
    exact ⟨rfl, rfl, rfl, trivial⟩
  · have hp := hp.2 h1
    refine g_iload_n rfl ?_
    refine g_weak ?_ (g_cl (cg_565_252 hd hS hR v3 v1 v2 N hr hc1 hx1 hp hC))
    exact ⟨rfl, rfl, rfl, trivial⟩
theorem cb_565_208 (hd : 3 ≤ d) (hS : mz_extR S 342) (hR : mz_rok R 342)  (v1 : Int32) (v2 : Int32) (v3 : Int32) (v4 : Int32) (s : Int32 × mz_N) {C0 : (Int32 × mz_N) → Prop} (hr : ∀ (w : Int32) (N2 : mz_N), C0 (w, N2) → Q (.inl (some (.int w))) (mz_k S R N2 b t)) {C1 : ((Int32 × mz_N) ⊕ (Int32 × mz_N)) → Prop} (hc1 : ∀ s2, C1 (.inl s2) → mz_G (d, mz_X0 L xs, some .int, [], mk_565, 9, Q) 190 mt_565_190 [(0, .ref 232), (1, .int v1), (2, .int v2), (3, .int s2.1)] [] false (mz_k S R s2.2 b t)) (hx1 : ∀ z, C1 (.inr z) → C0 z) {C2 : ((Int32 × mz_N) ⊕ ((Int32 × mz_N) ⊕ (Int32 × mz_N))) → Prop} (hc2 : ∀ s2, C2 (.inl s2) → mz_G (d, mz_X0 L xs, some .int, [], mk_565, 9, Q) 208 mt_565_208 [(0, .ref 232), (1, .int v1), (2, .int v2), (3, .int v3), (4, .int v4), (5, .int s2.1)] [] false (mz_k S R s2.2 b t)) (hx2 : ∀ z, C2 (.inr z) → C1 z) (hp : cd_565_208 v1 v2 v3 v4 s) (hC : C2 (cq_565_208 v1 v2 v3 v4 s)) : mz_G (d, mz_X0 L xs, some .int, [], mk_565, 9, Q) 208 mt_565_208 [(0, .ref 232), (1, .int v1), (2, .int v2), (3, .int v3), (4, .int v4), (5, .int s.1)] [] false (mz_k S R s.2 b t) := by
  unfold cq_565_208 at hC
  unfold cd_565_208 at hp
  refine g_iload rfl (g_iload_n rfl ?_)
  refine g_icge (tg := 240) rfl ms_565_240 hC (fun h1 hC => ?_) (fun h1 hC => ?_)
  · have hp := hp.1 h1
    refine g_iload rfl (g_iload_n rfl ?_)
    refine g_icge (tg := 240) rfl ms_565_240 hC (fun h2 hC => ?_) (fun h2 hC => ?_)
    · have hp := hp.1 h2
      refine g_aload_n rfl (g_getR (mz_at hS (Nat.le_of_ble_eq_true rfl) mzcS_232) mzcf_12_94 (mz_rb hR (Nat.le_of_ble_eq_true rfl) rfl mzcR_232_94) (g_iload rfl (g_aload_n rfl (g_getR (mz_at hS (Nat.le_of_ble_eq_true rfl) mzcS_232) mzcf_12_93 (mz_rb hR (Nat.le_of_ble_eq_true rfl) rfl mzcR_232_93) (g_iload rfl ?_)))))
      obtain ⟨h3, hp⟩ := hp
      refine g_iald hS.1 (mz_at hS (Nat.le_of_ble_eq_true rfl) mzcS_299) h3 ?_
      have h4 := hp
      refine g_iast (mz_at hS (Nat.le_of_ble_eq_true rfl) mzcS_300) h4 (g_iinc rfl mzi_1 (Nat.le_of_ble_eq_true rfl) rfl (g_goto (tg := 208) rfl ms_565_208 ?_))
      refine g_weak ?_ (g_cl (hc2 ((s.1 + 1), mz_wI s.2 300 s.1 (mz_gI s.2 299 s.1)) hC))
      exact ⟨rfl, rfl, rfl, rfl, rfl, rfl, trivial⟩
    · have hp := hp.2 h2
      refine g_weak ?_ (g_cl (cg_565_240 hd hS hR v1 v2 v3 v4 s.2 hr hc1 hx1 hp (hx2 _ hC)))
      exact ⟨rfl, rfl, rfl, rfl, rfl, trivial⟩
  · have hp := hp.2 h1
    refine g_weak ?_ (g_cl (cg_565_240 hd hS hR v1 v2 v3 v4 s.2 hr hc1 hx1 hp (hx2 _ hC)))
    exact ⟨rfl, rfl, rfl, rfl, rfl, trivial⟩
theorem cg_565_208 (hd : 3 ≤ d) (hS : mz_extR S 342) (hR : mz_rok R 342)  (v1 : Int32) (v2 : Int32) (v3 : Int32) (v4 : Int32) (v5 : Int32) (N : mz_N) {C0 : (Int32 × mz_N) → Prop} (hr : ∀ (w : Int32) (N2 : mz_N), C0 (w, N2) → Q (.inl (some (.int w))) (mz_k S R N2 b t)) {C1 : ((Int32 × mz_N) ⊕ (Int32 × mz_N)) → Prop} (hc1 : ∀ s2, C1 (.inl s2) → mz_G (d, mz_X0 L xs, some .int, [], mk_565, 9, Q) 190 mt_565_190 [(0, .ref 232), (1, .int v1), (2, .int v2), (3, .int s2.1)] [] false (mz_k S R s2.2 b t)) (hx1 : ∀ z, C1 (.inr z) → C0 z) (hp : cp_565_208 v1 v2 v3 v4 v5 N) (hC : C1 (cf_565_208 v1 v2 v3 v4 v5 N)) : mz_G (d, mz_X0 L xs, some .int, [], mk_565, 9, Q) 208 mt_565_208 [(0, .ref 232), (1, .int v1), (2, .int v2), (3, .int v3), (4, .int v4), (5, .int v5)] [] false (mz_k S R N b t) := by
  obtain ⟨n, hn⟩ := hp
  exact g_loop (G := fun s => mz_G (d, mz_X0 L xs, some .int, [], mk_565, 9, Q) 208 mt_565_208 [(0, .ref 232), (1, .int v1), (2, .int v2), (3, .int v3), (4, .int v4), (5, .int s.1)] [] false (mz_k S R s.2 b t)) (C := C1) (fun C2 hc hx s hP hC => cb_565_208 hd hS hR v1 v2 v3 v4 s hr hc1 hx1 hc hx hP hC) n (v5, N) hn hC
theorem cg_565_334 (hd : 3 ≤ d) (hS : mz_extR S 342) (hR : mz_rok R 342)  (v1 : Int32) (v2 : Int32) (v4 : Int64) (v7 : Int32) (v8 : Int32) (N : mz_N) {C0 : (Int32 × mz_N) → Prop} (hr : ∀ (w : Int32) (N2 : mz_N), C0 (w, N2) → Q (.inl (some (.int w))) (mz_k S R N2 b t)) {C1 : ((Int64 × Int32 × Int32 × mz_N) ⊕ (Int32 × mz_N)) → Prop} (hc1 : ∀ s2, C1 (.inl s2) → mz_G (d, mz_X0 L xs, some .int, [], mk_565, 9, Q) 268 mt_565_268 [(0, .ref 232), (1, .int v1), (2, .int v2), (4, .long s2.1), (6, .int s2.2.1), (7, .int s2.2.2.1)] [] false (mz_k S R s2.2.2.2 b t)) (hx1 : ∀ z, C1 (.inr z) → C0 z) (hp : cp_565_334 v1 v2 v4 v7 v8 N) (hC : C1 (cf_565_334 v1 v2 v4 v7 v8 N)) : mz_G (d, mz_X0 L xs, some .int, [], mk_565, 9, Q) 334 mt_565_334 [(0, .ref 232), (1, .int v1), (2, .int v2), (4, .long v4), (7, .int v7), (8, .int v8)] [] false (mz_k S R N b t) := by
  unfold cf_565_334 at hC
  unfold cp_565_334 at hp
  refine g_iload rfl (g_istore (Nat.le_of_ble_eq_true rfl) rfl (g_iinc rfl mzi_1 (Nat.le_of_ble_eq_true rfl) rfl (g_goto (tg := 268) rfl ms_565_268 ?_)))
  refine g_weak ?_ (g_cl (hc1 (v4, v8, (v7 + 1), N) hC))
  exact ⟨rfl, rfl, rfl, rfl, rfl, rfl, trivial⟩
theorem cg_565_375 (hd : 3 ≤ d) (hS : mz_extR S 342) (hR : mz_rok R 342)  (v2 : Int32) (N : mz_N) {C0 : (Int32 × mz_N) → Prop} (hr : ∀ (w : Int32) (N2 : mz_N), C0 (w, N2) → Q (.inl (some (.int w))) (mz_k S R N2 b t)) (hp : cp_565_375 v2 N) (hC : C0 (cf_565_375 v2 N)) : mz_G (d, mz_X0 L xs, some .int, [], mk_565, 9, Q) 375 mt_565_375 [(2, .int v2)] [] false (mz_k S R N b t) := by
  unfold cf_565_375 at hC
  unfold cp_565_375 at hp
  refine g_iload_n rfl ?_
  exact g_iret rfl (hr _ _ hC)
theorem cb_565_268 (hd : 3 ≤ d) (hS : mz_extR S 342) (hR : mz_rok R 342)  (v1 : Int32) (v2 : Int32) (s : Int64 × Int32 × Int32 × mz_N) {C0 : (Int32 × mz_N) → Prop} (hr : ∀ (w : Int32) (N2 : mz_N), C0 (w, N2) → Q (.inl (some (.int w))) (mz_k S R N2 b t)) {C1 : ((Int64 × Int32 × Int32 × mz_N) ⊕ (Int32 × mz_N)) → Prop} (hc1 : ∀ s2, C1 (.inl s2) → mz_G (d, mz_X0 L xs, some .int, [], mk_565, 9, Q) 268 mt_565_268 [(0, .ref 232), (1, .int v1), (2, .int v2), (4, .long s2.1), (6, .int s2.2.1), (7, .int s2.2.2.1)] [] false (mz_k S R s2.2.2.2 b t)) (hx1 : ∀ z, C1 (.inr z) → C0 z) (hp : cd_565_268 v1 v2 s) (hC : C1 (cq_565_268 v1 v2 s)) : mz_G (d, mz_X0 L xs, some .int, [], mk_565, 9, Q) 268 mt_565_268 [(0, .ref 232), (1, .int v1), (2, .int v2), (4, .long s.1), (6, .int s.2.1), (7, .int s.2.2.1)] [] false (mz_k S R s.2.2.2 b t) := by
  unfold cq_565_268 at hC
  unfold cd_565_268 at hp
  refine g_iload rfl (g_iload_n rfl ?_)
  refine g_icge (tg := 344) rfl ms_565_344 hC (fun h1 hC => ?_) (fun h1 hC => ?_)
  · have hp := hp.1 h1
    refine g_aload_n rfl (g_getR (mz_at hS (Nat.le_of_ble_eq_true rfl) mzcS_232) mzcf_12_95 (mz_rb hR (Nat.le_of_ble_eq_true rfl) rfl mzcR_232_95) (g_aload_n rfl (g_getR (mz_at hS (Nat.le_of_ble_eq_true rfl) mzcS_232) mzcf_12_94 (mz_rb hR (Nat.le_of_ble_eq_true rfl) rfl mzcR_232_94) (g_iload rfl ?_))))
    obtain ⟨h2, hp⟩ := hp
    refine g_iald hS.1 (mz_at hS (Nat.le_of_ble_eq_true rfl) mzcS_300) h2 ?_
    obtain ⟨h3, hp⟩ := hp
    refine g_iald hS.1 (mz_at hS (Nat.le_of_ble_eq_true rfl) mzcS_301) h3 (g_istore (Nat.le_of_ble_eq_true rfl) rfl (g_lload rfl (g_aload_n rfl (g_iload rfl (g_iload rfl ?_)))))
    obtain ⟨h4, hp⟩ := hp
    refine g_v3v (Nat.le_of_ble_eq_true rfl) (mz_at hS (Nat.le_of_ble_eq_true rfl) mzcS_232) (fun _ hq => cs_568 (Nat.le_trans (Nat.le_of_ble_eq_true rfl) hd) (hS.le (Nat.le_of_ble_eq_true rfl)) (hR.le (Nat.le_of_ble_eq_true rfl))  s.2.1 (mz_gI s.2.2.2 301 (mz_gI s.2.2.2 300 s.2.2.1)) s.2.2.2 h4 hq) (g_i2l (g_con3 (g_ladd (g_ladd (g_lstore (Nat.le_of_ble_eq_true rfl) rfl rfl (g_aload_n rfl (g_getR (mz_at hS (Nat.le_of_ble_eq_true rfl) mzcS_232) mzcf_12_88 (mz_rb hR (Nat.le_of_ble_eq_true rfl) rfl mzcR_232_88) ?_)))))))
    refine g_bipush mzb_6 (g_iload_n rfl (g_imul (g_iload rfl (g_iadd (g_iload rfl ?_)))))
    obtain ⟨h5, hp⟩ := hp
    refine g_iast (mz_at hS (Nat.le_of_ble_eq_true rfl) mzcS_294) h5 (g_aload_n rfl (g_getR (mz_at hS (Nat.le_of_ble_eq_true rfl) mzcS_232) mzcf_12_89 (mz_rb hR (Nat.le_of_ble_eq_true rfl) rfl mzcR_232_89) (g_bipush mzb_6 (g_iload_n rfl (g_imul (g_iload rfl (g_iadd ?_)))))))
    refine g_lload rfl ?_
    obtain ⟨h6, hp⟩ := hp
    refine g_last (mz_at hS (Nat.le_of_ble_eq_true rfl) mzcS_295) h6 ?_
    refine g_weak ?_ (g_cl (cg_565_334 hd hS hR v1 v2 (s.1 + (((cf_568_0 s.2.1 (mz_gI s.2.2.2 301 (mz_gI s.2.2.2 300 s.2.2.1)) s.2.2.2).toInt64) + 15)) s.2.2.1 (mz_gI s.2.2.2 301 (mz_gI s.2.2.2 300 s.2.2.1)) (mz_wL (mz_wI s.2.2.2 294 ((6 * v1) + s.2.2.1) (mz_gI s.2.2.2 301 (mz_gI s.2.2.2 300 s.2.2.1))) 295 ((6 * v1) + s.2.2.1) (s.1 + (((cf_568_0 s.2.1 (mz_gI s.2.2.2 301 (mz_gI s.2.2.2 300 s.2.2.1)) s.2.2.2).toInt64) + 15))) hr hc1 hx1 hp hC))
    exact ⟨rfl, rfl, rfl, rfl, rfl, rfl, trivial⟩
  · have hp := hp.2 h1
    refine g_aload_n rfl (g_getR (mz_at hS (Nat.le_of_ble_eq_true rfl) mzcS_232) mzcf_12_90 (mz_rb hR (Nat.le_of_ble_eq_true rfl) rfl mzcR_232_90) (g_iload_n rfl (g_iload_n rfl ?_)))
    obtain ⟨h7, hp⟩ := hp
    refine g_iast (mz_at hS (Nat.le_of_ble_eq_true rfl) mzcS_296) h7 (g_aload_n rfl (g_getR (mz_at hS (Nat.le_of_ble_eq_true rfl) mzcS_232) mzcf_12_91 (mz_rb hR (Nat.le_of_ble_eq_true rfl) rfl mzcR_232_91) (g_iload_n rfl (g_iconst mzi_0 ?_))))
    obtain ⟨h8, hp⟩ := hp
    refine g_iast (mz_at hS (Nat.le_of_ble_eq_true rfl) mzcS_297) h8 (g_aload_n rfl (g_getR (mz_at hS (Nat.le_of_ble_eq_true rfl) mzcS_232) mzcf_12_92 (mz_rb hR (Nat.le_of_ble_eq_true rfl) rfl mzcR_232_92) (g_iload_n rfl (g_lload rfl (g_aload_n rfl (g_iload rfl (g_iconst mzi_m1 ?_)))))))
    obtain ⟨h9, hp⟩ := hp
    refine g_v3v (Nat.le_of_ble_eq_true rfl) (mz_at hS (Nat.le_of_ble_eq_true rfl) mzcS_232) (fun _ hq => cs_568 (Nat.le_trans (Nat.le_of_ble_eq_true rfl) hd) (hS.le (Nat.le_of_ble_eq_true rfl)) (hR.le (Nat.le_of_ble_eq_true rfl))  s.2.1 (-1) (mz_wI (mz_wI s.2.2.2 296 v1 v2) 297 v1 0) h9 hq) (g_i2l (g_ladd ?_))
    obtain ⟨h10, hp⟩ := hp
    refine g_last (mz_at hS (Nat.le_of_ble_eq_true rfl) mzcS_298) h10 ?_
    refine g_weak ?_ (g_cl (cg_565_375 hd hS hR v2 (mz_wL (mz_wI (mz_wI s.2.2.2 296 v1 v2) 297 v1 0) 298 v1 (s.1 + ((cf_568_0 s.2.1 (-1) (mz_wI (mz_wI s.2.2.2 296 v1 v2) 297 v1 0)).toInt64))) hr hp (hx1 _ hC)))
    exact ⟨rfl, trivial⟩
theorem cg_565_268 (hd : 3 ≤ d) (hS : mz_extR S 342) (hR : mz_rok R 342)  (v1 : Int32) (v2 : Int32) (v4 : Int64) (v6 : Int32) (v7 : Int32) (N : mz_N) {C0 : (Int32 × mz_N) → Prop} (hr : ∀ (w : Int32) (N2 : mz_N), C0 (w, N2) → Q (.inl (some (.int w))) (mz_k S R N2 b t)) (hp : cp_565_268 v1 v2 v4 v6 v7 N) (hC : C0 (cf_565_268 v1 v2 v4 v6 v7 N)) : mz_G (d, mz_X0 L xs, some .int, [], mk_565, 9, Q) 268 mt_565_268 [(0, .ref 232), (1, .int v1), (2, .int v2), (4, .long v4), (6, .int v6), (7, .int v7)] [] false (mz_k S R N b t) := by
  obtain ⟨n, hn⟩ := hp
  exact g_loop (G := fun s => mz_G (d, mz_X0 L xs, some .int, [], mk_565, 9, Q) 268 mt_565_268 [(0, .ref 232), (1, .int v1), (2, .int v2), (4, .long s.1), (6, .int s.2.1), (7, .int s.2.2.1)] [] false (mz_k S R s.2.2.2 b t)) (C := C0) (fun C2 hc hx s hP hC => cb_565_268 hd hS hR v1 v2 s hr hc hx hP hC) n (v4, v6, v7, N) hn hC
theorem cb_565_190 (hd : 3 ≤ d) (hS : mz_extR S 342) (hR : mz_rok R 342)  (v1 : Int32) (v2 : Int32) (s : Int32 × mz_N) {C0 : (Int32 × mz_N) → Prop} (hr : ∀ (w : Int32) (N2 : mz_N), C0 (w, N2) → Q (.inl (some (.int w))) (mz_k S R N2 b t)) {C1 : ((Int32 × mz_N) ⊕ (Int32 × mz_N)) → Prop} (hc1 : ∀ s2, C1 (.inl s2) → mz_G (d, mz_X0 L xs, some .int, [], mk_565, 9, Q) 190 mt_565_190 [(0, .ref 232), (1, .int v1), (2, .int v2), (3, .int s2.1)] [] false (mz_k S R s2.2 b t)) (hx1 : ∀ z, C1 (.inr z) → C0 z) (hp : cd_565_190 v1 v2 s) (hC : C1 (cq_565_190 v1 v2 s)) : mz_G (d, mz_X0 L xs, some .int, [], mk_565, 9, Q) 190 mt_565_190 [(0, .ref 232), (1, .int v1), (2, .int v2), (3, .int s.1)] [] false (mz_k S R s.2 b t) := by
  unfold cq_565_190 at hC
  unfold cd_565_190 at hp
  refine g_aload_n rfl (g_iload_n rfl ?_)
  obtain ⟨h1, hp⟩ := hp
  refine g_v2v (Nat.le_of_ble_eq_true rfl) (mz_at hS (Nat.le_of_ble_eq_true rfl) mzcS_232) (fun _ hq => cs_570 (Nat.le_trans (Nat.le_of_ble_eq_true rfl) hd) (hS.le (Nat.le_of_ble_eq_true rfl)) (hR.le (Nat.le_of_ble_eq_true rfl))  v2 s.2 h1 hq) ?_
  refine g_zeq (tg := 256) rfl ms_565_256 hC (fun h2 hC => ?_) (fun h2 hC => ?_)
  · have hp := hp.1 h2
    refine g_aload_n rfl (g_iload_n rfl ?_)
    obtain ⟨h3, hp⟩ := hp
    refine g_v2v (Nat.le_of_ble_eq_true rfl) (mz_at hS (Nat.le_of_ble_eq_true rfl) mzcS_232) (fun _ hq => cs_567 (Nat.le_trans (Nat.le_of_ble_eq_true rfl) hd) (hS.le (Nat.le_of_ble_eq_true rfl)) (hR.le (Nat.le_of_ble_eq_true rfl))  v2 ((cf_570_0 v2 s.2).2) h3 hq) (g_istore (Nat.le_of_ble_eq_true rfl) rfl (g_iconst mzi_0 (g_istore (Nat.le_of_ble_eq_true rfl) rfl ?_)))
    refine g_weak ?_ (g_cl (cg_565_208 hd hS hR v1 v2 s.1 (cf_567_0 v2 ((cf_570_0 v2 s.2).2)) 0 ((cf_570_0 v2 s.2).2) hr hc1 hx1 hp hC))
    exact ⟨rfl, rfl, rfl, rfl, rfl, rfl, trivial⟩
  · have hp := hp.2 h2
    refine g_aload_n rfl (g_getL (mz_at hS (Nat.le_of_ble_eq_true rfl) mzcS_232) mzcf_12_2 (g_lstore (Nat.le_of_ble_eq_true rfl) rfl rfl (g_iconst mzi_m1 (g_istore (Nat.le_of_ble_eq_true rfl) rfl (g_iconst mzi_0 (g_istore (Nat.le_of_ble_eq_true rfl) rfl ?_))))))
    refine g_weak ?_ (g_cl (cg_565_268 hd hS hR v1 v2 (((cf_570_0 v2 s.2).2).2 232 2) (-1) 0 ((cf_570_0 v2 s.2).2) hr hp (hx1 _ hC)))
    exact ⟨rfl, rfl, rfl, rfl, rfl, rfl, trivial⟩
theorem cg_565_190 (hd : 3 ≤ d) (hS : mz_extR S 342) (hR : mz_rok R 342)  (v1 : Int32) (v2 : Int32) (v3 : Int32) (N : mz_N) {C0 : (Int32 × mz_N) → Prop} (hr : ∀ (w : Int32) (N2 : mz_N), C0 (w, N2) → Q (.inl (some (.int w))) (mz_k S R N2 b t)) (hp : cp_565_190 v1 v2 v3 N) (hC : C0 (cf_565_190 v1 v2 v3 N)) : mz_G (d, mz_X0 L xs, some .int, [], mk_565, 9, Q) 190 mt_565_190 [(0, .ref 232), (1, .int v1), (2, .int v2), (3, .int v3)] [] false (mz_k S R N b t) := by
  obtain ⟨n, hn⟩ := hp
  exact g_loop (G := fun s => mz_G (d, mz_X0 L xs, some .int, [], mk_565, 9, Q) 190 mt_565_190 [(0, .ref 232), (1, .int v1), (2, .int v2), (3, .int s.1)] [] false (mz_k S R s.2 b t)) (C := C0) (fun C2 hc hx s hP hC => cb_565_190 hd hS hR v1 v2 s hr hc hx hP hC) n (v3, N) hn hC
theorem cb_565_164 (hd : 3 ≤ d) (hS : mz_extR S 342) (hR : mz_rok R 342)  (v1 : Int32) (v2 : Int32) (v3 : Int32) (s : Int32 × mz_N) {C0 : (Int32 × mz_N) → Prop} (hr : ∀ (w : Int32) (N2 : mz_N), C0 (w, N2) → Q (.inl (some (.int w))) (mz_k S R N2 b t)) {C1 : ((Int32 × mz_N) ⊕ (Int32 × mz_N)) → Prop} (hc1 : ∀ s2, C1 (.inl s2) → mz_G (d, mz_X0 L xs, some .int, [], mk_565, 9, Q) 164 mt_565_164 [(0, .ref 232), (1, .int v1), (2, .int v2), (3, .int v3), (4, .int s2.1)] [] false (mz_k S R s2.2 b t)) (hx1 : ∀ z, C1 (.inr z) → C0 z) (hp : cd_565_164 v1 v2 v3 s) (hC : C1 (cq_565_164 v1 v2 v3 s)) : mz_G (d, mz_X0 L xs, some .int, [], mk_565, 9, Q) 164 mt_565_164 [(0, .ref 232), (1, .int v1), (2, .int v2), (3, .int v3), (4, .int s.1)] [] false (mz_k S R s.2 b t) := by
  unfold cq_565_164 at hC
  unfold cd_565_164 at hp
  refine g_iload rfl (g_iload_n rfl ?_)
  refine g_icge (tg := 190) rfl ms_565_190 hC (fun h1 hC => ?_) (fun h1 hC => ?_)
  · have hp := hp.1 h1
    refine g_aload_n rfl (g_getR (mz_at hS (Nat.le_of_ble_eq_true rfl) mzcS_232) mzcf_12_94 (mz_rb hR (Nat.le_of_ble_eq_true rfl) rfl mzcR_232_94) (g_iload rfl (g_aload_n rfl (g_getR (mz_at hS (Nat.le_of_ble_eq_true rfl) mzcS_232) mzcf_12_93 (mz_rb hR (Nat.le_of_ble_eq_true rfl) rfl mzcR_232_93) (g_iload rfl ?_)))))
    obtain ⟨h2, hp⟩ := hp
    refine g_iald hS.1 (mz_at hS (Nat.le_of_ble_eq_true rfl) mzcS_299) h2 ?_
    have h3 := hp
    refine g_iast (mz_at hS (Nat.le_of_ble_eq_true rfl) mzcS_300) h3 (g_iinc rfl mzi_1 (Nat.le_of_ble_eq_true rfl) rfl (g_goto (tg := 164) rfl ms_565_164 ?_))
    refine g_weak ?_ (g_cl (hc1 ((s.1 + 1), mz_wI s.2 300 s.1 (mz_gI s.2 299 s.1)) hC))
    exact ⟨rfl, rfl, rfl, rfl, rfl, trivial⟩
  · have hp := hp.2 h1
    refine g_weak ?_ (g_cl (cg_565_190 hd hS hR v1 v2 v3 s.2 hr hp (hx1 _ hC)))
    exact ⟨rfl, rfl, rfl, rfl, trivial⟩
theorem cg_565_164 (hd : 3 ≤ d) (hS : mz_extR S 342) (hR : mz_rok R 342)  (v1 : Int32) (v2 : Int32) (v3 : Int32) (v4 : Int32) (N : mz_N) {C0 : (Int32 × mz_N) → Prop} (hr : ∀ (w : Int32) (N2 : mz_N), C0 (w, N2) → Q (.inl (some (.int w))) (mz_k S R N2 b t)) (hp : cp_565_164 v1 v2 v3 v4 N) (hC : C0 (cf_565_164 v1 v2 v3 v4 N)) : mz_G (d, mz_X0 L xs, some .int, [], mk_565, 9, Q) 164 mt_565_164 [(0, .ref 232), (1, .int v1), (2, .int v2), (3, .int v3), (4, .int v4)] [] false (mz_k S R N b t) := by
  obtain ⟨n, hn⟩ := hp
  exact g_loop (G := fun s => mz_G (d, mz_X0 L xs, some .int, [], mk_565, 9, Q) 164 mt_565_164 [(0, .ref 232), (1, .int v1), (2, .int v2), (3, .int v3), (4, .int s.1)] [] false (mz_k S R s.2 b t)) (C := C0) (fun C2 hc hx s hP hC => cb_565_164 hd hS hR v1 v2 v3 s hr hc hx hP hC) n (v4, N) hn hC
theorem cg_565_149 (hd : 3 ≤ d) (hS : mz_extR S 342) (hR : mz_rok R 342)  (v1 : Int32) (v2 : Int32) (N : mz_N) {C0 : (Int32 × mz_N) → Prop} (hr : ∀ (w : Int32) (N2 : mz_N), C0 (w, N2) → Q (.inl (some (.int w))) (mz_k S R N2 b t)) (hp : cp_565_149 v1 v2 N) (hC : C0 (cf_565_149 v1 v2 N)) : mz_G (d, mz_X0 L xs, some .int, [], mk_565, 9, Q) 149 mt_565_149 [(0, .ref 232), (1, .int v1), (2, .int v2)] [] false (mz_k S R N b t) := by
  unfold cf_565_149 at hC
  unfold cp_565_149 at hp
  refine g_iload_n rfl ?_
  refine g_ifne (tg := 155) rfl ms_565_155 hC (fun h1 hC => ?_) (fun h1 hC => ?_)
  · have hp := hp.1 h1
    refine g_iconst mzi_0 ?_
    exact g_iret rfl (hr _ _ hC)
  · have hp := hp.2 h1
    refine g_aload_n rfl (g_iload_n rfl ?_)
    obtain ⟨h2, hp⟩ := hp
    refine g_v2v (Nat.le_of_ble_eq_true rfl) (mz_at hS (Nat.le_of_ble_eq_true rfl) mzcS_232) (fun _ hq => cs_567 (Nat.le_trans (Nat.le_of_ble_eq_true rfl) hd) (hS.le (Nat.le_of_ble_eq_true rfl)) (hR.le (Nat.le_of_ble_eq_true rfl))  v2 N h2 hq) (g_istore_n (Nat.le_of_ble_eq_true rfl) rfl (g_iconst mzi_0 (g_istore (Nat.le_of_ble_eq_true rfl) rfl ?_)))
    refine g_weak ?_ (g_cl (cg_565_164 hd hS hR v1 v2 (cf_567_0 v2 N) 0 N hr hp hC))
    exact ⟨rfl, rfl, rfl, rfl, rfl, trivial⟩
theorem cb_565_44 (hd : 3 ≤ d) (hS : mz_extR S 342) (hR : mz_rok R 342)  (v1 : Int32) (s : Int32 × Int32 × mz_N) {C0 : (Int32 × mz_N) → Prop} (hr : ∀ (w : Int32) (N2 : mz_N), C0 (w, N2) → Q (.inl (some (.int w))) (mz_k S R N2 b t)) {C1 : ((Int32 × Int32 × mz_N) ⊕ (Int32 × mz_N)) → Prop} (hc1 : ∀ s2, C1 (.inl s2) → mz_G (d, mz_X0 L xs, some .int, [], mk_565, 9, Q) 44 mt_565_44 [(0, .ref 232), (1, .int v1), (2, .int s2.1), (3, .int s2.2.1)] [] false (mz_k S R s2.2.2 b t)) (hx1 : ∀ z, C1 (.inr z) → C0 z) (hp : cd_565_44 v1 s) (hC : C1 (cq_565_44 v1 s)) : mz_G (d, mz_X0 L xs, some .int, [], mk_565, 9, Q) 44 mt_565_44 [(0, .ref 232), (1, .int v1), (2, .int s.1), (3, .int s.2.1)] [] false (mz_k S R s.2.2 b t) := by
  unfold cq_565_44 at hC
  unfold cd_565_44 at hp
  refine g_iload_n rfl ?_
  refine g_iflt (tg := 149) rfl ms_565_149 hC (fun h1 hC => ?_) (fun h1 hC => ?_)
  · have hp := hp.1 h1
    refine g_weak ?_ (g_cl (cg_565_149 hd hS hR v1 s.1 s.2.2 hr hp (hx1 _ hC)))
    exact ⟨rfl, rfl, rfl, trivial⟩
  · have hp := hp.2 h1
    refine g_iload_n rfl (g_bipush mzb_6 ?_)
    refine g_icge (tg := 149) rfl ms_565_149 hC (fun h2 hC => ?_) (fun h2 hC => ?_)
    · have hp := hp.1 h2
      refine g_aload_n rfl (g_getR (mz_at hS (Nat.le_of_ble_eq_true rfl) mzcS_232) mzcf_12_83 (mz_rb hR (Nat.le_of_ble_eq_true rfl) rfl mzcR_232_83) (g_iload_n rfl ?_))
      obtain ⟨h3, hp⟩ := hp
      refine g_iald hS.1 (mz_at hS (Nat.le_of_ble_eq_true rfl) mzcS_290) h3 (g_iconst mzi_3 ?_)
      refine g_iceq (tg := 90) rfl ms_565_90 hC (fun h4 hC => ?_) (fun h4 hC => ?_)
      · have hp := hp.1 h4
        refine g_weak ?_ (g_cl (cg_565_90 hd hS hR v1 s.1 s.2.1 s.2.2 hr hc1 hx1 hp hC))
        exact ⟨rfl, rfl, rfl, rfl, trivial⟩
      · have hp := hp.2 h4
        refine g_aload_n rfl (g_getR (mz_at hS (Nat.le_of_ble_eq_true rfl) mzcS_232) mzcf_12_101 (mz_rb hR (Nat.le_of_ble_eq_true rfl) rfl mzcR_232_101) (g_aload_n rfl (g_getR (mz_at hS (Nat.le_of_ble_eq_true rfl) mzcS_232) mzcf_12_83 (mz_rb hR (Nat.le_of_ble_eq_true rfl) rfl mzcR_232_83) (g_iload_n rfl ?_))))
        obtain ⟨h5, hp⟩ := hp
        refine g_iald hS.1 (mz_at hS (Nat.le_of_ble_eq_true rfl) mzcS_290) h5 (g_iconst mzi_3 (g_irem (by decide) ?_))
        obtain ⟨h6, hp⟩ := hp
        refine g_iald hS.1 (mz_at hS (Nat.le_of_ble_eq_true rfl) mzcS_306) h6 (g_aload_n rfl (g_aload_n rfl (g_getR (mz_at hS (Nat.le_of_ble_eq_true rfl) mzcS_232) mzcf_12_83 (mz_rb hR (Nat.le_of_ble_eq_true rfl) rfl mzcR_232_83) (g_iload_n rfl ?_))))
        obtain ⟨h7, hp⟩ := hp
        refine g_iald hS.1 (mz_at hS (Nat.le_of_ble_eq_true rfl) mzcS_290) h7 ?_
        obtain ⟨h8, hp⟩ := hp
        refine g_v2v (Nat.le_of_ble_eq_true rfl) (mz_at hS (Nat.le_of_ble_eq_true rfl) mzcS_232) (fun _ hq => cs_566 (Nat.le_trans (Nat.le_of_ble_eq_true rfl) hd) (hS.le (Nat.le_of_ble_eq_true rfl)) (hR.le (Nat.le_of_ble_eq_true rfl))  (mz_gI s.2.2 290 s.2.1) s.2.2 h8 hq) ?_
        refine g_icle (tg := 94) rfl ms_565_94 hC (fun h9 hC => ?_) (fun h9 hC => ?_)
        · have hp := hp.1 h9
          refine g_weak ?_ (g_cl (cg_565_90 hd hS hR v1 s.1 s.2.1 s.2.2 hr hc1 hx1 hp hC))
          exact ⟨rfl, rfl, rfl, rfl, trivial⟩
        · have hp := hp.2 h9
          refine g_iconst mzi_0 ?_
          refine g_weak ?_ (g_cl (cg_565_95 hd hS hR false v1 s.1 s.2.1 s.2.2 hr hc1 hx1 hp hC))
          exact ⟨rfl, rfl, rfl, rfl, trivial⟩
    · have hp := hp.2 h2
      refine g_weak ?_ (g_cl (cg_565_149 hd hS hR v1 s.1 s.2.2 hr hp (hx1 _ hC)))
      exact ⟨rfl, rfl, rfl, trivial⟩
theorem cg_565_44 (hd : 3 ≤ d) (hS : mz_extR S 342) (hR : mz_rok R 342)  (v1 : Int32) (v2 : Int32) (v3 : Int32) (N : mz_N) {C0 : (Int32 × mz_N) → Prop} (hr : ∀ (w : Int32) (N2 : mz_N), C0 (w, N2) → Q (.inl (some (.int w))) (mz_k S R N2 b t)) (hp : cp_565_44 v1 v2 v3 N) (hC : C0 (cf_565_44 v1 v2 v3 N)) : mz_G (d, mz_X0 L xs, some .int, [], mk_565, 9, Q) 44 mt_565_44 [(0, .ref 232), (1, .int v1), (2, .int v2), (3, .int v3)] [] false (mz_k S R N b t) := by
  obtain ⟨n, hn⟩ := hp
  exact g_loop (G := fun s => mz_G (d, mz_X0 L xs, some .int, [], mk_565, 9, Q) 44 mt_565_44 [(0, .ref 232), (1, .int v1), (2, .int s.1), (3, .int s.2.1)] [] false (mz_k S R s.2.2 b t)) (C := C0) (fun C2 hc hx s hP hC => cb_565_44 hd hS hR v1 s hr hc hx hP hC) n (v2, v3, N) hn hC
theorem cg_565_26 (hd : 3 ≤ d) (hS : mz_extR S 342) (hR : mz_rok R 342)  (s1 : Bool) (s2 : Bool) (v1 : Int32) (N : mz_N) {C0 : (Int32 × mz_N) → Prop} (hr : ∀ (w : Int32) (N2 : mz_N), C0 (w, N2) → Q (.inl (some (.int w))) (mz_k S R N2 b t)) (hp : cp_565_26 s1 s2 v1 N) (hC : C0 (cf_565_26 s1 s2 v1 N)) : mz_G (d, mz_X0 L xs, some .int, [], mk_565, 9, Q) 26 mt_565_26 [(0, .ref 232), (1, .int v1)] [.int (mz_b01 s2), .int (mz_b01 s1), .ref 232] false (mz_k S R N b t) := by
  unfold cf_565_26 at hC
  unfold cp_565_26 at hp
  obtain ⟨h1, hp⟩ := hp
  refine g_v3v (Nat.le_of_ble_eq_true rfl) (mz_at hS (Nat.le_of_ble_eq_true rfl) mzcS_232) (fun _ hq => cs_462 (Nat.le_trans (Nat.le_of_ble_eq_true rfl) hd) (hS.le (Nat.le_of_ble_eq_true rfl)) (hR.le (Nat.le_of_ble_eq_true rfl))  s1 s2 N h1 hq) ?_
  refine g_zeq (tg := 34) rfl ms_565_34 hC (fun h2 hC => ?_) (fun h2 hC => ?_)
  · have hp := hp.1 h2
    refine g_iconst mzi_0 ?_
    exact g_iret rfl (hr _ _ hC)
  · have hp := hp.2 h2
    refine g_iconst mzi_0 (g_istore_n (Nat.le_of_ble_eq_true rfl) rfl (g_aload_n rfl (g_con3 ?_)))
    obtain ⟨h3, hp⟩ := hp
    refine g_v2v (Nat.le_of_ble_eq_true rfl) (mz_at hS (Nat.le_of_ble_eq_true rfl) mzcS_232) (fun _ hq => cs_564 (Nat.le_trans (Nat.le_of_ble_eq_true rfl) hd) (hS.le (Nat.le_of_ble_eq_true rfl)) (hR.le (Nat.le_of_ble_eq_true rfl))  (-1) ((cf_462_0 s1 s2 N).2) h3 hq) (g_istore_n (Nat.le_of_ble_eq_true rfl) rfl ?_)
    refine g_weak ?_ (g_cl (cg_565_44 hd hS hR v1 0 (cf_564_0 (-1) ((cf_462_0 s1 s2 N).2)) ((cf_462_0 s1 s2 N).2) hr hp hC))
    exact ⟨rfl, rfl, rfl, rfl, trivial⟩
theorem cg_565_0 (hd : 3 ≤ d) (hS : mz_extR S 342) (hR : mz_rok R 342)  (v1 : Int32) (N : mz_N) {C0 : (Int32 × mz_N) → Prop} (hr : ∀ (w : Int32) (N2 : mz_N), C0 (w, N2) → Q (.inl (some (.int w))) (mz_k S R N2 b t)) (hp : cp_565_0 v1 N) (hC : C0 (cf_565_0 v1 N)) : mz_G (d, mz_X0 L xs, some .int, [], mk_565, 9, Q) 0 mk_565 [(0, .ref 232), (1, .int v1)] [] true (mz_k S R N b t) := by
  unfold cf_565_0 at hC
  unfold cp_565_0 at hp
  refine g_aload_n rfl (g_iload_n rfl (g_i2l (g_lconst mzl_0 (g_lconst mzl_1 ?_))))
  refine g_s3v (Nat.le_of_ble_eq_true rfl) (fun _ hq => cs_466 (Nat.le_trans (Nat.le_of_ble_eq_true rfl) hd) (hS.le (Nat.le_of_ble_eq_true rfl)) (hR.le (Nat.le_of_ble_eq_true rfl))  v1.toInt64 0 1 trivial hq) (g_aload_n rfl (g_getR (mz_at hS (Nat.le_of_ble_eq_true rfl) mzcS_232) mzcf_12_92 (mz_rb hR (Nat.le_of_ble_eq_true rfl) rfl mzcR_232_92) (g_iload_n rfl (g_iconst mzi_1 (g_iand ?_)))))
  obtain ⟨h2, hp⟩ := hp
  refine g_lald (mz_at hS (Nat.le_of_ble_eq_true rfl) mzcS_298) h2 (g_lconst mzl_0 (g_lcmp ?_))
  refine g_lge (tg := 25) rfl ms_565_25 hC (fun h3 hC => ?_) (fun h3 hC => ?_)
  · have hp := hp.1 h3
    refine g_iconst mzi_1 (g_goto (tg := 26) rfl ms_565_26 ?_)
    refine g_weak ?_ (g_cl (cg_565_26 hd hS hR (cf_466_0 v1.toInt64 0 1) true v1 N hr hp hC))
    exact ⟨rfl, rfl, trivial⟩
  · have hp := hp.2 h3
    refine g_iconst mzi_0 ?_
    refine g_weak ?_ (g_cl (cg_565_26 hd hS hR (cf_466_0 v1.toInt64 0 1) false v1 N hr hp hC))
    exact ⟨rfl, rfl, trivial⟩
theorem cs_565 (hd : 4 ≤ d) (hS : mz_extR S 342) (hR : mz_rok R 342)  (v1 : Int32) (N : mz_N) (hp : cp_565_0 v1 N) (hq : Q (.inl (some (.int ((cf_565_0 v1 N).1)))) (mz_k S R ((cf_565_0 v1 N).2) b t)) : mz_Ed (mz_X0 L xs) d 565 [.ref 232, .int v1] (mz_k S R N b t) Q :=
  by
  refine g_in mzq_565 (Nat.le_of_ble_eq_true rfl) (Nat.le_of_ble_eq_true rfl) (Nat.le_trans (Nat.le_of_ble_eq_true rfl) hd) ?_
  refine g_weak ?_ (cg_565_0 (d := d - 1) (by omega) hS hR v1 N (C0 := fun z => Q (.inl (some (.int z.1))) (mz_k S R z.2 b t)) (fun _ _ h => h) hp hq)
  exact ⟨rfl, rfl, trivial⟩
/-! 571 KeptHouseModel.worker (II)I -/
theorem ms_571_0 : mz_sf mk_571 0 = mk_571 := mz_sf_zero _
theorem ms_571_27 : mz_sf mk_571 27 = mt_571_27 := mz_sf_add ms_571_0 (t := 27) rfl rfl
theorem ms_571_28 : mz_sf mk_571 28 = mt_571_28 := mz_sf_add ms_571_27 (t := 1) rfl rfl
theorem ms_571_37 : mz_sf mk_571 37 = mt_571_37 := mz_sf_add ms_571_28 (t := 9) rfl rfl
theorem ms_571_52 : mz_sf mk_571 52 = mt_571_52 := mz_sf_add ms_571_37 (t := 15) rfl rfl
theorem ms_571_53 : mz_sf mk_571 53 = mt_571_53 := mz_sf_add ms_571_52 (t := 1) rfl rfl
theorem ms_571_62 : mz_sf mk_571 62 = mt_571_62 := mz_sf_add ms_571_53 (t := 9) rfl rfl
theorem ms_571_75 : mz_sf mk_571 75 = mt_571_75 := mz_sf_add ms_571_62 (t := 13) rfl rfl
theorem ms_571_84 : mz_sf mk_571 84 = mt_571_84 := mz_sf_add ms_571_75 (t := 9) rfl rfl
theorem ms_571_97 : mz_sf mk_571 97 = mt_571_97 := mz_sf_add ms_571_84 (t := 13) rfl rfl
theorem ms_571_104 : mz_sf mk_571 104 = mt_571_104 := mz_sf_add ms_571_97 (t := 7) rfl rfl
theorem ms_571_105 : mz_sf mk_571 105 = mt_571_105 := mz_sf_add ms_571_104 (t := 1) rfl rfl
theorem ms_571_112 : mz_sf mk_571 112 = mt_571_112 := mz_sf_add ms_571_105 (t := 7) rfl rfl
theorem ms_571_130 : mz_sf mk_571 130 = mt_571_130 := mz_sf_add ms_571_112 (t := 18) rfl rfl
theorem ms_571_146 : mz_sf mk_571 146 = mt_571_146 := mz_sf_add ms_571_130 (t := 16) rfl rfl
theorem ms_571_154 : mz_sf mk_571 154 = mt_571_154 := mz_sf_add ms_571_146 (t := 8) rfl rfl
set_option maxRecDepth 100000 in
theorem mzq_571 : mz_PG0 571 = some (12, ⟨"KeptHouseModel", "worker", "(II)I"⟩, prog_14_method_134_code, 6, some .int, [], mk_571, []) := rfl
theorem cg_571_75 (hd : 1 ≤ d) (hS : mz_extR S 342) (hR : mz_rok R 342)  (s0 : Int32) (v1 : Int32) (v2 : Int32) (v3 : Bool) (N : mz_N) {C0 : (Int32 × mz_N) → Prop} (hr : ∀ (w : Int32) (N2 : mz_N), C0 (w, N2) → Q (.inl (some (.int w))) (mz_k S R N2 b t)) (hp : cp_571_75 s0 v1 v2 v3 N) (hC : C0 (cf_571_75 s0 v1 v2 v3 N)) : mz_G (d, mz_X0 L xs, some .int, [], mk_571, 6, Q) 75 mt_571_75 [(0, .ref 232), (1, .int v1), (2, .int v2), (3, .int (mz_b01 v3))] [.int s0] false (mz_k S R N b t) := by
  unfold cf_571_75 at hC
  unfold cp_571_75 at hp
  refine g_istore (Nat.le_of_ble_eq_true rfl) rfl (g_iload_n rfl ?_)
  refine g_ifne (tg := 84) rfl ms_571_84 hC (fun h1 hC => ?_) (fun h1 hC => ?_)
  · have hp := hp.1 h1
    refine g_iload rfl ?_
    exact g_iret rfl (hr _ _ hC)
  · have hp := hp.2 h1
    refine g_iload_n rfl (g_iconst mzi_3 ?_)
    refine g_icne (tg := 105) rfl ms_571_105 hC (fun h2 hC => ?_) (fun h2 hC => ?_)
    · have hp := hp.1 h2
      refine g_iload_n rfl ?_
      refine g_zeq (tg := 97) rfl ms_571_97 hC (fun h3 hC => ?_) (fun h3 hC => ?_)
      · have hp := hp.1 h3
        refine g_iconst mzi_m1 (g_goto (tg := 104) rfl ms_571_104 ?_)
        exact g_iret rfl (hr _ _ hC)
      · have hp := hp.2 h3
        refine g_aload_n rfl (g_getR (mz_at hS (Nat.le_of_ble_eq_true rfl) mzcS_232) mzcf_12_92 (mz_rb hR (Nat.le_of_ble_eq_true rfl) rfl mzcR_232_92) (g_iload_n rfl ?_))
        have h4 := hp
        refine g_lald (mz_at hS (Nat.le_of_ble_eq_true rfl) mzcS_298) h4 (g_l2i ?_)
        exact g_iret rfl (hr _ _ hC)
    · have hp := hp.2 h2
      refine g_iload rfl ?_
      refine g_ifne (tg := 112) rfl ms_571_112 hC (fun h5 hC => ?_) (fun h5 hC => ?_)
      · have hp := hp.1 h5
        refine g_iconst mzi_m1 ?_
        exact g_iret rfl (hr _ _ hC)
      · have hp := hp.2 h5
        refine g_bipush mzb_6 (g_iload_n rfl (g_imul (g_aload_n rfl (g_getR (mz_at hS (Nat.le_of_ble_eq_true rfl) mzcS_232) mzcf_12_91 (mz_rb hR (Nat.le_of_ble_eq_true rfl) rfl mzcR_232_91) (g_iload_n rfl ?_)))))
        obtain ⟨h6, hp⟩ := hp
        refine g_iald hS.1 (mz_at hS (Nat.le_of_ble_eq_true rfl) mzcS_297) h6 (g_iadd (g_istore (Nat.le_of_ble_eq_true rfl) rfl (g_iload_n rfl (g_iconst mzi_1 ?_))))
        refine g_icne (tg := 146) rfl ms_571_146 hC (fun h7 hC => ?_) (fun h7 hC => ?_)
        · have hp := hp.1 h7
          refine g_aload_n rfl (g_getR (mz_at hS (Nat.le_of_ble_eq_true rfl) mzcS_232) mzcf_12_85 (mz_rb hR (Nat.le_of_ble_eq_true rfl) rfl mzcR_232_85) (g_aload_n rfl (g_getR (mz_at hS (Nat.le_of_ble_eq_true rfl) mzcS_232) mzcf_12_88 (mz_rb hR (Nat.le_of_ble_eq_true rfl) rfl mzcR_232_88) (g_iload rfl ?_))))
          obtain ⟨h8, hp⟩ := hp
          refine g_iald hS.1 (mz_at hS (Nat.le_of_ble_eq_true rfl) mzcS_294) h8 ?_
          have h9 := hp
          refine g_lald (mz_at hS (Nat.le_of_ble_eq_true rfl) mzcS_292) h9 (g_l2i (g_goto (tg := 154) rfl ms_571_154 ?_))
          exact g_iret rfl (hr _ _ hC)
        · have hp := hp.2 h7
          refine g_aload_n rfl (g_getR (mz_at hS (Nat.le_of_ble_eq_true rfl) mzcS_232) mzcf_12_89 (mz_rb hR (Nat.le_of_ble_eq_true rfl) rfl mzcR_232_89) (g_iload rfl ?_))
          have h10 := hp
          refine g_lald (mz_at hS (Nat.le_of_ble_eq_true rfl) mzcS_295) h10 (g_l2i ?_)
          exact g_iret rfl (hr _ _ hC)
theorem cg_571_53 (hd : 1 ≤ d) (hS : mz_extR S 342) (hR : mz_rok R 342)  (s0 : Bool) (v1 : Int32) (v2 : Int32) (N : mz_N) {C0 : (Int32 × mz_N) → Prop} (hr : ∀ (w : Int32) (N2 : mz_N), C0 (w, N2) → Q (.inl (some (.int w))) (mz_k S R N2 b t)) (hp : cp_571_53 s0 v1 v2 N) (hC : C0 (cf_571_53 s0 v1 v2 N)) : mz_G (d, mz_X0 L xs, some .int, [], mk_571, 6, Q) 53 mt_571_53 [(0, .ref 232), (1, .int v1), (2, .int v2)] [.int (mz_b01 s0)] false (mz_k S R N b t) := by
  unfold cf_571_53 at hC
  unfold cp_571_53 at hp
  refine g_istore_n (Nat.le_of_ble_eq_true rfl) rfl (g_iload_n rfl ?_)
  refine g_zeq (tg := 62) rfl ms_571_62 hC (fun h1 hC => ?_) (fun h1 hC => ?_)
  · have hp := hp.1 h1
    refine g_iconst mzi_0 (g_goto (tg := 75) rfl ms_571_75 ?_)
    refine g_weak ?_ (g_cl (cg_571_75 hd hS hR 0 v1 v2 s0 N hr hp hC))
    exact ⟨rfl, rfl, rfl, rfl, trivial⟩
  · have hp := hp.2 h1
    refine g_aload_n rfl (g_getR (mz_at hS (Nat.le_of_ble_eq_true rfl) mzcS_232) mzcf_12_90 (mz_rb hR (Nat.le_of_ble_eq_true rfl) rfl mzcR_232_90) (g_iload_n rfl ?_))
    obtain ⟨h2, hp⟩ := hp
    refine g_iald hS.1 (mz_at hS (Nat.le_of_ble_eq_true rfl) mzcS_296) h2 (g_aload_n rfl (g_getR (mz_at hS (Nat.le_of_ble_eq_true rfl) mzcS_232) mzcf_12_91 (mz_rb hR (Nat.le_of_ble_eq_true rfl) rfl mzcR_232_91) (g_iload_n rfl ?_)))
    obtain ⟨h3, hp⟩ := hp
    refine g_iald hS.1 (mz_at hS (Nat.le_of_ble_eq_true rfl) mzcS_297) h3 (g_isub ?_)
    refine g_weak ?_ (g_cl (cg_571_75 hd hS hR ((mz_gI N 296 v1) - (mz_gI N 297 v1)) v1 v2 s0 N hr hp hC))
    exact ⟨rfl, rfl, rfl, rfl, trivial⟩
theorem cg_571_28 (hd : 1 ≤ d) (hS : mz_extR S 342) (hR : mz_rok R 342)  (s1 : Bool) (v1 : Int32) (v2 : Int32) (N : mz_N) {C0 : (Int32 × mz_N) → Prop} (hr : ∀ (w : Int32) (N2 : mz_N), C0 (w, N2) → Q (.inl (some (.int w))) (mz_k S R N2 b t)) (hp : cp_571_28 s1 v1 v2 N) (hC : C0 (cf_571_28 s1 v1 v2 N)) : mz_G (d, mz_X0 L xs, some .int, [], mk_571, 6, Q) 28 mt_571_28 [(0, .ref 232), (1, .int v1), (2, .int v2)] [.int (mz_b01 s1), .ref 232] false (mz_k S R N b t) := by
  unfold cf_571_28 at hC
  unfold cp_571_28 at hp
  refine g_iconst mzi_1 ?_
  obtain ⟨h1, hp⟩ := hp
  refine g_v3v (Nat.le_of_ble_eq_true rfl) (mz_at hS (Nat.le_of_ble_eq_true rfl) mzcS_232) (fun _ hq => cs_462 (Nat.le_trans (Nat.le_of_ble_eq_true rfl) hd) (hS.le (Nat.le_of_ble_eq_true rfl)) (hR.le (Nat.le_of_ble_eq_true rfl))  s1 true N h1 hq) ?_
  refine g_zeq (tg := 37) rfl ms_571_37 hC (fun h2 hC => ?_) (fun h2 hC => ?_)
  · have hp := hp.1 h2
    refine g_iconst mzi_0 ?_
    exact g_iret rfl (hr _ _ hC)
  · have hp := hp.2 h2
    refine g_aload_n rfl (g_getR (mz_at hS (Nat.le_of_ble_eq_true rfl) mzcS_232) mzcf_12_92 (mz_rb hR (Nat.le_of_ble_eq_true rfl) rfl mzcR_232_92) (g_iload_n rfl ?_))
    obtain ⟨h3, hp⟩ := hp
    refine g_lald (mz_at hS (Nat.le_of_ble_eq_true rfl) mzcS_298) h3 (g_lconst mzl_0 (g_lcmp ?_))
    refine g_lge (tg := 52) rfl ms_571_52 hC (fun h4 hC => ?_) (fun h4 hC => ?_)
    · have hp := hp.1 h4
      refine g_iconst mzi_1 (g_goto (tg := 53) rfl ms_571_53 ?_)
      refine g_weak ?_ (g_cl (cg_571_53 hd hS hR true v1 v2 ((cf_462_0 s1 true N).2) hr hp hC))
      exact ⟨rfl, rfl, rfl, trivial⟩
    · have hp := hp.2 h4
      refine g_iconst mzi_0 ?_
      refine g_weak ?_ (g_cl (cg_571_53 hd hS hR false v1 v2 ((cf_462_0 s1 true N).2) hr hp hC))
      exact ⟨rfl, rfl, rfl, trivial⟩
theorem cg_571_27 (hd : 1 ≤ d) (hS : mz_extR S 342) (hR : mz_rok R 342)  (v1 : Int32) (v2 : Int32) (N : mz_N) {C0 : (Int32 × mz_N) → Prop} (hr : ∀ (w : Int32) (N2 : mz_N), C0 (w, N2) → Q (.inl (some (.int w))) (mz_k S R N2 b t)) (hp : cp_571_27 v1 v2 N) (hC : C0 (cf_571_27 v1 v2 N)) : mz_G (d, mz_X0 L xs, some .int, [], mk_571, 6, Q) 27 mt_571_27 [(0, .ref 232), (1, .int v1), (2, .int v2)] [.ref 232] false (mz_k S R N b t) := by
  unfold cf_571_27 at hC
  unfold cp_571_27 at hp
  refine g_iconst mzi_0 ?_
  refine g_weak ?_ (g_cl (cg_571_28 hd hS hR false v1 v2 N hr hp hC))
  exact ⟨rfl, rfl, rfl, trivial⟩
theorem cg_571_0 (hd : 1 ≤ d) (hS : mz_extR S 342) (hR : mz_rok R 342)  (v1 : Int32) (v2 : Int32) (N : mz_N) {C0 : (Int32 × mz_N) → Prop} (hr : ∀ (w : Int32) (N2 : mz_N), C0 (w, N2) → Q (.inl (some (.int w))) (mz_k S R N2 b t)) (hp : cp_571_0 v1 v2 N) (hC : C0 (cf_571_0 v1 v2 N)) : mz_G (d, mz_X0 L xs, some .int, [], mk_571, 6, Q) 0 mk_571 [(0, .ref 232), (1, .int v1), (2, .int v2)] [] true (mz_k S R N b t) := by
  unfold cf_571_0 at hC
  unfold cp_571_0 at hp
  refine g_aload_n rfl (g_iload_n rfl (g_i2l (g_lconst mzl_0 (g_lconst mzl_1 ?_))))
  refine g_s3v (Nat.le_of_ble_eq_true rfl) (fun _ hq => cs_466 (Nat.le_trans (Nat.le_of_ble_eq_true rfl) hd) (hS.le (Nat.le_of_ble_eq_true rfl)) (hR.le (Nat.le_of_ble_eq_true rfl))  v1.toInt64 0 1 trivial hq) ?_
  refine g_zeq (tg := 27) rfl ms_571_27 hC (fun h2 hC => ?_) (fun h2 hC => ?_)
  · have hp := hp.1 h2
    refine g_iload_n rfl (g_i2l (g_lconst mzl_0 (g_con3 ?_)))
    refine g_s3v (Nat.le_of_ble_eq_true rfl) (fun _ hq => cs_466 (Nat.le_trans (Nat.le_of_ble_eq_true rfl) hd) (hS.le (Nat.le_of_ble_eq_true rfl)) (hR.le (Nat.le_of_ble_eq_true rfl))  v2.toInt64 0 3 trivial hq) ?_
    refine g_zeq (tg := 27) rfl ms_571_27 hC (fun h4 hC => ?_) (fun h4 hC => ?_)
    · have hp := hp.1 h4
      refine g_iconst mzi_1 (g_goto (tg := 28) rfl ms_571_28 ?_)
      refine g_weak ?_ (g_cl (cg_571_28 hd hS hR true v1 v2 N hr hp hC))
      exact ⟨rfl, rfl, rfl, trivial⟩
    · have hp := hp.2 h4
      refine g_weak ?_ (g_cl (cg_571_27 hd hS hR v1 v2 N hr hp hC))
      exact ⟨rfl, rfl, rfl, trivial⟩
  · have hp := hp.2 h2
    refine g_weak ?_ (g_cl (cg_571_27 hd hS hR v1 v2 N hr hp hC))
    exact ⟨rfl, rfl, rfl, trivial⟩
theorem cs_571 (hd : 2 ≤ d) (hS : mz_extR S 342) (hR : mz_rok R 342)  (v1 : Int32) (v2 : Int32) (N : mz_N) (hp : cp_571_0 v1 v2 N) (hq : Q (.inl (some (.int ((cf_571_0 v1 v2 N).1)))) (mz_k S R ((cf_571_0 v1 v2 N).2) b t)) : mz_Ed (mz_X0 L xs) d 571 [.ref 232, .int v1, .int v2] (mz_k S R N b t) Q :=
  by
  refine g_in mzq_571 (Nat.le_of_ble_eq_true rfl) (Nat.le_of_ble_eq_true rfl) (Nat.le_trans (Nat.le_of_ble_eq_true rfl) hd) ?_
  refine g_weak ?_ (cg_571_0 (d := d - 1) (by omega) hS hR v1 v2 N (C0 := fun z => Q (.inl (some (.int z.1))) (mz_k S R z.2 b t)) (fun _ _ h => h) hp hq)
  exact ⟨rfl, rfl, rfl, trivial⟩
end Fn33
