/-! THE FUNCTIONS: written by program: each method comes to its function. -/
section Fn23
variable {L : Nat} {xs : Nat → Int32} {d : Nat} {S : mz_S} {R : Nat → Nat → Option Nat} {Q : mz_Q} {N : mz_N} {b : Bool} {t : Nat}
/-! 453 KeptHouseModel.isNest (I)Z -/
theorem ms_453_0 : mz_sf mk_453 0 = mk_453 := mz_sf_zero _
theorem ms_453_11 : mz_sf mk_453 11 = mt_453_11 := mz_sf_add ms_453_0 (t := 11) rfl rfl
theorem ms_453_15 : mz_sf mk_453 15 = mt_453_15 := mz_sf_add ms_453_11 (t := 4) rfl rfl
theorem ms_453_16 : mz_sf mk_453 16 = mt_453_16 := mz_sf_add ms_453_15 (t := 1) rfl rfl
set_option maxRecDepth 100000 in
theorem mzq_453 : mz_PG0 453 = some (12, ⟨"KeptHouseModel", "isNest", "(I)Z"⟩, prog_14_method_54_code, 1, some .boolean, [], mk_453, []) := rfl
theorem cg_453_0 (hd : 0 ≤ d) (hS : mz_extR S 342) (hR : mz_rok R 342)  (v0 : Int32) {C0 : (Bool) → Prop} (hr : ∀ (w : Bool), C0 w → Q (.inl (some (.int (mz_b01 w)))) (mz_k S R N b t)) (hp : cp_453_0 v0) (hC : C0 (cf_453_0 v0)) : mz_G (d, mz_X0 L xs, some .boolean, [], mk_453, 1, Q) 0 mk_453 [(0, .int v0)] [] true (mz_k S R N b t) := by
  unfold cf_453_0 at hC
  unfold cp_453_0 at hp
  refine g_iload_n rfl (g_iconst mzi_3 ?_)
  refine g_icle (tg := 11) rfl ms_453_11 hC (fun h1 hC => ?_) (fun h1 hC => ?_)
  · refine g_iload_n rfl (g_bipush mzb_40 ?_)
    refine g_icne (tg := 15) rfl ms_453_15 hC (fun h2 hC => ?_) (fun h2 hC => ?_)
    · refine g_iconst mzi_1 (g_goto (tg := 16) rfl ms_453_16 ?_)
      exact g_zret (z := true) rfl (hr _ hC)
    · refine g_iconst mzi_0 ?_
      exact g_zret (z := false) rfl (hr _ hC)
  · refine g_iconst mzi_1 (g_goto (tg := 16) rfl ms_453_16 ?_)
    exact g_zret (z := true) rfl (hr _ hC)
theorem cs_453 (hd : 1 ≤ d) (hS : mz_extR S 342) (hR : mz_rok R 342)  (v0 : Int32) (hp : cp_453_0 v0) (hq : Q (.inl (some (.int (mz_b01 (cf_453_0 v0))))) (mz_k S R N b t)) : mz_Ed (mz_X0 L xs) d 453 [.int v0] (mz_k S R N b t) Q :=
  by
  refine g_in mzq_453 (Nat.le_of_ble_eq_true rfl) (Nat.le_of_ble_eq_true rfl) (Nat.le_trans (Nat.le_of_ble_eq_true rfl) hd) ?_
  refine g_weak ?_ (cg_453_0 (d := d - 1) (by omega) hS hR v0 (C0 := fun z => Q (.inl (some (.int (mz_b01 z)))) (mz_k S R N b t)) (fun _ h => h) hp hq)
  exact ⟨rfl, trivial⟩
/-! 452 KeptHouseModel.drop ()V -/
theorem ms_452_0 : mz_sf mk_452 0 = mk_452 := mz_sf_zero _
theorem ms_452_34 : mz_sf mk_452 34 = mt_452_34 := mz_sf_add ms_452_0 (t := 34) rfl rfl
theorem ms_452_35 : mz_sf mk_452 35 = mt_452_35 := mz_sf_add ms_452_34 (t := 1) rfl rfl
set_option maxRecDepth 100000 in
theorem mzq_452 : mz_PG0 452 = some (12, ⟨"KeptHouseModel", "drop", "()V"⟩, prog_14_method_56_code, 1, none, [], mk_452, []) := rfl
theorem cg_452_35 (hd : 1 ≤ d) (hS : mz_extR S 342) (hR : mz_rok R 342)  (s1 : Int32) (s2 : Bool) (N : mz_N) {C0 : (mz_N) → Prop} (hr : ∀ (N2 : mz_N), C0 N2 → Q (.inl none) (mz_k S R N2 b t)) (hp : cp_452_35 s1 s2 N) (hC : C0 (cf_452_35 s1 s2 N)) : mz_G (d, mz_X0 L xs, none, [], mk_452, 1, Q) 35 mt_452_35 [] [.int (mz_b01 s2), .int s1, .ref 232] false (mz_k S R N b t) := by
  unfold cf_452_35 at hC
  unfold cp_452_35 at hp
  refine g_isub (g_putI (mz_at hS (Nat.le_of_ble_eq_true rfl) mzcS_232) mzcf_12_157 ?_)
  exact g_vret rfl (hr _ hC)
theorem cg_452_0 (hd : 1 ≤ d) (hS : mz_extR S 342) (hR : mz_rok R 342)  (N : mz_N) {C0 : (mz_N) → Prop} (hr : ∀ (N2 : mz_N), C0 N2 → Q (.inl none) (mz_k S R N2 b t)) (hp : cp_452_0 N) (hC : C0 (cf_452_0 N)) : mz_G (d, mz_X0 L xs, none, [], mk_452, 1, Q) 0 mk_452 [(0, .ref 232)] [] true (mz_k S R N b t) := by
  unfold cf_452_0 at hC
  unfold cp_452_0 at hp
  refine g_aload_n rfl (g_dup rfl (g_getI (mz_at hS (Nat.le_of_ble_eq_true rfl) mzcS_232) mzcf_12_156 (g_iconst mzi_1 (g_isub (g_putI (mz_at hS (Nat.le_of_ble_eq_true rfl) mzcS_232) mzcf_12_156 (g_aload_n rfl (g_dup rfl ?_)))))))
  refine g_getI (mz_at hS (Nat.le_of_ble_eq_true rfl) mzcS_232) mzcf_12_157 (g_aload_n rfl (g_getR (mz_at hS (Nat.le_of_ble_eq_true rfl) mzcS_232) mzcf_12_155 (mz_rb hR (Nat.le_of_ble_eq_true rfl) rfl mzcR_232_155) (g_aload_n rfl (g_getI (mz_at hS (Nat.le_of_ble_eq_true rfl) mzcS_232) mzcf_12_156 ?_))))
  obtain ⟨h1, hp⟩ := hp
  refine g_iald hS.1 (mz_at hS (Nat.le_of_ble_eq_true rfl) mzcS_339) h1 ?_
  refine g_s1v (Nat.le_of_ble_eq_true rfl) (fun _ hq => cs_453 (Nat.le_trans (Nat.le_of_ble_eq_true rfl) hd) (hS.le (Nat.le_of_ble_eq_true rfl)) (hR.le (Nat.le_of_ble_eq_true rfl))  (mz_gI (mz_pI N 232 156 ((N.1 232 156) - 1)) 339 ((mz_pI N 232 156 ((N.1 232 156) - 1)).1 232 156)) trivial hq) ?_
  refine g_zeq (tg := 34) rfl ms_452_34 hC (fun h3 hC => ?_) (fun h3 hC => ?_)
  · have hp := hp.1 h3
    refine g_iconst mzi_1 (g_goto (tg := 35) rfl ms_452_35 ?_)
    refine g_weak ?_ (g_cl (cg_452_35 hd hS hR ((mz_pI N 232 156 ((N.1 232 156) - 1)).1 232 157) true (mz_pI N 232 156 ((N.1 232 156) - 1)) hr hp hC))
    exact trivial
  · have hp := hp.2 h3
    refine g_iconst mzi_0 ?_
    refine g_weak ?_ (g_cl (cg_452_35 hd hS hR ((mz_pI N 232 156 ((N.1 232 156) - 1)).1 232 157) false (mz_pI N 232 156 ((N.1 232 156) - 1)) hr hp hC))
    exact trivial
theorem cs_452 (hd : 2 ≤ d) (hS : mz_extR S 342) (hR : mz_rok R 342)  (N : mz_N) (hp : cp_452_0 N) (hq : Q (.inl none) (mz_k S R (cf_452_0 N) b t)) : mz_Ed (mz_X0 L xs) d 452 [.ref 232] (mz_k S R N b t) Q :=
  by
  refine g_in mzq_452 (Nat.le_of_ble_eq_true rfl) (Nat.le_of_ble_eq_true rfl) (Nat.le_trans (Nat.le_of_ble_eq_true rfl) hd) ?_
  refine g_weak ?_ (cg_452_0 (d := d - 1) (by omega) hS hR N (C0 := fun z => Q (.inl none) (mz_k S R z b t)) (fun _ h => h) hp hq)
  exact ⟨rfl, trivial⟩
/-! 450 KeptHouseModel.turnedBack ()V -/
theorem ms_450_0 : mz_sf mk_450 0 = mk_450 := mz_sf_zero _
theorem ms_450_25 : mz_sf mk_450 25 = mt_450_25 := mz_sf_add ms_450_0 (t := 25) rfl rfl
theorem ms_450_28 : mz_sf mk_450 28 = mt_450_28 := mz_sf_add ms_450_25 (t := 3) rfl rfl
set_option maxRecDepth 100000 in
theorem mzq_450 : mz_PG0 450 = some (12, ⟨"KeptHouseModel", "turnedBack", "()V"⟩, prog_14_method_60_code, 1, none, [], mk_450, []) := rfl
theorem cb_450_0 (hd : 2 ≤ d) (hS : mz_extR S 342) (hR : mz_rok R 342)   (s : mz_N) {C0 : (mz_N) → Prop} (hr : ∀ (N2 : mz_N), C0 N2 → Q (.inl none) (mz_k S R N2 b t)) {C1 : ((mz_N) ⊕ (mz_N)) → Prop} (hc1 : ∀ s2, C1 (.inl s2) → mz_G (d, mz_X0 L xs, none, [], mk_450, 1, Q) 0 mk_450 [(0, .ref 232)] [] false (mz_k S R s2 b t)) (hx1 : ∀ z, C1 (.inr z) → C0 z) (hp : cd_450_0  s) (hC : C1 (cq_450_0  s)) : mz_G (d, mz_X0 L xs, none, [], mk_450, 1, Q) 0 mk_450 [(0, .ref 232)] [] false (mz_k S R s b t) := by
  unfold cq_450_0 at hC
  unfold cd_450_0 at hp
  refine g_aload_n rfl (g_getI (mz_at hS (Nat.le_of_ble_eq_true rfl) mzcS_232) mzcf_12_156 ?_)
  refine g_ifle (tg := 28) rfl ms_450_28 hC (fun h1 hC => ?_) (fun h1 hC => ?_)
  · have hp := hp.1 h1
    refine g_aload_n rfl ?_
    obtain ⟨h2, hp⟩ := hp
    refine g_v1v (Nat.le_of_ble_eq_true rfl) (mz_at hS (Nat.le_of_ble_eq_true rfl) mzcS_232) (fun _ hq => cs_451 (Nat.le_trans (Nat.le_of_ble_eq_true rfl) hd) (hS.le (Nat.le_of_ble_eq_true rfl)) (hR.le (Nat.le_of_ble_eq_true rfl))  s h2 hq) (g_iconst mzi_1 ?_)
    refine g_icne (tg := 28) rfl ms_450_28 hC (fun h3 hC => ?_) (fun h3 hC => ?_)
    · have hp := hp.1 h3
      refine g_aload_n rfl (g_iconst mzi_2 (g_iconst mzi_0 ?_))
      obtain ⟨h4, hp⟩ := hp
      refine g_v3n (Nat.le_of_ble_eq_true rfl) (mz_at hS (Nat.le_of_ble_eq_true rfl) mzcS_232) (fun _ hq => cs_449 (Nat.le_trans (Nat.le_of_ble_eq_true rfl) hd) (hS.le (Nat.le_of_ble_eq_true rfl)) (hR.le (Nat.le_of_ble_eq_true rfl))  2 0 s h4 hq) (g_aload_n rfl ?_)
      have h5 := hp
      refine g_v1n (Nat.le_of_ble_eq_true rfl) (mz_at hS (Nat.le_of_ble_eq_true rfl) mzcS_232) (fun _ hq => cs_452 (Nat.le_trans (Nat.le_of_ble_eq_true rfl) hd) (hS.le (Nat.le_of_ble_eq_true rfl)) (hR.le (Nat.le_of_ble_eq_true rfl))  (cf_449_0 2 0 s) h5 hq) (g_goto (tg := 0) rfl ms_450_0 ?_)
      refine g_weak ?_ (g_cl (hc1 ((cf_452_0 (cf_449_0 2 0 s))) hC))
      exact ⟨rfl, trivial⟩
    · have hp := hp.2 h3
      exact g_vret rfl (hr _ (hx1 _ hC))
  · have hp := hp.2 h1
    exact g_vret rfl (hr _ (hx1 _ hC))
theorem cg_450_0 (hd : 2 ≤ d) (hS : mz_extR S 342) (hR : mz_rok R 342)  (N : mz_N) {C0 : (mz_N) → Prop} (hr : ∀ (N2 : mz_N), C0 N2 → Q (.inl none) (mz_k S R N2 b t)) (hp : cp_450_0 N) (hC : C0 (cf_450_0 N)) : mz_G (d, mz_X0 L xs, none, [], mk_450, 1, Q) 0 mk_450 [(0, .ref 232)] [] false (mz_k S R N b t) := by
  obtain ⟨n, hn⟩ := hp
  exact g_loop (G := fun s => mz_G (d, mz_X0 L xs, none, [], mk_450, 1, Q) 0 mk_450 [(0, .ref 232)] [] false (mz_k S R s b t)) (C := C0) (fun C2 hc hx s hP hC => cb_450_0 hd hS hR  s hr hc hx hP hC) n (N) hn hC
theorem cs_450 (hd : 3 ≤ d) (hS : mz_extR S 342) (hR : mz_rok R 342)  (N : mz_N) (hp : cp_450_0 N) (hq : Q (.inl none) (mz_k S R (cf_450_0 N) b t)) : mz_Ed (mz_X0 L xs) d 450 [.ref 232] (mz_k S R N b t) Q :=
  by
  refine g_in mzq_450 (Nat.le_of_ble_eq_true rfl) (Nat.le_of_ble_eq_true rfl) (Nat.le_trans (Nat.le_of_ble_eq_true rfl) hd) ?_
  refine g_weak ?_ (g_cl (cg_450_0 (d := d - 1) (by omega) hS hR N (C0 := fun z => Q (.inl none) (mz_k S R z b t)) (fun _ h => h) hp hq))
  exact ⟨rfl, trivial⟩
/-! 454 KeptHouseModel.hold (I)V -/
theorem ms_454_0 : mz_sf mk_454 0 = mk_454 := mz_sf_zero _
theorem ms_454_20 : mz_sf mk_454 20 = mt_454_20 := mz_sf_add ms_454_0 (t := 20) rfl rfl
theorem ms_454_36 : mz_sf mk_454 36 = mt_454_36 := mz_sf_add ms_454_20 (t := 16) rfl rfl
theorem ms_454_37 : mz_sf mk_454 37 = mt_454_37 := mz_sf_add ms_454_36 (t := 1) rfl rfl
set_option maxRecDepth 100000 in
theorem mzq_454 : mz_PG0 454 = some (12, ⟨"KeptHouseModel", "hold", "(I)V"⟩, prog_14_method_53_code, 2, none, [], mk_454, []) := rfl
theorem cg_454_37 (hd : 1 ≤ d) (hS : mz_extR S 342) (hR : mz_rok R 342)  (s1 : Int32) (s2 : Bool) (N : mz_N) {C0 : (mz_N) → Prop} (hr : ∀ (N2 : mz_N), C0 N2 → Q (.inl none) (mz_k S R N2 b t)) (hp : cp_454_37 s1 s2 N) (hC : C0 (cf_454_37 s1 s2 N)) : mz_G (d, mz_X0 L xs, none, [], mk_454, 2, Q) 37 mt_454_37 [] [.int (mz_b01 s2), .int s1, .ref 232] false (mz_k S R N b t) := by
  unfold cf_454_37 at hC
  unfold cp_454_37 at hp
  refine g_iadd (g_putI (mz_at hS (Nat.le_of_ble_eq_true rfl) mzcS_232) mzcf_12_157 ?_)
  exact g_vret rfl (hr _ hC)
theorem cg_454_20 (hd : 1 ≤ d) (hS : mz_extR S 342) (hR : mz_rok R 342)  (v1 : Int32) (N : mz_N) {C0 : (mz_N) → Prop} (hr : ∀ (N2 : mz_N), C0 N2 → Q (.inl none) (mz_k S R N2 b t)) (hp : cp_454_20 v1 N) (hC : C0 (cf_454_20 v1 N)) : mz_G (d, mz_X0 L xs, none, [], mk_454, 2, Q) 20 mt_454_20 [(0, .ref 232), (1, .int v1)] [] false (mz_k S R N b t) := by
  unfold cf_454_20 at hC
  unfold cp_454_20 at hp
  refine g_aload_n rfl (g_dup rfl (g_getI (mz_at hS (Nat.le_of_ble_eq_true rfl) mzcS_232) mzcf_12_157 (g_iload_n rfl ?_)))
  refine g_s1v (Nat.le_of_ble_eq_true rfl) (fun _ hq => cs_453 (Nat.le_trans (Nat.le_of_ble_eq_true rfl) hd) (hS.le (Nat.le_of_ble_eq_true rfl)) (hR.le (Nat.le_of_ble_eq_true rfl))  v1 trivial hq) ?_
  refine g_zeq (tg := 36) rfl ms_454_36 hC (fun h2 hC => ?_) (fun h2 hC => ?_)
  · have hp := hp.1 h2
    refine g_iconst mzi_1 (g_goto (tg := 37) rfl ms_454_37 ?_)
    refine g_weak ?_ (g_cl (cg_454_37 hd hS hR (N.1 232 157) true N hr hp hC))
    exact trivial
  · have hp := hp.2 h2
    refine g_iconst mzi_0 ?_
    refine g_weak ?_ (g_cl (cg_454_37 hd hS hR (N.1 232 157) false N hr hp hC))
    exact trivial
theorem cg_454_0 (hd : 1 ≤ d) (hS : mz_extR S 342) (hR : mz_rok R 342)  (v1 : Int32) (N : mz_N) {C0 : (mz_N) → Prop} (hr : ∀ (N2 : mz_N), C0 N2 → Q (.inl none) (mz_k S R N2 b t)) (hp : cp_454_0 v1 N) (hC : C0 (cf_454_0 v1 N)) : mz_G (d, mz_X0 L xs, none, [], mk_454, 2, Q) 0 mk_454 [(0, .ref 232), (1, .int v1)] [] true (mz_k S R N b t) := by
  unfold cf_454_0 at hC
  unfold cp_454_0 at hp
  refine g_aload_n rfl (g_getR (mz_at hS (Nat.le_of_ble_eq_true rfl) mzcS_232) mzcf_12_155 (mz_rb hR (Nat.le_of_ble_eq_true rfl) rfl mzcR_232_155) (g_aload_n rfl (g_getI (mz_at hS (Nat.le_of_ble_eq_true rfl) mzcS_232) mzcf_12_156 (g_iload_n rfl ?_))))
  obtain ⟨h1, hp⟩ := hp
  refine g_iast (mz_at hS (Nat.le_of_ble_eq_true rfl) mzcS_339) h1 (g_aload_n rfl (g_dup rfl (g_getI (mz_at hS (Nat.le_of_ble_eq_true rfl) mzcS_232) mzcf_12_156 (g_iconst mzi_1 (g_iadd (g_putI (mz_at hS (Nat.le_of_ble_eq_true rfl) mzcS_232) mzcf_12_156 ?_))))))
  refine g_weak ?_ (g_cl (cg_454_20 hd hS hR v1 (mz_pI (mz_wI N 339 (N.1 232 156) v1) 232 156 (((mz_wI N 339 (N.1 232 156) v1).1 232 156) + 1)) hr hp hC))
  exact ⟨rfl, rfl, trivial⟩
theorem cs_454 (hd : 2 ≤ d) (hS : mz_extR S 342) (hR : mz_rok R 342)  (v1 : Int32) (N : mz_N) (hp : cp_454_0 v1 N) (hq : Q (.inl none) (mz_k S R (cf_454_0 v1 N) b t)) : mz_Ed (mz_X0 L xs) d 454 [.ref 232, .int v1] (mz_k S R N b t) Q :=
  by
  refine g_in mzq_454 (Nat.le_of_ble_eq_true rfl) (Nat.le_of_ble_eq_true rfl) (Nat.le_trans (Nat.le_of_ble_eq_true rfl) hd) ?_
  refine g_weak ?_ (cg_454_0 (d := d - 1) (by omega) hS hR v1 N (C0 := fun z => Q (.inl none) (mz_k S R z b t)) (fun _ h => h) hp hq)
  exact ⟨rfl, rfl, trivial⟩
/-! 448 KeptHouseModel.factor ()Z -/
theorem ms_448_0 : mz_sf mk_448 0 = mk_448 := mz_sf_zero _
theorem ms_448_23 : mz_sf mk_448 23 = mt_448_23 := mz_sf_add ms_448_0 (t := 23) rfl rfl
theorem ms_448_45 : mz_sf mk_448 45 = mt_448_45 := mz_sf_add ms_448_23 (t := 22) rfl rfl
theorem ms_448_57 : mz_sf mk_448 57 = mt_448_57 := mz_sf_add ms_448_45 (t := 12) rfl rfl
theorem ms_448_83 : mz_sf mk_448 83 = mt_448_83 := mz_sf_add ms_448_57 (t := 26) rfl rfl
theorem ms_448_91 : mz_sf mk_448 91 = mt_448_91 := mz_sf_add ms_448_83 (t := 8) rfl rfl
theorem ms_448_108 : mz_sf mk_448 108 = mt_448_108 := mz_sf_add ms_448_91 (t := 17) rfl rfl
theorem ms_448_122 : mz_sf mk_448 122 = mt_448_122 := mz_sf_add ms_448_108 (t := 14) rfl rfl
theorem ms_448_124 : mz_sf mk_448 124 = mt_448_124 := mz_sf_add ms_448_122 (t := 2) rfl rfl
theorem ms_448_127 : mz_sf mk_448 127 = mt_448_127 := mz_sf_add ms_448_124 (t := 3) rfl rfl
set_option maxRecDepth 100000 in
theorem mzq_448 : mz_PG0 448 = some (12, ⟨"KeptHouseModel", "factor", "()Z"⟩, prog_14_method_61_code, 2, some .boolean, [], mk_448, []) := rfl
theorem cg_448_124 (hd : 3 ≤ d) (hS : mz_extR S 342) (hR : mz_rok R 342)  (s1 : Int32) (N : mz_N) {C0 : (Bool × mz_N) → Prop} (hr : ∀ (w : Bool) (N2 : mz_N), C0 (w, N2) → Q (.inl (some (.int (mz_b01 w)))) (mz_k S R N2 b t)) (hp : cp_448_124 s1 N) (hC : C0 (cf_448_124 s1 N)) : mz_G (d, mz_X0 L xs, some .boolean, [], mk_448, 2, Q) 124 mt_448_124 [] [.int s1, .ref 232] true (mz_k S R N b t) := by
  unfold cf_448_124 at hC
  unfold cp_448_124 at hp
  have h1 := hp
  refine g_v2n (Nat.le_of_ble_eq_true rfl) (mz_at hS (Nat.le_of_ble_eq_true rfl) mzcS_232) (fun _ hq => cs_454 (Nat.le_trans (Nat.le_of_ble_eq_true rfl) hd) (hS.le (Nat.le_of_ble_eq_true rfl)) (hR.le (Nat.le_of_ble_eq_true rfl))  s1 N h1 hq) (g_iconst mzi_0 ?_)
  exact g_zret (z := false) rfl (hr _ _ hC)
theorem cg_448_91 (hd : 3 ≤ d) (hS : mz_extR S 342) (hR : mz_rok R 342)  (N : mz_N) {C0 : (Bool × mz_N) → Prop} (hr : ∀ (w : Bool) (N2 : mz_N), C0 (w, N2) → Q (.inl (some (.int (mz_b01 w)))) (mz_k S R N2 b t)) (hp : cp_448_91 N) (hC : C0 (cf_448_91 N)) : mz_G (d, mz_X0 L xs, some .boolean, [], mk_448, 2, Q) 91 mt_448_91 [(0, .ref 232)] [] true (mz_k S R N b t) := by
  unfold cf_448_91 at hC
  unfold cp_448_91 at hp
  refine g_aload_n rfl (g_getI (mz_at hS (Nat.le_of_ble_eq_true rfl) mzcS_232) mzcf_12_157 (g_bipush mzb_10 ?_))
  refine g_iclt (tg := 108) rfl ms_448_108 hC (fun h1 hC => ?_) (fun h1 hC => ?_)
  · have hp := hp.1 h1
    refine g_aload_n rfl (g_aload_n rfl (g_getI (mz_at hS (Nat.le_of_ble_eq_true rfl) mzcS_232) mzcf_12_152 (g_bipush mzb_45 ?_)))
    refine g_icne (tg := 122) rfl ms_448_122 hC (fun h2 hC => ?_) (fun h2 hC => ?_)
    · have hp := hp.1 h2
      refine g_iconst mzi_1 (g_goto (tg := 124) rfl ms_448_124 ?_)
      refine g_weak ?_ (cg_448_124 hd hS hR 1 N hr hp hC)
      exact trivial
    · have hp := hp.2 h2
      refine g_bipush mzb_40 ?_
      refine g_weak ?_ (cg_448_124 hd hS hR 40 N hr hp hC)
      exact trivial
  · have hp := hp.2 h1
    refine g_aload_n rfl (g_iconst mzi_5 ?_)
    refine g_v2n (Nat.le_of_ble_eq_true rfl) (mz_at hS (Nat.le_of_ble_eq_true rfl) mzcS_232) (fun _ hq => cs_443 (Nat.le_trans (Nat.le_of_ble_eq_true rfl) hd) (hS.le (Nat.le_of_ble_eq_true rfl)) (hR.le (Nat.le_of_ble_eq_true rfl))  5 N trivial hq) (g_goto (tg := 127) rfl ms_448_127 (g_iconst mzi_0 ?_))
    exact g_zret (z := false) rfl (hr _ _ hC)
theorem cg_448_83 (hd : 3 ≤ d) (hS : mz_extR S 342) (hR : mz_rok R 342)  (N : mz_N) {C0 : (Bool × mz_N) → Prop} (hr : ∀ (w : Bool) (N2 : mz_N), C0 (w, N2) → Q (.inl (some (.int (mz_b01 w)))) (mz_k S R N2 b t)) (hp : cp_448_83 N) (hC : C0 (cf_448_83 N)) : mz_G (d, mz_X0 L xs, some .boolean, [], mk_448, 2, Q) 83 mt_448_83 [(0, .ref 232)] [] true (mz_k S R N b t) := by
  unfold cf_448_83 at hC
  unfold cp_448_83 at hp
  refine g_aload_n rfl (g_iconst mzi_2 ?_)
  refine g_v2n (Nat.le_of_ble_eq_true rfl) (mz_at hS (Nat.le_of_ble_eq_true rfl) mzcS_232) (fun _ hq => cs_443 (Nat.le_trans (Nat.le_of_ble_eq_true rfl) hd) (hS.le (Nat.le_of_ble_eq_true rfl)) (hR.le (Nat.le_of_ble_eq_true rfl))  2 N trivial hq) (g_goto (tg := 127) rfl ms_448_127 (g_iconst mzi_0 ?_))
  exact g_zret (z := false) rfl (hr _ _ hC)
theorem cg_448_45 (hd : 3 ≤ d) (hS : mz_extR S 342) (hR : mz_rok R 342)  (v1 : Int32) (N : mz_N) {C0 : (Bool × mz_N) → Prop} (hr : ∀ (w : Bool) (N2 : mz_N), C0 (w, N2) → Q (.inl (some (.int (mz_b01 w)))) (mz_k S R N2 b t)) (hp : cp_448_45 v1 N) (hC : C0 (cf_448_45 v1 N)) : mz_G (d, mz_X0 L xs, some .boolean, [], mk_448, 2, Q) 45 mt_448_45 [(0, .ref 232), (1, .int v1)] [] false (mz_k S R N b t) := by
  unfold cf_448_45 at hC
  unfold cp_448_45 at hp
  refine g_aload_n rfl (g_iconst mzi_1 (g_iload_n rfl ?_))
  obtain ⟨h1, hp⟩ := hp
  refine g_v3n (Nat.le_of_ble_eq_true rfl) (mz_at hS (Nat.le_of_ble_eq_true rfl) mzcS_232) (fun _ hq => cs_449 (Nat.le_trans (Nat.le_of_ble_eq_true rfl) hd) (hS.le (Nat.le_of_ble_eq_true rfl)) (hR.le (Nat.le_of_ble_eq_true rfl))  1 v1 N h1 hq) (g_aload_n rfl ?_)
  have h2 := hp
  refine g_v1n (Nat.le_of_ble_eq_true rfl) (mz_at hS (Nat.le_of_ble_eq_true rfl) mzcS_232) (fun _ hq => cs_450 (Nat.le_trans (Nat.le_of_ble_eq_true rfl) hd) (hS.le (Nat.le_of_ble_eq_true rfl)) (hR.le (Nat.le_of_ble_eq_true rfl))  (cf_449_0 1 v1 N) h2 hq) (g_iconst mzi_1 ?_)
  exact g_zret (z := true) rfl (hr _ _ hC)
theorem cg_448_0 (hd : 3 ≤ d) (hS : mz_extR S 342) (hR : mz_rok R 342)  (N : mz_N) {C0 : (Bool × mz_N) → Prop} (hr : ∀ (w : Bool) (N2 : mz_N), C0 (w, N2) → Q (.inl (some (.int (mz_b01 w)))) (mz_k S R N2 b t)) (hp : cp_448_0 N) (hC : C0 (cf_448_0 N)) : mz_G (d, mz_X0 L xs, some .boolean, [], mk_448, 2, Q) 0 mk_448 [(0, .ref 232)] [] true (mz_k S R N b t) := by
  unfold cf_448_0 at hC
  unfold cp_448_0 at hp
  refine g_aload_n rfl (g_getI (mz_at hS (Nat.le_of_ble_eq_true rfl) mzcS_232) mzcf_12_149 (g_iconst mzi_2 ?_))
  refine g_icne (tg := 23) rfl ms_448_23 hC (fun h1 hC => ?_) (fun h1 hC => ?_)
  · have hp := hp.1 h1
    refine g_aload_n rfl (g_iconst mzi_0 (g_aload_n rfl (g_getI (mz_at hS (Nat.le_of_ble_eq_true rfl) mzcS_232) mzcf_12_153 ?_)))
    obtain ⟨h2, hp⟩ := hp
    refine g_v3n (Nat.le_of_ble_eq_true rfl) (mz_at hS (Nat.le_of_ble_eq_true rfl) mzcS_232) (fun _ hq => cs_449 (Nat.le_trans (Nat.le_of_ble_eq_true rfl) hd) (hS.le (Nat.le_of_ble_eq_true rfl)) (hR.le (Nat.le_of_ble_eq_true rfl))  0 (N.1 232 153) N h2 hq) (g_aload_n rfl ?_)
    have h3 := hp
    refine g_v1n (Nat.le_of_ble_eq_true rfl) (mz_at hS (Nat.le_of_ble_eq_true rfl) mzcS_232) (fun _ hq => cs_450 (Nat.le_trans (Nat.le_of_ble_eq_true rfl) hd) (hS.le (Nat.le_of_ble_eq_true rfl)) (hR.le (Nat.le_of_ble_eq_true rfl))  (cf_449_0 0 (N.1 232 153) N) h3 hq) (g_iconst mzi_1 ?_)
    exact g_zret (z := true) rfl (hr _ _ hC)
  · have hp := hp.2 h1
    refine g_aload_n rfl (g_getI (mz_at hS (Nat.le_of_ble_eq_true rfl) mzcS_232) mzcf_12_149 (g_iconst mzi_1 ?_))
    refine g_icne (tg := 57) rfl ms_448_57 hC (fun h4 hC => ?_) (fun h4 hC => ?_)
    · have hp := hp.1 h4
      refine g_aload_n rfl ?_
      obtain ⟨h5, hp⟩ := hp
      refine g_v1v (Nat.le_of_ble_eq_true rfl) (mz_at hS (Nat.le_of_ble_eq_true rfl) mzcS_232) (fun _ hq => cs_446 (Nat.le_trans (Nat.le_of_ble_eq_true rfl) hd) (hS.le (Nat.le_of_ble_eq_true rfl)) (hR.le (Nat.le_of_ble_eq_true rfl))  N h5 hq) (g_istore_n (Nat.le_of_ble_eq_true rfl) rfl (g_iload_n rfl ?_))
      refine g_ifge (tg := 45) rfl ms_448_45 hC (fun h6 hC => ?_) (fun h6 hC => ?_)
      · have hp := hp.1 h6
        refine g_aload_n rfl (g_iconst mzi_3 ?_)
        refine g_v2n (Nat.le_of_ble_eq_true rfl) (mz_at hS (Nat.le_of_ble_eq_true rfl) mzcS_232) (fun _ hq => cs_443 (Nat.le_trans (Nat.le_of_ble_eq_true rfl) hd) (hS.le (Nat.le_of_ble_eq_true rfl)) (hR.le (Nat.le_of_ble_eq_true rfl))  3 N trivial hq) ?_
        refine g_weak ?_ (g_cl (cg_448_45 hd hS hR (cf_446_0 N) (cf_443_0 3 N) hr hp hC))
        exact ⟨rfl, rfl, trivial⟩
      · have hp := hp.2 h6
        refine g_weak ?_ (g_cl (cg_448_45 hd hS hR (cf_446_0 N) N hr hp hC))
        exact ⟨rfl, rfl, trivial⟩
    · have hp := hp.2 h4
      refine g_aload_n rfl (g_getI (mz_at hS (Nat.le_of_ble_eq_true rfl) mzcS_232) mzcf_12_149 (g_iconst mzi_3 ?_))
      refine g_icne (tg := 83) rfl ms_448_83 hC (fun h8 hC => ?_) (fun h8 hC => ?_)
      · have hp := hp.1 h8
        refine g_aload_n rfl (g_getI (mz_at hS (Nat.le_of_ble_eq_true rfl) mzcS_232) mzcf_12_152 (g_bipush mzb_45 ?_))
        refine g_iceq (tg := 91) rfl ms_448_91 hC (fun h9 hC => ?_) (fun h9 hC => ?_)
        · have hp := hp.1 h9
          refine g_weak ?_ (cg_448_91 hd hS hR N hr hp hC)
          exact ⟨rfl, trivial⟩
        · have hp := hp.2 h9
          refine g_aload_n rfl (g_getI (mz_at hS (Nat.le_of_ble_eq_true rfl) mzcS_232) mzcf_12_152 (g_bipush mzb_40 ?_))
          refine g_iceq (tg := 91) rfl ms_448_91 hC (fun h10 hC => ?_) (fun h10 hC => ?_)
          · have hp := hp.1 h10
            refine g_weak ?_ (cg_448_91 hd hS hR N hr hp hC)
            exact ⟨rfl, trivial⟩
          · have hp := hp.2 h10
            refine g_weak ?_ (cg_448_83 hd hS hR N hr hp hC)
            exact ⟨rfl, trivial⟩
      · have hp := hp.2 h8
        refine g_weak ?_ (cg_448_83 hd hS hR N hr hp hC)
        exact ⟨rfl, trivial⟩
theorem cs_448 (hd : 4 ≤ d) (hS : mz_extR S 342) (hR : mz_rok R 342)  (N : mz_N) (hp : cp_448_0 N) (hq : Q (.inl (some (.int (mz_b01 ((cf_448_0 N).1))))) (mz_k S R ((cf_448_0 N).2) b t)) : mz_Ed (mz_X0 L xs) d 448 [.ref 232] (mz_k S R N b t) Q :=
  by
  refine g_in mzq_448 (Nat.le_of_ble_eq_true rfl) (Nat.le_of_ble_eq_true rfl) (Nat.le_trans (Nat.le_of_ble_eq_true rfl) hd) ?_
  refine g_weak ?_ (cg_448_0 (d := d - 1) (by omega) hS hR N (C0 := fun z => Q (.inl (some (.int (mz_b01 z.1)))) (mz_k S R z.2 b t)) (fun _ _ h => h) hp hq)
  exact ⟨rfl, trivial⟩
/-! 456 KeptHouseModel.strength (I)I -/
theorem ms_456_0 : mz_sf mk_456 0 = mk_456 := mz_sf_zero _
theorem ms_456_10 : mz_sf mk_456 10 = mt_456_10 := mz_sf_add ms_456_0 (t := 10) rfl rfl
theorem ms_456_22 : mz_sf mk_456 22 = mt_456_22 := mz_sf_add ms_456_10 (t := 12) rfl rfl
theorem ms_456_26 : mz_sf mk_456 26 = mt_456_26 := mz_sf_add ms_456_22 (t := 4) rfl rfl
theorem ms_456_38 : mz_sf mk_456 38 = mt_456_38 := mz_sf_add ms_456_26 (t := 12) rfl rfl
theorem ms_456_42 : mz_sf mk_456 42 = mt_456_42 := mz_sf_add ms_456_38 (t := 4) rfl rfl
theorem ms_456_43 : mz_sf mk_456 43 = mt_456_43 := mz_sf_add ms_456_42 (t := 1) rfl rfl
set_option maxRecDepth 100000 in
theorem mzq_456 : mz_PG0 456 = some (12, ⟨"KeptHouseModel", "strength", "(I)I"⟩, prog_14_method_57_code, 1, some .int, [], mk_456, []) := rfl
theorem cg_456_0 (hd : 0 ≤ d) (hS : mz_extR S 342) (hR : mz_rok R 342)  (v0 : Int32) {C0 : (Int32) → Prop} (hr : ∀ (w : Int32), C0 w → Q (.inl (some (.int w))) (mz_k S R N b t)) (hp : cp_456_0 v0) (hC : C0 (cf_456_0 v0)) : mz_G (d, mz_X0 L xs, some .int, [], mk_456, 1, Q) 0 mk_456 [(0, .int v0)] [] true (mz_k S R N b t) := by
  unfold cf_456_0 at hC
  unfold cp_456_0 at hp
  refine g_iload_n rfl (g_bipush mzb_42 ?_)
  refine g_icne (tg := 10) rfl ms_456_10 hC (fun h1 hC => ?_) (fun h1 hC => ?_)
  · refine g_iconst mzi_3 (g_goto (tg := 43) rfl ms_456_43 ?_)
    exact g_iret rfl (hr _ hC)
  · refine g_iload_n rfl (g_bipush mzb_43 ?_)
    refine g_iceq (tg := 22) rfl ms_456_22 hC (fun h2 hC => ?_) (fun h2 hC => ?_)
    · refine g_iconst mzi_2 (g_goto (tg := 43) rfl ms_456_43 ?_)
      exact g_iret rfl (hr _ hC)
    · refine g_iload_n rfl (g_bipush mzb_45 ?_)
      refine g_icne (tg := 26) rfl ms_456_26 hC (fun h3 hC => ?_) (fun h3 hC => ?_)
      · refine g_iconst mzi_2 (g_goto (tg := 43) rfl ms_456_43 ?_)
        exact g_iret rfl (hr _ hC)
      · refine g_iload_n rfl (g_bipush mzb_60 ?_)
        refine g_iceq (tg := 38) rfl ms_456_38 hC (fun h4 hC => ?_) (fun h4 hC => ?_)
        · refine g_iconst mzi_1 (g_goto (tg := 43) rfl ms_456_43 ?_)
          exact g_iret rfl (hr _ hC)
        · refine g_iload_n rfl (g_bipush mzb_62 ?_)
          refine g_icne (tg := 42) rfl ms_456_42 hC (fun h5 hC => ?_) (fun h5 hC => ?_)
          · refine g_iconst mzi_1 (g_goto (tg := 43) rfl ms_456_43 ?_)
            exact g_iret rfl (hr _ hC)
          · refine g_iconst mzi_0 ?_
            exact g_iret rfl (hr _ hC)
theorem cs_456 (hd : 1 ≤ d) (hS : mz_extR S 342) (hR : mz_rok R 342)  (v0 : Int32) (hp : cp_456_0 v0) (hq : Q (.inl (some (.int (cf_456_0 v0)))) (mz_k S R N b t)) : mz_Ed (mz_X0 L xs) d 456 [.int v0] (mz_k S R N b t) Q :=
  by
  refine g_in mzq_456 (Nat.le_of_ble_eq_true rfl) (Nat.le_of_ble_eq_true rfl) (Nat.le_trans (Nat.le_of_ble_eq_true rfl) hd) ?_
  refine g_weak ?_ (cg_456_0 (d := d - 1) (by omega) hS hR v0 (C0 := fun z => Q (.inl (some (.int z))) (mz_k S R N b t)) (fun _ h => h) hp hq)
  exact ⟨rfl, trivial⟩
/-! 457 KeptHouseModel.settleTo (I)V -/
theorem ms_457_0 : mz_sf mk_457 0 = mk_457 := mz_sf_zero _
theorem ms_457_27 : mz_sf mk_457 27 = mt_457_27 := mz_sf_add ms_457_0 (t := 27) rfl rfl
theorem ms_457_34 : mz_sf mk_457 34 = mt_457_34 := mz_sf_add ms_457_27 (t := 7) rfl rfl
set_option maxRecDepth 100000 in
theorem mzq_457 : mz_PG0 457 = some (12, ⟨"KeptHouseModel", "settleTo", "(I)V"⟩, prog_14_method_58_code, 2, none, [], mk_457, []) := rfl
theorem cb_457_0 (hd : 2 ≤ d) (hS : mz_extR S 342) (hR : mz_rok R 342)  (v1 : Int32) (s : mz_N) {C0 : (mz_N) → Prop} (hr : ∀ (N2 : mz_N), C0 N2 → Q (.inl none) (mz_k S R N2 b t)) {C1 : ((mz_N) ⊕ (mz_N)) → Prop} (hc1 : ∀ s2, C1 (.inl s2) → mz_G (d, mz_X0 L xs, none, [], mk_457, 2, Q) 0 mk_457 [(0, .ref 232), (1, .int v1)] [] false (mz_k S R s2 b t)) (hx1 : ∀ z, C1 (.inr z) → C0 z) (hp : cd_457_0 v1 s) (hC : C1 (cq_457_0 v1 s)) : mz_G (d, mz_X0 L xs, none, [], mk_457, 2, Q) 0 mk_457 [(0, .ref 232), (1, .int v1)] [] false (mz_k S R s b t) := by
  unfold cq_457_0 at hC
  unfold cd_457_0 at hp
  refine g_aload_n rfl (g_getI (mz_at hS (Nat.le_of_ble_eq_true rfl) mzcS_232) mzcf_12_156 ?_)
  refine g_ifle (tg := 34) rfl ms_457_34 hC (fun h1 hC => ?_) (fun h1 hC => ?_)
  · have hp := hp.1 h1
    refine g_aload_n rfl ?_
    obtain ⟨h2, hp⟩ := hp
    refine g_v1v (Nat.le_of_ble_eq_true rfl) (mz_at hS (Nat.le_of_ble_eq_true rfl) mzcS_232) (fun _ hq => cs_451 (Nat.le_trans (Nat.le_of_ble_eq_true rfl) hd) (hS.le (Nat.le_of_ble_eq_true rfl)) (hR.le (Nat.le_of_ble_eq_true rfl))  s h2 hq) ?_
    refine g_s1v (Nat.le_of_ble_eq_true rfl) (fun _ hq => cs_456 (Nat.le_trans (Nat.le_of_ble_eq_true rfl) hd) (hS.le (Nat.le_of_ble_eq_true rfl)) (hR.le (Nat.le_of_ble_eq_true rfl))  (cf_451_0 s) trivial hq) (g_iload_n rfl ?_)
    refine g_iclt (tg := 34) rfl ms_457_34 hC (fun h4 hC => ?_) (fun h4 hC => ?_)
    · have hp := hp.1 h4
      exact g_vret rfl (hr _ (hx1 _ hC))
    · have hp := hp.2 h4
      refine g_aload_n rfl (g_aload_n rfl ?_)
      obtain ⟨h5, hp⟩ := hp
      refine g_v1v (Nat.le_of_ble_eq_true rfl) (mz_at hS (Nat.le_of_ble_eq_true rfl) mzcS_232) (fun _ hq => cs_451 (Nat.le_trans (Nat.le_of_ble_eq_true rfl) hd) (hS.le (Nat.le_of_ble_eq_true rfl)) (hR.le (Nat.le_of_ble_eq_true rfl))  s h5 hq) (g_iconst mzi_0 ?_)
      obtain ⟨h6, hp⟩ := hp
      refine g_v3n (Nat.le_of_ble_eq_true rfl) (mz_at hS (Nat.le_of_ble_eq_true rfl) mzcS_232) (fun _ hq => cs_449 (Nat.le_trans (Nat.le_of_ble_eq_true rfl) hd) (hS.le (Nat.le_of_ble_eq_true rfl)) (hR.le (Nat.le_of_ble_eq_true rfl))  (cf_451_0 s) 0 s h6 hq) (g_aload_n rfl ?_)
      have h7 := hp
      refine g_v1n (Nat.le_of_ble_eq_true rfl) (mz_at hS (Nat.le_of_ble_eq_true rfl) mzcS_232) (fun _ hq => cs_452 (Nat.le_trans (Nat.le_of_ble_eq_true rfl) hd) (hS.le (Nat.le_of_ble_eq_true rfl)) (hR.le (Nat.le_of_ble_eq_true rfl))  (cf_449_0 (cf_451_0 s) 0 s) h7 hq) (g_goto (tg := 0) rfl ms_457_0 ?_)
      refine g_weak ?_ (g_cl (hc1 ((cf_452_0 (cf_449_0 (cf_451_0 s) 0 s))) hC))
      exact ⟨rfl, rfl, trivial⟩
  · have hp := hp.2 h1
    exact g_vret rfl (hr _ (hx1 _ hC))
theorem cg_457_0 (hd : 2 ≤ d) (hS : mz_extR S 342) (hR : mz_rok R 342)  (v1 : Int32) (N : mz_N) {C0 : (mz_N) → Prop} (hr : ∀ (N2 : mz_N), C0 N2 → Q (.inl none) (mz_k S R N2 b t)) (hp : cp_457_0 v1 N) (hC : C0 (cf_457_0 v1 N)) : mz_G (d, mz_X0 L xs, none, [], mk_457, 2, Q) 0 mk_457 [(0, .ref 232), (1, .int v1)] [] false (mz_k S R N b t) := by
  obtain ⟨n, hn⟩ := hp
  exact g_loop (G := fun s => mz_G (d, mz_X0 L xs, none, [], mk_457, 2, Q) 0 mk_457 [(0, .ref 232), (1, .int v1)] [] false (mz_k S R s b t)) (C := C0) (fun C2 hc hx s hP hC => cb_457_0 hd hS hR v1 s hr hc hx hP hC) n (N) hn hC
theorem cs_457 (hd : 3 ≤ d) (hS : mz_extR S 342) (hR : mz_rok R 342)  (v1 : Int32) (N : mz_N) (hp : cp_457_0 v1 N) (hq : Q (.inl none) (mz_k S R (cf_457_0 v1 N) b t)) : mz_Ed (mz_X0 L xs) d 457 [.ref 232, .int v1] (mz_k S R N b t) Q :=
  by
  refine g_in mzq_457 (Nat.le_of_ble_eq_true rfl) (Nat.le_of_ble_eq_true rfl) (Nat.le_trans (Nat.le_of_ble_eq_true rfl) hd) ?_
  refine g_weak ?_ (g_cl (cg_457_0 (d := d - 1) (by omega) hS hR v1 N (C0 := fun z => Q (.inl none) (mz_k S R z b t)) (fun _ h => h) hp hq))
  exact ⟨rfl, rfl, trivial⟩
/-! 458 KeptHouseModel.settleAll ()V -/
theorem ms_458_0 : mz_sf mk_458 0 = mk_458 := mz_sf_zero _
theorem ms_458_5 : mz_sf mk_458 5 = mt_458_5 := mz_sf_add ms_458_0 (t := 5) rfl rfl
theorem ms_458_30 : mz_sf mk_458 30 = mt_458_30 := mz_sf_add ms_458_5 (t := 25) rfl rfl
theorem ms_458_38 : mz_sf mk_458 38 = mt_458_38 := mz_sf_add ms_458_30 (t := 8) rfl rfl
set_option maxRecDepth 100000 in
theorem mzq_458 : mz_PG0 458 = some (12, ⟨"KeptHouseModel", "settleAll", "()V"⟩, prog_14_method_59_code, 1, none, [], mk_458, []) := rfl
theorem cb_458_5 (hd : 3 ≤ d) (hS : mz_extR S 342) (hR : mz_rok R 342)   (s : mz_N) {C0 : (mz_N) → Prop} (hr : ∀ (N2 : mz_N), C0 N2 → Q (.inl none) (mz_k S R N2 b t)) {C1 : ((mz_N) ⊕ (mz_N)) → Prop} (hc1 : ∀ s2, C1 (.inl s2) → mz_G (d, mz_X0 L xs, none, [], mk_458, 1, Q) 5 mt_458_5 [(0, .ref 232)] [] false (mz_k S R s2 b t)) (hx1 : ∀ z, C1 (.inr z) → C0 z) (hp : cd_458_5  s) (hC : C1 (cq_458_5  s)) : mz_G (d, mz_X0 L xs, none, [], mk_458, 1, Q) 5 mt_458_5 [(0, .ref 232)] [] false (mz_k S R s b t) := by
  unfold cq_458_5 at hC
  unfold cd_458_5 at hp
  refine g_aload_n rfl ?_
  obtain ⟨h1, hp⟩ := hp
  refine g_v1v (Nat.le_of_ble_eq_true rfl) (mz_at hS (Nat.le_of_ble_eq_true rfl) mzcS_232) (fun _ hq => cs_451 (Nat.le_trans (Nat.le_of_ble_eq_true rfl) hd) (hS.le (Nat.le_of_ble_eq_true rfl)) (hR.le (Nat.le_of_ble_eq_true rfl))  s h1 hq) (g_iconst mzi_3 ?_)
  refine g_icne (tg := 38) rfl ms_458_38 hC (fun h2 hC => ?_) (fun h2 hC => ?_)
  · have hp := hp.1 h2
    refine g_aload_n rfl (g_getI (mz_at hS (Nat.le_of_ble_eq_true rfl) mzcS_232) mzcf_12_156 ?_)
    refine g_ifle (tg := 38) rfl ms_458_38 hC (fun h3 hC => ?_) (fun h3 hC => ?_)
    · have hp := hp.1 h3
      refine g_aload_n rfl (g_iconst mzi_3 (g_iconst mzi_0 ?_))
      obtain ⟨h4, hp⟩ := hp
      refine g_v3n (Nat.le_of_ble_eq_true rfl) (mz_at hS (Nat.le_of_ble_eq_true rfl) mzcS_232) (fun _ hq => cs_449 (Nat.le_trans (Nat.le_of_ble_eq_true rfl) hd) (hS.le (Nat.le_of_ble_eq_true rfl)) (hR.le (Nat.le_of_ble_eq_true rfl))  3 0 s h4 hq) (g_aload_n rfl ?_)
      obtain ⟨h5, hp⟩ := hp
      refine g_v1n (Nat.le_of_ble_eq_true rfl) (mz_at hS (Nat.le_of_ble_eq_true rfl) mzcS_232) (fun _ hq => cs_452 (Nat.le_trans (Nat.le_of_ble_eq_true rfl) hd) (hS.le (Nat.le_of_ble_eq_true rfl)) (hR.le (Nat.le_of_ble_eq_true rfl))  (cf_449_0 3 0 s) h5 hq) (g_aload_n rfl (g_iconst mzi_1 ?_))
      have h6 := hp
      refine g_v2n (Nat.le_of_ble_eq_true rfl) (mz_at hS (Nat.le_of_ble_eq_true rfl) mzcS_232) (fun _ hq => cs_457 (Nat.le_trans (Nat.le_of_ble_eq_true rfl) hd) (hS.le (Nat.le_of_ble_eq_true rfl)) (hR.le (Nat.le_of_ble_eq_true rfl))  1 (cf_452_0 (cf_449_0 3 0 s)) h6 hq) (g_goto (tg := 5) rfl ms_458_5 ?_)
      refine g_weak ?_ (g_cl (hc1 ((cf_457_0 1 (cf_452_0 (cf_449_0 3 0 s)))) hC))
      exact ⟨rfl, trivial⟩
    · have hp := hp.2 h3
      exact g_vret rfl (hr _ (hx1 _ hC))
  · have hp := hp.2 h2
    exact g_vret rfl (hr _ (hx1 _ hC))
theorem cg_458_5 (hd : 3 ≤ d) (hS : mz_extR S 342) (hR : mz_rok R 342)  (N : mz_N) {C0 : (mz_N) → Prop} (hr : ∀ (N2 : mz_N), C0 N2 → Q (.inl none) (mz_k S R N2 b t)) (hp : cp_458_5 N) (hC : C0 (cf_458_5 N)) : mz_G (d, mz_X0 L xs, none, [], mk_458, 1, Q) 5 mt_458_5 [(0, .ref 232)] [] false (mz_k S R N b t) := by
  obtain ⟨n, hn⟩ := hp
  exact g_loop (G := fun s => mz_G (d, mz_X0 L xs, none, [], mk_458, 1, Q) 5 mt_458_5 [(0, .ref 232)] [] false (mz_k S R s b t)) (C := C0) (fun C2 hc hx s hP hC => cb_458_5 hd hS hR  s hr hc hx hP hC) n (N) hn hC
theorem cg_458_0 (hd : 3 ≤ d) (hS : mz_extR S 342) (hR : mz_rok R 342)  (N : mz_N) {C0 : (mz_N) → Prop} (hr : ∀ (N2 : mz_N), C0 N2 → Q (.inl none) (mz_k S R N2 b t)) (hp : cp_458_0 N) (hC : C0 (cf_458_0 N)) : mz_G (d, mz_X0 L xs, none, [], mk_458, 1, Q) 0 mk_458 [(0, .ref 232)] [] true (mz_k S R N b t) := by
  unfold cf_458_0 at hC
  unfold cp_458_0 at hp
  refine g_aload_n rfl (g_iconst mzi_1 ?_)
  obtain ⟨h1, hp⟩ := hp
  refine g_v2n (Nat.le_of_ble_eq_true rfl) (mz_at hS (Nat.le_of_ble_eq_true rfl) mzcS_232) (fun _ hq => cs_457 (Nat.le_trans (Nat.le_of_ble_eq_true rfl) hd) (hS.le (Nat.le_of_ble_eq_true rfl)) (hR.le (Nat.le_of_ble_eq_true rfl))  1 N h1 hq) ?_
  refine g_weak ?_ (g_cl (cg_458_5 hd hS hR (cf_457_0 1 N) hr hp hC))
  exact ⟨rfl, trivial⟩
theorem cs_458 (hd : 4 ≤ d) (hS : mz_extR S 342) (hR : mz_rok R 342)  (N : mz_N) (hp : cp_458_0 N) (hq : Q (.inl none) (mz_k S R (cf_458_0 N) b t)) : mz_Ed (mz_X0 L xs) d 458 [.ref 232] (mz_k S R N b t) Q :=
  by
  refine g_in mzq_458 (Nat.le_of_ble_eq_true rfl) (Nat.le_of_ble_eq_true rfl) (Nat.le_trans (Nat.le_of_ble_eq_true rfl) hd) ?_
  refine g_weak ?_ (cg_458_0 (d := d - 1) (by omega) hS hR N (C0 := fun z => Q (.inl none) (mz_k S R z b t)) (fun _ h => h) hp hq)
  exact ⟨rfl, trivial⟩
/-! 455 KeptHouseModel.behind ()Z -/
theorem ms_455_0 : mz_sf mk_455 0 = mk_455 := mz_sf_zero _
theorem ms_455_15 : mz_sf mk_455 15 = mt_455_15 := mz_sf_add ms_455_0 (t := 15) rfl rfl
theorem ms_455_41 : mz_sf mk_455 41 = mt_455_41 := mz_sf_add ms_455_15 (t := 26) rfl rfl
theorem ms_455_43 : mz_sf mk_455 43 = mt_455_43 := mz_sf_add ms_455_41 (t := 2) rfl rfl
theorem ms_455_69 : mz_sf mk_455 69 = mt_455_69 := mz_sf_add ms_455_43 (t := 26) rfl rfl
theorem ms_455_79 : mz_sf mk_455 79 = mt_455_79 := mz_sf_add ms_455_69 (t := 10) rfl rfl
theorem ms_455_107 : mz_sf mk_455 107 = mt_455_107 := mz_sf_add ms_455_79 (t := 28) rfl rfl
theorem ms_455_114 : mz_sf mk_455 114 = mt_455_114 := mz_sf_add ms_455_107 (t := 7) rfl rfl
theorem ms_455_142 : mz_sf mk_455 142 = mt_455_142 := mz_sf_add ms_455_114 (t := 28) rfl rfl
theorem ms_455_156 : mz_sf mk_455 156 = mt_455_156 := mz_sf_add ms_455_142 (t := 14) rfl rfl
theorem ms_455_182 : mz_sf mk_455 182 = mt_455_182 := mz_sf_add ms_455_156 (t := 26) rfl rfl
theorem ms_455_184 : mz_sf mk_455 184 = mt_455_184 := mz_sf_add ms_455_182 (t := 2) rfl rfl
theorem ms_455_200 : mz_sf mk_455 200 = mt_455_200 := mz_sf_add ms_455_184 (t := 16) rfl rfl
theorem ms_455_205 : mz_sf mk_455 205 = mt_455_205 := mz_sf_add ms_455_200 (t := 5) rfl rfl
set_option maxRecDepth 100000 in
theorem mzq_455 : mz_PG0 455 = some (12, ⟨"KeptHouseModel", "behind", "()Z"⟩, prog_14_method_62_code, 2, some .boolean, [], mk_455, []) := rfl
theorem cg_455_41 (hd : 4 ≤ d) (hS : mz_extR S 342) (hR : mz_rok R 342)  (N : mz_N) {C0 : (Bool × mz_N) → Prop} (hr : ∀ (w : Bool) (N2 : mz_N), C0 (w, N2) → Q (.inl (some (.int (mz_b01 w)))) (mz_k S R N2 b t)) (hp : cp_455_41 N) (hC : C0 (cf_455_41 N)) : mz_G (d, mz_X0 L xs, some .boolean, [], mk_455, 2, Q) 41 mt_455_41 [] [] false (mz_k S R N b t) := by
  unfold cf_455_41 at hC
  unfold cp_455_41 at hp
  refine g_iconst mzi_1 ?_
  exact g_zret (z := true) rfl (hr _ _ hC)
theorem cg_455_107 (hd : 4 ≤ d) (hS : mz_extR S 342) (hR : mz_rok R 342)  (N : mz_N) {C0 : (Bool × mz_N) → Prop} (hr : ∀ (w : Bool) (N2 : mz_N), C0 (w, N2) → Q (.inl (some (.int (mz_b01 w)))) (mz_k S R N2 b t)) (hp : cp_455_107 N) (hC : C0 (cf_455_107 N)) : mz_G (d, mz_X0 L xs, some .boolean, [], mk_455, 2, Q) 107 mt_455_107 [(0, .ref 232)] [] false (mz_k S R N b t) := by
  unfold cf_455_107 at hC
  unfold cp_455_107 at hp
  refine g_aload_n rfl (g_iconst mzi_2 ?_)
  have h1 := hp
  refine g_v2n (Nat.le_of_ble_eq_true rfl) (mz_at hS (Nat.le_of_ble_eq_true rfl) mzcS_232) (fun _ hq => cs_454 (Nat.le_trans (Nat.le_of_ble_eq_true rfl) hd) (hS.le (Nat.le_of_ble_eq_true rfl)) (hR.le (Nat.le_of_ble_eq_true rfl))  2 N h1 hq) (g_iconst mzi_1 ?_)
  exact g_zret (z := true) rfl (hr _ _ hC)
theorem cg_455_200 (hd : 4 ≤ d) (hS : mz_extR S 342) (hR : mz_rok R 342)  (N : mz_N) {C0 : (Bool × mz_N) → Prop} (hr : ∀ (w : Bool) (N2 : mz_N), C0 (w, N2) → Q (.inl (some (.int (mz_b01 w)))) (mz_k S R N2 b t)) (hp : cp_455_200 N) (hC : C0 (cf_455_200 N)) : mz_G (d, mz_X0 L xs, some .boolean, [], mk_455, 2, Q) 200 mt_455_200 [(0, .ref 232)] [] false (mz_k S R N b t) := by
  unfold cf_455_200 at hC
  unfold cp_455_200 at hp
  refine g_aload_n rfl (g_iconst mzi_2 ?_)
  refine g_v2n (Nat.le_of_ble_eq_true rfl) (mz_at hS (Nat.le_of_ble_eq_true rfl) mzcS_232) (fun _ hq => cs_443 (Nat.le_trans (Nat.le_of_ble_eq_true rfl) hd) (hS.le (Nat.le_of_ble_eq_true rfl)) (hR.le (Nat.le_of_ble_eq_true rfl))  2 N trivial hq) (g_iconst mzi_0 ?_)
  exact g_zret (z := false) rfl (hr _ _ hC)
theorem cg_455_184 (hd : 4 ≤ d) (hS : mz_extR S 342) (hR : mz_rok R 342)  (N : mz_N) {C0 : (Bool × mz_N) → Prop} (hr : ∀ (w : Bool) (N2 : mz_N), C0 (w, N2) → Q (.inl (some (.int (mz_b01 w)))) (mz_k S R N2 b t)) (hp : cp_455_184 N) (hC : C0 (cf_455_184 N)) : mz_G (d, mz_X0 L xs, some .boolean, [], mk_455, 2, Q) 184 mt_455_184 [(0, .ref 232)] [] false (mz_k S R N b t) := by
  unfold cf_455_184 at hC
  unfold cp_455_184 at hp
  refine g_aload_n rfl (g_getI (mz_at hS (Nat.le_of_ble_eq_true rfl) mzcS_232) mzcf_12_152 (g_bipush mzb_59 ?_))
  refine g_icne (tg := 200) rfl ms_455_200 hC (fun h1 hC => ?_) (fun h1 hC => ?_)
  · have hp := hp.1 h1
    refine g_aload_n rfl (g_getI (mz_at hS (Nat.le_of_ble_eq_true rfl) mzcS_232) mzcf_12_156 ?_)
    refine g_ifle (tg := 205) rfl ms_455_205 hC (fun h2 hC => ?_) (fun h2 hC => ?_)
    · have hp := hp.1 h2
      refine g_weak ?_ (g_cl (cg_455_200 hd hS hR N hr hp hC))
      exact ⟨rfl, trivial⟩
    · have hp := hp.2 h2
      refine g_iconst mzi_0 ?_
      exact g_zret (z := false) rfl (hr _ _ hC)
  · have hp := hp.2 h1
    refine g_weak ?_ (g_cl (cg_455_200 hd hS hR N hr hp hC))
    exact ⟨rfl, trivial⟩
theorem cg_455_156 (hd : 4 ≤ d) (hS : mz_extR S 342) (hR : mz_rok R 342)  (N : mz_N) {C0 : (Bool × mz_N) → Prop} (hr : ∀ (w : Bool) (N2 : mz_N), C0 (w, N2) → Q (.inl (some (.int (mz_b01 w)))) (mz_k S R N2 b t)) (hp : cp_455_156 N) (hC : C0 (cf_455_156 N)) : mz_G (d, mz_X0 L xs, some .boolean, [], mk_455, 2, Q) 156 mt_455_156 [(0, .ref 232)] [] false (mz_k S R N b t) := by
  unfold cf_455_156 at hC
  unfold cp_455_156 at hp
  refine g_aload_n rfl (g_getI (mz_at hS (Nat.le_of_ble_eq_true rfl) mzcS_232) mzcf_12_152 (g_bipush mzb_41 ?_))
  refine g_icne (tg := 184) rfl ms_455_184 hC (fun h1 hC => ?_) (fun h1 hC => ?_)
  · have hp := hp.1 h1
    refine g_aload_n rfl ?_
    obtain ⟨h2, hp⟩ := hp
    refine g_v1v (Nat.le_of_ble_eq_true rfl) (mz_at hS (Nat.le_of_ble_eq_true rfl) mzcS_232) (fun _ hq => cs_451 (Nat.le_trans (Nat.le_of_ble_eq_true rfl) hd) (hS.le (Nat.le_of_ble_eq_true rfl)) (hR.le (Nat.le_of_ble_eq_true rfl))  N h2 hq) (g_bipush mzb_40 ?_)
    refine g_icne (tg := 184) rfl ms_455_184 hC (fun h3 hC => ?_) (fun h3 hC => ?_)
    · have hp := hp.1 h3
      refine g_aload_n rfl ?_
      obtain ⟨h4, hp⟩ := hp
      refine g_v1n (Nat.le_of_ble_eq_true rfl) (mz_at hS (Nat.le_of_ble_eq_true rfl) mzcS_232) (fun _ hq => cs_452 (Nat.le_trans (Nat.le_of_ble_eq_true rfl) hd) (hS.le (Nat.le_of_ble_eq_true rfl)) (hR.le (Nat.le_of_ble_eq_true rfl))  N h4 hq) (g_aload_n rfl ?_)
      have h5 := hp
      refine g_v1n (Nat.le_of_ble_eq_true rfl) (mz_at hS (Nat.le_of_ble_eq_true rfl) mzcS_232) (fun _ hq => cs_450 (Nat.le_trans (Nat.le_of_ble_eq_true rfl) hd) (hS.le (Nat.le_of_ble_eq_true rfl)) (hR.le (Nat.le_of_ble_eq_true rfl))  (cf_452_0 N) h5 hq) (g_iconst mzi_0 ?_)
      exact g_zret (z := false) rfl (hr _ _ hC)
    · have hp := hp.2 h3
      refine g_weak ?_ (g_cl (cg_455_184 hd hS hR N hr hp hC))
      exact ⟨rfl, trivial⟩
  · have hp := hp.2 h1
    refine g_weak ?_ (g_cl (cg_455_184 hd hS hR N hr hp hC))
    exact ⟨rfl, trivial⟩
theorem cg_455_69 (hd : 4 ≤ d) (hS : mz_extR S 342) (hR : mz_rok R 342)  (N : mz_N) {C0 : (Bool × mz_N) → Prop} (hr : ∀ (w : Bool) (N2 : mz_N), C0 (w, N2) → Q (.inl (some (.int (mz_b01 w)))) (mz_k S R N2 b t)) (hp : cp_455_69 N) (hC : C0 (cf_455_69 N)) : mz_G (d, mz_X0 L xs, some .boolean, [], mk_455, 2, Q) 69 mt_455_69 [(0, .ref 232)] [] false (mz_k S R N b t) := by
  unfold cf_455_69 at hC
  unfold cp_455_69 at hp
  refine g_aload_n rfl (g_aload_n rfl (g_getI (mz_at hS (Nat.le_of_ble_eq_true rfl) mzcS_232) mzcf_12_152 ?_))
  have h1 := hp
  refine g_v2n (Nat.le_of_ble_eq_true rfl) (mz_at hS (Nat.le_of_ble_eq_true rfl) mzcS_232) (fun _ hq => cs_454 (Nat.le_trans (Nat.le_of_ble_eq_true rfl) hd) (hS.le (Nat.le_of_ble_eq_true rfl)) (hR.le (Nat.le_of_ble_eq_true rfl))  (N.1 232 152) N h1 hq) (g_iconst mzi_1 ?_)
  exact g_zret (z := true) rfl (hr _ _ hC)
theorem cg_455_0 (hd : 4 ≤ d) (hS : mz_extR S 342) (hR : mz_rok R 342)  (N : mz_N) {C0 : (Bool × mz_N) → Prop} (hr : ∀ (w : Bool) (N2 : mz_N), C0 (w, N2) → Q (.inl (some (.int (mz_b01 w)))) (mz_k S R N2 b t)) (hp : cp_455_0 N) (hC : C0 (cf_455_0 N)) : mz_G (d, mz_X0 L xs, some .boolean, [], mk_455, 2, Q) 0 mk_455 [(0, .ref 232)] [] true (mz_k S R N b t) := by
  unfold cf_455_0 at hC
  unfold cp_455_0 at hp
  refine g_aload_n rfl (g_getI (mz_at hS (Nat.le_of_ble_eq_true rfl) mzcS_232) mzcf_12_149 (g_iconst mzi_3 ?_))
  refine g_iceq (tg := 15) rfl ms_455_15 hC (fun h1 hC => ?_) (fun h1 hC => ?_)
  · have hp := hp.1 h1
    refine g_aload_n rfl (g_getI (mz_at hS (Nat.le_of_ble_eq_true rfl) mzcS_232) mzcf_12_152 ?_)
    refine g_s1v (Nat.le_of_ble_eq_true rfl) (fun _ hq => cs_456 (Nat.le_trans (Nat.le_of_ble_eq_true rfl) hd) (hS.le (Nat.le_of_ble_eq_true rfl)) (hR.le (Nat.le_of_ble_eq_true rfl))  (N.1 232 152) trivial hq) (g_istore_n (Nat.le_of_ble_eq_true rfl) rfl (g_iload_n rfl (g_iconst mzi_1 ?_)))
    refine g_icle (tg := 43) rfl ms_455_43 hC (fun h3 hC => ?_) (fun h3 hC => ?_)
    · have hp := hp.1 h3
      refine g_aload_n rfl (g_iload_n rfl ?_)
      obtain ⟨h4, hp⟩ := hp
      refine g_v2n (Nat.le_of_ble_eq_true rfl) (mz_at hS (Nat.le_of_ble_eq_true rfl) mzcS_232) (fun _ hq => cs_457 (Nat.le_trans (Nat.le_of_ble_eq_true rfl) hd) (hS.le (Nat.le_of_ble_eq_true rfl)) (hR.le (Nat.le_of_ble_eq_true rfl))  (cf_456_0 (N.1 232 152)) N h4 hq) (g_aload_n rfl (g_aload_n rfl (g_getI (mz_at hS (Nat.le_of_ble_eq_true rfl) mzcS_232) mzcf_12_152 ?_)))
      obtain ⟨h5, hp⟩ := hp
      refine g_v2n (Nat.le_of_ble_eq_true rfl) (mz_at hS (Nat.le_of_ble_eq_true rfl) mzcS_232) (fun _ hq => cs_454 (Nat.le_trans (Nat.le_of_ble_eq_true rfl) hd) (hS.le (Nat.le_of_ble_eq_true rfl)) (hR.le (Nat.le_of_ble_eq_true rfl))  ((cf_457_0 (cf_456_0 (N.1 232 152)) N).1 232 152) (cf_457_0 (cf_456_0 (N.1 232 152)) N) h5 hq) ?_
      refine g_weak ?_ (g_cl (cg_455_41 hd hS hR (cf_454_0 ((cf_457_0 (cf_456_0 (N.1 232 152)) N).1 232 152) (cf_457_0 (cf_456_0 (N.1 232 152)) N)) hr hp hC))
      exact trivial
    · have hp := hp.2 h3
      refine g_iload_n rfl (g_iconst mzi_1 ?_)
      refine g_icne (tg := 79) rfl ms_455_79 hC (fun h6 hC => ?_) (fun h6 hC => ?_)
      · have hp := hp.1 h6
        refine g_aload_n rfl (g_iconst mzi_2 ?_)
        obtain ⟨h7, hp⟩ := hp
        refine g_v2n (Nat.le_of_ble_eq_true rfl) (mz_at hS (Nat.le_of_ble_eq_true rfl) mzcS_232) (fun _ hq => cs_457 (Nat.le_trans (Nat.le_of_ble_eq_true rfl) hd) (hS.le (Nat.le_of_ble_eq_true rfl)) (hR.le (Nat.le_of_ble_eq_true rfl))  2 N h7 hq) (g_aload_n rfl ?_)
        obtain ⟨h8, hp⟩ := hp
        refine g_v1v (Nat.le_of_ble_eq_true rfl) (mz_at hS (Nat.le_of_ble_eq_true rfl) mzcS_232) (fun _ hq => cs_451 (Nat.le_trans (Nat.le_of_ble_eq_true rfl) hd) (hS.le (Nat.le_of_ble_eq_true rfl)) (hR.le (Nat.le_of_ble_eq_true rfl))  (cf_457_0 2 N) h8 hq) ?_
        refine g_s1v (Nat.le_of_ble_eq_true rfl) (fun _ hq => cs_456 (Nat.le_trans (Nat.le_of_ble_eq_true rfl) hd) (hS.le (Nat.le_of_ble_eq_true rfl)) (hR.le (Nat.le_of_ble_eq_true rfl))  (cf_451_0 (cf_457_0 2 N)) trivial hq) (g_iconst mzi_1 ?_)
        refine g_icne (tg := 69) rfl ms_455_69 hC (fun h10 hC => ?_) (fun h10 hC => ?_)
        · have hp := hp.1 h10
          refine g_aload_n rfl (g_iconst mzi_2 ?_)
          refine g_v2n (Nat.le_of_ble_eq_true rfl) (mz_at hS (Nat.le_of_ble_eq_true rfl) mzcS_232) (fun _ hq => cs_443 (Nat.le_trans (Nat.le_of_ble_eq_true rfl) hd) (hS.le (Nat.le_of_ble_eq_true rfl)) (hR.le (Nat.le_of_ble_eq_true rfl))  2 (cf_457_0 2 N) trivial hq) ?_
          refine g_weak ?_ (g_cl (cg_455_69 hd hS hR (cf_443_0 2 (cf_457_0 2 N)) hr hp hC))
          exact ⟨rfl, trivial⟩
        · have hp := hp.2 h10
          refine g_weak ?_ (g_cl (cg_455_69 hd hS hR (cf_457_0 2 N) hr hp hC))
          exact ⟨rfl, trivial⟩
      · have hp := hp.2 h6
        refine g_aload_n rfl (g_getI (mz_at hS (Nat.le_of_ble_eq_true rfl) mzcS_232) mzcf_12_152 (g_bipush mzb_63 ?_))
        refine g_icne (tg := 114) rfl ms_455_114 hC (fun h12 hC => ?_) (fun h12 hC => ?_)
        · have hp := hp.1 h12
          refine g_aload_n rfl (g_iconst mzi_1 ?_)
          obtain ⟨h13, hp⟩ := hp
          refine g_v2n (Nat.le_of_ble_eq_true rfl) (mz_at hS (Nat.le_of_ble_eq_true rfl) mzcS_232) (fun _ hq => cs_457 (Nat.le_trans (Nat.le_of_ble_eq_true rfl) hd) (hS.le (Nat.le_of_ble_eq_true rfl)) (hR.le (Nat.le_of_ble_eq_true rfl))  1 N h13 hq) (g_aload_n rfl (g_getI (mz_at hS (Nat.le_of_ble_eq_true rfl) mzcS_232) mzcf_12_157 (g_bipush mzb_10 ?_)))
          refine g_iclt (tg := 107) rfl ms_455_107 hC (fun h14 hC => ?_) (fun h14 hC => ?_)
          · have hp := hp.1 h14
            refine g_weak ?_ (g_cl (cg_455_107 hd hS hR (cf_457_0 1 N) hr hp hC))
            exact ⟨rfl, trivial⟩
          · have hp := hp.2 h14
            refine g_aload_n rfl (g_iconst mzi_5 ?_)
            refine g_v2n (Nat.le_of_ble_eq_true rfl) (mz_at hS (Nat.le_of_ble_eq_true rfl) mzcS_232) (fun _ hq => cs_443 (Nat.le_trans (Nat.le_of_ble_eq_true rfl) hd) (hS.le (Nat.le_of_ble_eq_true rfl)) (hR.le (Nat.le_of_ble_eq_true rfl))  5 (cf_457_0 1 N) trivial hq) ?_
            refine g_weak ?_ (g_cl (cg_455_107 hd hS hR (cf_443_0 5 (cf_457_0 1 N)) hr hp hC))
            exact ⟨rfl, trivial⟩
        · have hp := hp.2 h12
          refine g_aload_n rfl ?_
          obtain ⟨h16, hp⟩ := hp
          refine g_v1n (Nat.le_of_ble_eq_true rfl) (mz_at hS (Nat.le_of_ble_eq_true rfl) mzcS_232) (fun _ hq => cs_458 (Nat.le_trans (Nat.le_of_ble_eq_true rfl) hd) (hS.le (Nat.le_of_ble_eq_true rfl)) (hR.le (Nat.le_of_ble_eq_true rfl))  N h16 hq) (g_aload_n rfl (g_getI (mz_at hS (Nat.le_of_ble_eq_true rfl) mzcS_232) mzcf_12_152 (g_bipush mzb_58 ?_)))
          refine g_icne (tg := 156) rfl ms_455_156 hC (fun h17 hC => ?_) (fun h17 hC => ?_)
          · have hp := hp.1 h17
            refine g_aload_n rfl ?_
            obtain ⟨h18, hp⟩ := hp
            refine g_v1v (Nat.le_of_ble_eq_true rfl) (mz_at hS (Nat.le_of_ble_eq_true rfl) mzcS_232) (fun _ hq => cs_451 (Nat.le_trans (Nat.le_of_ble_eq_true rfl) hd) (hS.le (Nat.le_of_ble_eq_true rfl)) (hR.le (Nat.le_of_ble_eq_true rfl))  (cf_458_0 N) h18 hq) (g_iconst mzi_2 ?_)
            refine g_icne (tg := 156) rfl ms_455_156 hC (fun h19 hC => ?_) (fun h19 hC => ?_)
            · have hp := hp.1 h19
              refine g_aload_n rfl (g_getI (mz_at hS (Nat.le_of_ble_eq_true rfl) mzcS_232) mzcf_12_156 ?_)
              refine g_ifle (tg := 156) rfl ms_455_156 hC (fun h20 hC => ?_) (fun h20 hC => ?_)
              · have hp := hp.1 h20
                refine g_aload_n rfl (g_getR (mz_at hS (Nat.le_of_ble_eq_true rfl) mzcS_232) mzcf_12_155 (mz_rb hR (Nat.le_of_ble_eq_true rfl) rfl mzcR_232_155) (g_aload_n rfl (g_getI (mz_at hS (Nat.le_of_ble_eq_true rfl) mzcS_232) mzcf_12_156 (g_iconst mzi_1 (g_isub (g_iconst mzi_3 ?_))))))
                have h21 := hp
                refine g_iast (mz_at hS (Nat.le_of_ble_eq_true rfl) mzcS_339) h21 (g_iconst mzi_1 ?_)
                exact g_zret (z := true) rfl (hr _ _ hC)
              · have hp := hp.2 h20
                refine g_weak ?_ (g_cl (cg_455_156 hd hS hR (cf_458_0 N) hr hp hC))
                exact ⟨rfl, trivial⟩
            · have hp := hp.2 h19
              refine g_weak ?_ (g_cl (cg_455_156 hd hS hR (cf_458_0 N) hr hp hC))
              exact ⟨rfl, trivial⟩
          · have hp := hp.2 h17
            refine g_weak ?_ (g_cl (cg_455_156 hd hS hR (cf_458_0 N) hr hp hC))
            exact ⟨rfl, trivial⟩
  · have hp := hp.2 h1
    refine g_aload_n rfl (g_iconst mzi_2 ?_)
    refine g_v2n (Nat.le_of_ble_eq_true rfl) (mz_at hS (Nat.le_of_ble_eq_true rfl) mzcS_232) (fun _ hq => cs_443 (Nat.le_trans (Nat.le_of_ble_eq_true rfl) hd) (hS.le (Nat.le_of_ble_eq_true rfl)) (hR.le (Nat.le_of_ble_eq_true rfl))  2 N trivial hq) (g_iconst mzi_0 ?_)
    exact g_zret (z := false) rfl (hr _ _ hC)
theorem cs_455 (hd : 5 ≤ d) (hS : mz_extR S 342) (hR : mz_rok R 342)  (N : mz_N) (hp : cp_455_0 N) (hq : Q (.inl (some (.int (mz_b01 ((cf_455_0 N).1))))) (mz_k S R ((cf_455_0 N).2) b t)) : mz_Ed (mz_X0 L xs) d 455 [.ref 232] (mz_k S R N b t) Q :=
  by
  refine g_in mzq_455 (Nat.le_of_ble_eq_true rfl) (Nat.le_of_ble_eq_true rfl) (Nat.le_trans (Nat.le_of_ble_eq_true rfl) hd) ?_
  refine g_weak ?_ (cg_455_0 (d := d - 1) (by omega) hS hR N (C0 := fun z => Q (.inl (some (.int (mz_b01 z.1)))) (mz_k S R z.2 b t)) (fun _ _ h => h) hp hq)
  exact ⟨rfl, trivial⟩
/-! 447 KeptHouseModel.expression ()V -/
theorem ms_447_0 : mz_sf mk_447 0 = mk_447 := mz_sf_zero _
theorem ms_447_14 : mz_sf mk_447 14 = mt_447_14 := mz_sf_add ms_447_0 (t := 14) rfl rfl
theorem ms_447_40 : mz_sf mk_447 40 = mt_447_40 := mz_sf_add ms_447_14 (t := 26) rfl rfl
theorem ms_447_51 : mz_sf mk_447 51 = mt_447_51 := mz_sf_add ms_447_40 (t := 11) rfl rfl
theorem ms_447_52 : mz_sf mk_447 52 = mt_447_52 := mz_sf_add ms_447_51 (t := 1) rfl rfl
theorem ms_447_56 : mz_sf mk_447 56 = mt_447_56 := mz_sf_add ms_447_52 (t := 4) rfl rfl
theorem ms_447_81 : mz_sf mk_447 81 = mt_447_81 := mz_sf_add ms_447_56 (t := 25) rfl rfl
theorem ms_447_89 : mz_sf mk_447 89 = mt_447_89 := mz_sf_add ms_447_81 (t := 8) rfl rfl
theorem ms_447_93 : mz_sf mk_447 93 = mt_447_93 := mz_sf_add ms_447_89 (t := 4) rfl rfl
theorem ms_447_94 : mz_sf mk_447 94 = mt_447_94 := mz_sf_add ms_447_93 (t := 1) rfl rfl
theorem ms_447_98 : mz_sf mk_447 98 = mt_447_98 := mz_sf_add ms_447_94 (t := 4) rfl rfl
set_option maxRecDepth 100000 in
theorem mzq_447 : mz_PG0 447 = some (12, ⟨"KeptHouseModel", "expression", "()V"⟩, prog_14_method_63_code, 3, none, [], mk_447, []) := rfl
theorem cg_447_94 (hd : 5 ≤ d) (hS : mz_extR S 342) (hR : mz_rok R 342)  (s0 : Bool) (v1 : Bool) (N : mz_N) {C0 : (mz_N) → Prop} (hr : ∀ (N2 : mz_N), C0 N2 → Q (.inl none) (mz_k S R N2 b t)) {C1 : ((Bool × Bool × mz_N) ⊕ (mz_N)) → Prop} (hc1 : ∀ s2, C1 (.inl s2) → mz_G (d, mz_X0 L xs, none, [], mk_447, 3, Q) 14 mt_447_14 [(0, .ref 232), (1, .int (mz_b01 s2.1)), (2, .int (mz_b01 s2.2.1))] [] false (mz_k S R s2.2.2 b t)) (hx1 : ∀ z, C1 (.inr z) → C0 z) (hp : cp_447_94 s0 v1 N) (hC : C1 (cf_447_94 s0 v1 N)) : mz_G (d, mz_X0 L xs, none, [], mk_447, 3, Q) 94 mt_447_94 [(0, .ref 232), (1, .int (mz_b01 v1))] [.int (mz_b01 s0)] false (mz_k S R N b t) := by
  unfold cf_447_94 at hC
  unfold cp_447_94 at hp
  refine g_istore_n (Nat.le_of_ble_eq_true rfl) rfl (g_goto (tg := 14) rfl ms_447_14 ?_)
  refine g_weak ?_ (g_cl (hc1 (v1, s0, N) hC))
  exact ⟨rfl, rfl, rfl, trivial⟩
theorem cg_447_89 (hd : 5 ≤ d) (hS : mz_extR S 342) (hR : mz_rok R 342)  (v1 : Bool) (N : mz_N) {C0 : (mz_N) → Prop} (hr : ∀ (N2 : mz_N), C0 N2 → Q (.inl none) (mz_k S R N2 b t)) {C1 : ((Bool × Bool × mz_N) ⊕ (mz_N)) → Prop} (hc1 : ∀ s2, C1 (.inl s2) → mz_G (d, mz_X0 L xs, none, [], mk_447, 3, Q) 14 mt_447_14 [(0, .ref 232), (1, .int (mz_b01 s2.1)), (2, .int (mz_b01 s2.2.1))] [] false (mz_k S R s2.2.2 b t)) (hx1 : ∀ z, C1 (.inr z) → C0 z) (hp : cp_447_89 v1 N) (hC : C1 (cf_447_89 v1 N)) : mz_G (d, mz_X0 L xs, none, [], mk_447, 3, Q) 89 mt_447_89 [(0, .ref 232), (1, .int (mz_b01 v1))] [] false (mz_k S R N b t) := by
  unfold cf_447_89 at hC
  unfold cp_447_89 at hp
  refine g_iconst mzi_1 (g_goto (tg := 94) rfl ms_447_94 ?_)
  refine g_weak ?_ (g_cl (cg_447_94 hd hS hR true v1 N hr hc1 hx1 hp hC))
  exact ⟨rfl, rfl, trivial⟩
theorem cg_447_56 (hd : 5 ≤ d) (hS : mz_extR S 342) (hR : mz_rok R 342)  (v1 : Bool) (v2 : Bool) (N : mz_N) {C0 : (mz_N) → Prop} (hr : ∀ (N2 : mz_N), C0 N2 → Q (.inl none) (mz_k S R N2 b t)) {C1 : ((Bool × Bool × mz_N) ⊕ (mz_N)) → Prop} (hc1 : ∀ s2, C1 (.inl s2) → mz_G (d, mz_X0 L xs, none, [], mk_447, 3, Q) 14 mt_447_14 [(0, .ref 232), (1, .int (mz_b01 s2.1)), (2, .int (mz_b01 s2.2.1))] [] false (mz_k S R s2.2.2 b t)) (hx1 : ∀ z, C1 (.inr z) → C0 z) (hp : cp_447_56 v1 v2 N) (hC : C1 (cf_447_56 v1 v2 N)) : mz_G (d, mz_X0 L xs, none, [], mk_447, 3, Q) 56 mt_447_56 [(0, .ref 232), (1, .int (mz_b01 v1)), (2, .int (mz_b01 v2))] [] false (mz_k S R N b t) := by
  unfold cf_447_56 at hC
  unfold cp_447_56 at hp
  refine g_aload_n rfl (g_getI (mz_at hS (Nat.le_of_ble_eq_true rfl) mzcS_232) mzcf_12_154 ?_)
  refine g_ifne (tg := 14) rfl ms_447_14 hC (fun h1 hC => ?_) (fun h1 hC => ?_)
  · have hp := hp.1 h1
    refine g_aload_n rfl ?_
    obtain ⟨h2, hp⟩ := hp
    refine g_v1v (Nat.le_of_ble_eq_true rfl) (mz_at hS (Nat.le_of_ble_eq_true rfl) mzcS_232) (fun _ hq => cs_455 (Nat.le_trans (Nat.le_of_ble_eq_true rfl) hd) (hS.le (Nat.le_of_ble_eq_true rfl)) (hR.le (Nat.le_of_ble_eq_true rfl))  N h2 hq) (g_istore_n (Nat.le_of_ble_eq_true rfl) rfl (g_iload_n rfl ?_))
    refine g_zne (tg := 89) rfl ms_447_89 hC (fun h3 hC => ?_) (fun h3 hC => ?_)
    · have hp := hp.1 h3
      refine g_weak ?_ (g_cl (cg_447_89 hd hS hR ((cf_455_0 N).1) ((cf_455_0 N).2) hr hc1 hx1 hp hC))
      exact ⟨rfl, rfl, trivial⟩
    · have hp := hp.2 h3
      refine g_aload_n rfl (g_getI (mz_at hS (Nat.le_of_ble_eq_true rfl) mzcS_232) mzcf_12_152 (g_bipush mzb_59 ?_))
      refine g_icne (tg := 89) rfl ms_447_89 hC (fun h4 hC => ?_) (fun h4 hC => ?_)
      · have hp := hp.1 h4
        refine g_aload_n rfl (g_getI (mz_at hS (Nat.le_of_ble_eq_true rfl) mzcS_232) mzcf_12_149 (g_iconst mzi_3 ?_))
        refine g_iceq (tg := 93) rfl ms_447_93 hC (fun h5 hC => ?_) (fun h5 hC => ?_)
        · have hp := hp.1 h5
          refine g_iconst mzi_0 ?_
          refine g_weak ?_ (g_cl (cg_447_94 hd hS hR false ((cf_455_0 N).1) ((cf_455_0 N).2) hr hc1 hx1 hp hC))
          exact ⟨rfl, rfl, trivial⟩
        · have hp := hp.2 h5
          refine g_weak ?_ (g_cl (cg_447_89 hd hS hR ((cf_455_0 N).1) ((cf_455_0 N).2) hr hc1 hx1 hp hC))
          exact ⟨rfl, rfl, trivial⟩
      · have hp := hp.2 h4
        refine g_weak ?_ (g_cl (cg_447_89 hd hS hR ((cf_455_0 N).1) ((cf_455_0 N).2) hr hc1 hx1 hp hC))
        exact ⟨rfl, rfl, trivial⟩
  · have hp := hp.2 h1
    refine g_weak ?_ (g_cl (hc1 (v1, v2, N) hC))
    exact ⟨rfl, rfl, rfl, trivial⟩
theorem cg_447_52 (hd : 5 ≤ d) (hS : mz_extR S 342) (hR : mz_rok R 342)  (s0 : Bool) (v2 : Bool) (N : mz_N) {C0 : (mz_N) → Prop} (hr : ∀ (N2 : mz_N), C0 N2 → Q (.inl none) (mz_k S R N2 b t)) {C1 : ((Bool × Bool × mz_N) ⊕ (mz_N)) → Prop} (hc1 : ∀ s2, C1 (.inl s2) → mz_G (d, mz_X0 L xs, none, [], mk_447, 3, Q) 14 mt_447_14 [(0, .ref 232), (1, .int (mz_b01 s2.1)), (2, .int (mz_b01 s2.2.1))] [] false (mz_k S R s2.2.2 b t)) (hx1 : ∀ z, C1 (.inr z) → C0 z) (hp : cp_447_52 s0 v2 N) (hC : C1 (cf_447_52 s0 v2 N)) : mz_G (d, mz_X0 L xs, none, [], mk_447, 3, Q) 52 mt_447_52 [(0, .ref 232), (2, .int (mz_b01 v2))] [.int (mz_b01 s0)] false (mz_k S R N b t) := by
  unfold cf_447_52 at hC
  unfold cp_447_52 at hp
  refine g_istore_n (Nat.le_of_ble_eq_true rfl) rfl (g_goto (tg := 14) rfl ms_447_14 ?_)
  refine g_weak ?_ (g_cl (hc1 (s0, v2, N) hC))
  exact ⟨rfl, rfl, rfl, trivial⟩
theorem cb_447_14 (hd : 5 ≤ d) (hS : mz_extR S 342) (hR : mz_rok R 342)   (s : Bool × Bool × mz_N) {C0 : (mz_N) → Prop} (hr : ∀ (N2 : mz_N), C0 N2 → Q (.inl none) (mz_k S R N2 b t)) {C1 : ((Bool × Bool × mz_N) ⊕ (mz_N)) → Prop} (hc1 : ∀ s2, C1 (.inl s2) → mz_G (d, mz_X0 L xs, none, [], mk_447, 3, Q) 14 mt_447_14 [(0, .ref 232), (1, .int (mz_b01 s2.1)), (2, .int (mz_b01 s2.2.1))] [] false (mz_k S R s2.2.2 b t)) (hx1 : ∀ z, C1 (.inr z) → C0 z) (hp : cd_447_14  s) (hC : C1 (cq_447_14  s)) : mz_G (d, mz_X0 L xs, none, [], mk_447, 3, Q) 14 mt_447_14 [(0, .ref 232), (1, .int (mz_b01 s.1)), (2, .int (mz_b01 s.2.1))] [] false (mz_k S R s.2.2 b t) := by
  unfold cq_447_14 at hC
  unfold cd_447_14 at hp
  refine g_iload_n rfl ?_
  refine g_zeq (tg := 98) rfl ms_447_98 hC (fun h1 hC => ?_) (fun h1 hC => ?_)
  · have hp := hp.1 h1
    refine g_aload_n rfl (g_getI (mz_at hS (Nat.le_of_ble_eq_true rfl) mzcS_232) mzcf_12_154 ?_)
    refine g_ifne (tg := 98) rfl ms_447_98 hC (fun h2 hC => ?_) (fun h2 hC => ?_)
    · have hp := hp.1 h2
      refine g_aload_n rfl ?_
      obtain ⟨h3, hp⟩ := hp
      refine g_v1n (Nat.le_of_ble_eq_true rfl) (mz_at hS (Nat.le_of_ble_eq_true rfl) mzcS_232) (fun _ hq => cs_440 (Nat.le_trans (Nat.le_of_ble_eq_true rfl) hd) (hS.le (Nat.le_of_ble_eq_true rfl)) (hR.le (Nat.le_of_ble_eq_true rfl))  s.2.2 h3 hq) (g_aload_n rfl (g_getI (mz_at hS (Nat.le_of_ble_eq_true rfl) mzcS_232) mzcf_12_154 ?_))
      refine g_ifne (tg := 56) rfl ms_447_56 hC (fun h4 hC => ?_) (fun h4 hC => ?_)
      · have hp := hp.1 h4
        refine g_iload_n rfl ?_
        refine g_zeq (tg := 56) rfl ms_447_56 hC (fun h5 hC => ?_) (fun h5 hC => ?_)
        · have hp := hp.1 h5
          refine g_aload_n rfl ?_
          obtain ⟨h6, hp⟩ := hp
          refine g_v1v (Nat.le_of_ble_eq_true rfl) (mz_at hS (Nat.le_of_ble_eq_true rfl) mzcS_232) (fun _ hq => cs_448 (Nat.le_trans (Nat.le_of_ble_eq_true rfl) hd) (hS.le (Nat.le_of_ble_eq_true rfl)) (hR.le (Nat.le_of_ble_eq_true rfl))  (cf_440_0 s.2.2) h6 hq) ?_
          refine g_zne (tg := 51) rfl ms_447_51 hC (fun h7 hC => ?_) (fun h7 hC => ?_)
          · have hp := hp.1 h7
            refine g_iconst mzi_0 ?_
            refine g_weak ?_ (g_cl (cg_447_52 hd hS hR false s.2.1 ((cf_448_0 (cf_440_0 s.2.2)).2) hr hc1 hx1 hp hC))
            exact ⟨rfl, rfl, trivial⟩
          · have hp := hp.2 h7
            refine g_iconst mzi_1 (g_goto (tg := 52) rfl ms_447_52 ?_)
            refine g_weak ?_ (g_cl (cg_447_52 hd hS hR true s.2.1 ((cf_448_0 (cf_440_0 s.2.2)).2) hr hc1 hx1 hp hC))
            exact ⟨rfl, rfl, trivial⟩
        · have hp := hp.2 h5
          refine g_weak ?_ (g_cl (cg_447_56 hd hS hR s.1 s.2.1 (cf_440_0 s.2.2) hr hc1 hx1 hp hC))
          exact ⟨rfl, rfl, rfl, trivial⟩
      · have hp := hp.2 h4
        refine g_weak ?_ (g_cl (cg_447_56 hd hS hR s.1 s.2.1 (cf_440_0 s.2.2) hr hc1 hx1 hp hC))
        exact ⟨rfl, rfl, rfl, trivial⟩
    · have hp := hp.2 h2
      exact g_vret rfl (hr _ (hx1 _ hC))
  · have hp := hp.2 h1
    exact g_vret rfl (hr _ (hx1 _ hC))
theorem cg_447_14 (hd : 5 ≤ d) (hS : mz_extR S 342) (hR : mz_rok R 342)  (v1 : Bool) (v2 : Bool) (N : mz_N) {C0 : (mz_N) → Prop} (hr : ∀ (N2 : mz_N), C0 N2 → Q (.inl none) (mz_k S R N2 b t)) (hp : cp_447_14 v1 v2 N) (hC : C0 (cf_447_14 v1 v2 N)) : mz_G (d, mz_X0 L xs, none, [], mk_447, 3, Q) 14 mt_447_14 [(0, .ref 232), (1, .int (mz_b01 v1)), (2, .int (mz_b01 v2))] [] false (mz_k S R N b t) := by
  obtain ⟨n, hn⟩ := hp
  exact g_loop (G := fun s => mz_G (d, mz_X0 L xs, none, [], mk_447, 3, Q) 14 mt_447_14 [(0, .ref 232), (1, .int (mz_b01 s.1)), (2, .int (mz_b01 s.2.1))] [] false (mz_k S R s.2.2 b t)) (C := C0) (fun C2 hc hx s hP hC => cb_447_14 hd hS hR  s hr hc hx hP hC) n (v1, v2, N) hn hC
theorem cg_447_0 (hd : 5 ≤ d) (hS : mz_extR S 342) (hR : mz_rok R 342)  (N : mz_N) {C0 : (mz_N) → Prop} (hr : ∀ (N2 : mz_N), C0 N2 → Q (.inl none) (mz_k S R N2 b t)) (hp : cp_447_0 N) (hC : C0 (cf_447_0 N)) : mz_G (d, mz_X0 L xs, none, [], mk_447, 3, Q) 0 mk_447 [(0, .ref 232)] [] true (mz_k S R N b t) := by
  unfold cf_447_0 at hC
  unfold cp_447_0 at hp
  refine g_aload_n rfl (g_iconst mzi_0 (g_putI (mz_at hS (Nat.le_of_ble_eq_true rfl) mzcS_232) mzcf_12_156 (g_aload_n rfl (g_iconst mzi_0 (g_putI (mz_at hS (Nat.le_of_ble_eq_true rfl) mzcS_232) mzcf_12_157 (g_iconst mzi_1 (g_istore_n (Nat.le_of_ble_eq_true rfl) rfl ?_)))))))
  refine g_iconst mzi_1 (g_istore_n (Nat.le_of_ble_eq_true rfl) rfl ?_)
  refine g_weak ?_ (g_cl (cg_447_14 hd hS hR true true (mz_pI (mz_pI N 232 156 0) 232 157 0) hr hp hC))
  exact ⟨rfl, rfl, rfl, trivial⟩
theorem cs_447 (hd : 6 ≤ d) (hS : mz_extR S 342) (hR : mz_rok R 342)  (N : mz_N) (hp : cp_447_0 N) (hq : Q (.inl none) (mz_k S R (cf_447_0 N) b t)) : mz_Ed (mz_X0 L xs) d 447 [.ref 232] (mz_k S R N b t) Q :=
  by
  refine g_in mzq_447 (Nat.le_of_ble_eq_true rfl) (Nat.le_of_ble_eq_true rfl) (Nat.le_trans (Nat.le_of_ble_eq_true rfl) hd) ?_
  refine g_weak ?_ (cg_447_0 (d := d - 1) (by omega) hS hR N (C0 := fun z => Q (.inl none) (mz_k S R z b t)) (fun _ h => h) hp hq)
  exact ⟨rfl, trivial⟩
/-! 445 KeptHouseModel.statement ()V -/
theorem ms_445_0 : mz_sf mk_445 0 = mk_445 := mz_sf_zero _
theorem ms_445_16 : mz_sf mk_445 16 = mt_445_16 := mz_sf_add ms_445_0 (t := 16) rfl rfl
theorem ms_445_30 : mz_sf mk_445 30 = mt_445_30 := mz_sf_add ms_445_16 (t := 14) rfl rfl
theorem ms_445_45 : mz_sf mk_445 45 = mt_445_45 := mz_sf_add ms_445_30 (t := 15) rfl rfl
theorem ms_445_51 : mz_sf mk_445 51 = mt_445_51 := mz_sf_add ms_445_45 (t := 6) rfl rfl
theorem ms_445_79 : mz_sf mk_445 79 = mt_445_79 := mz_sf_add ms_445_51 (t := 28) rfl rfl
theorem ms_445_84 : mz_sf mk_445 84 = mt_445_84 := mz_sf_add ms_445_79 (t := 5) rfl rfl
theorem ms_445_95 : mz_sf mk_445 95 = mt_445_95 := mz_sf_add ms_445_84 (t := 11) rfl rfl
theorem ms_445_118 : mz_sf mk_445 118 = mt_445_118 := mz_sf_add ms_445_95 (t := 23) rfl rfl
theorem ms_445_134 : mz_sf mk_445 134 = mt_445_134 := mz_sf_add ms_445_118 (t := 16) rfl rfl
theorem ms_445_135 : mz_sf mk_445 135 = mt_445_135 := mz_sf_add ms_445_134 (t := 1) rfl rfl
set_option maxRecDepth 100000 in
theorem mzq_445 : mz_PG0 445 = some (12, ⟨"KeptHouseModel", "statement", "()V"⟩, prog_14_method_65_code, 2, none, [], mk_445, []) := rfl
theorem cg_445_135 (hd : 6 ≤ d) (hS : mz_extR S 342) (hR : mz_rok R 342)  (s1 : Int32) (s2 : Bool) (N : mz_N) {C0 : (mz_N) → Prop} (hr : ∀ (N2 : mz_N), C0 N2 → Q (.inl none) (mz_k S R N2 b t)) (hp : cp_445_135 s1 s2 N) (hC : C0 (cf_445_135 s1 s2 N)) : mz_G (d, mz_X0 L xs, none, [], mk_445, 2, Q) 135 mt_445_135 [] [.int (mz_b01 s2), .int s1, .ref 232] false (mz_k S R N b t) := by
  unfold cf_445_135 at hC
  unfold cp_445_135 at hp
  refine g_iadd (g_putI (mz_at hS (Nat.le_of_ble_eq_true rfl) mzcS_232) mzcf_12_28 ?_)
  exact g_vret rfl (hr _ hC)
theorem cg_445_118 (hd : 6 ≤ d) (hS : mz_extR S 342) (hR : mz_rok R 342)  (N : mz_N) {C0 : (mz_N) → Prop} (hr : ∀ (N2 : mz_N), C0 N2 → Q (.inl none) (mz_k S R N2 b t)) (hp : cp_445_118 N) (hC : C0 (cf_445_118 N)) : mz_G (d, mz_X0 L xs, none, [], mk_445, 2, Q) 118 mt_445_118 [(0, .ref 232)] [] false (mz_k S R N b t) := by
  unfold cf_445_118 at hC
  unfold cp_445_118 at hp
  refine g_aload_n rfl (g_dup rfl (g_getI (mz_at hS (Nat.le_of_ble_eq_true rfl) mzcS_232) mzcf_12_28 (g_aload_n rfl (g_getI (mz_at hS (Nat.le_of_ble_eq_true rfl) mzcS_232) mzcf_12_154 ?_))))
  refine g_ifne (tg := 134) rfl ms_445_134 hC (fun h1 hC => ?_) (fun h1 hC => ?_)
  · have hp := hp.1 h1
    refine g_iconst mzi_1 (g_goto (tg := 135) rfl ms_445_135 ?_)
    refine g_weak ?_ (g_cl (cg_445_135 hd hS hR (N.1 232 28) true N hr hp hC))
    exact trivial
  · have hp := hp.2 h1
    refine g_iconst mzi_0 ?_
    refine g_weak ?_ (g_cl (cg_445_135 hd hS hR (N.1 232 28) false N hr hp hC))
    exact trivial
theorem cg_445_95 (hd : 6 ≤ d) (hS : mz_extR S 342) (hR : mz_rok R 342)  (v1 : Int32) (N : mz_N) {C0 : (mz_N) → Prop} (hr : ∀ (N2 : mz_N), C0 N2 → Q (.inl none) (mz_k S R N2 b t)) (hp : cp_445_95 v1 N) (hC : C0 (cf_445_95 v1 N)) : mz_G (d, mz_X0 L xs, none, [], mk_445, 2, Q) 95 mt_445_95 [(0, .ref 232), (1, .int v1)] [] false (mz_k S R N b t) := by
  unfold cf_445_95 at hC
  unfold cp_445_95 at hp
  refine g_aload_n rfl (g_getR (mz_at hS (Nat.le_of_ble_eq_true rfl) mzcS_232) mzcf_12_33 (mz_rb hR (Nat.le_of_ble_eq_true rfl) rfl mzcR_232_33) (g_aload_n rfl (g_getI (mz_at hS (Nat.le_of_ble_eq_true rfl) mzcS_232) mzcf_12_28 (g_iload_n rfl ?_))))
  obtain ⟨h1, hp⟩ := hp
  refine g_iast (mz_at hS (Nat.le_of_ble_eq_true rfl) mzcS_256) h1 (g_aload_n rfl (g_getR (mz_at hS (Nat.le_of_ble_eq_true rfl) mzcS_232) mzcf_12_32 (mz_rb hR (Nat.le_of_ble_eq_true rfl) rfl mzcR_232_32) (g_aload_n rfl (g_getI (mz_at hS (Nat.le_of_ble_eq_true rfl) mzcS_232) mzcf_12_28 (g_aload_n rfl (g_getI (mz_at hS (Nat.le_of_ble_eq_true rfl) mzcS_232) mzcf_12_31 ?_))))))
  obtain ⟨h2, hp⟩ := hp
  refine g_iast (mz_at hS (Nat.le_of_ble_eq_true rfl) mzcS_255) h2 ?_
  refine g_weak ?_ (g_cl (cg_445_118 hd hS hR (mz_wI (mz_wI N 256 (N.1 232 28) v1) 255 ((mz_wI N 256 (N.1 232 28) v1).1 232 28) ((mz_wI N 256 (N.1 232 28) v1).1 232 31)) hr hp hC))
  exact ⟨rfl, trivial⟩
theorem cg_445_84 (hd : 6 ≤ d) (hS : mz_extR S 342) (hR : mz_rok R 342)  (v1 : Int32) (N : mz_N) {C0 : (mz_N) → Prop} (hr : ∀ (N2 : mz_N), C0 N2 → Q (.inl none) (mz_k S R N2 b t)) (hp : cp_445_84 v1 N) (hC : C0 (cf_445_84 v1 N)) : mz_G (d, mz_X0 L xs, none, [], mk_445, 2, Q) 84 mt_445_84 [(0, .ref 232), (1, .int v1)] [] false (mz_k S R N b t) := by
  unfold cf_445_84 at hC
  unfold cp_445_84 at hp
  refine g_aload_n rfl (g_getI (mz_at hS (Nat.le_of_ble_eq_true rfl) mzcS_232) mzcf_12_154 ?_)
  refine g_ifne (tg := 95) rfl ms_445_95 hC (fun h1 hC => ?_) (fun h1 hC => ?_)
  · have hp := hp.1 h1
    refine g_aload_n rfl ?_
    obtain ⟨h2, hp⟩ := hp
    refine g_v1n (Nat.le_of_ble_eq_true rfl) (mz_at hS (Nat.le_of_ble_eq_true rfl) mzcS_232) (fun _ hq => cs_447 (Nat.le_trans (Nat.le_of_ble_eq_true rfl) hd) (hS.le (Nat.le_of_ble_eq_true rfl)) (hR.le (Nat.le_of_ble_eq_true rfl))  N h2 hq) ?_
    refine g_weak ?_ (g_cl (cg_445_95 hd hS hR v1 (cf_447_0 N) hr hp hC))
    exact ⟨rfl, rfl, trivial⟩
  · have hp := hp.2 h1
    refine g_weak ?_ (g_cl (cg_445_95 hd hS hR v1 N hr hp hC))
    exact ⟨rfl, rfl, trivial⟩
theorem cg_445_45 (hd : 6 ≤ d) (hS : mz_extR S 342) (hR : mz_rok R 342)  (N : mz_N) {C0 : (mz_N) → Prop} (hr : ∀ (N2 : mz_N), C0 N2 → Q (.inl none) (mz_k S R N2 b t)) (hp : cp_445_45 N) (hC : C0 (cf_445_45 N)) : mz_G (d, mz_X0 L xs, none, [], mk_445, 2, Q) 45 mt_445_45 [(0, .ref 232)] [] false (mz_k S R N b t) := by
  unfold cf_445_45 at hC
  unfold cp_445_45 at hp
  refine g_aload_n rfl (g_iconst mzi_3 ?_)
  refine g_v2n (Nat.le_of_ble_eq_true rfl) (mz_at hS (Nat.le_of_ble_eq_true rfl) mzcS_232) (fun _ hq => cs_443 (Nat.le_trans (Nat.le_of_ble_eq_true rfl) hd) (hS.le (Nat.le_of_ble_eq_true rfl)) (hR.le (Nat.le_of_ble_eq_true rfl))  3 N trivial hq) ?_
  exact g_vret rfl (hr _ hC)
theorem cg_445_79 (hd : 6 ≤ d) (hS : mz_extR S 342) (hR : mz_rok R 342)  (v1 : Int32) (N : mz_N) {C0 : (mz_N) → Prop} (hr : ∀ (N2 : mz_N), C0 N2 → Q (.inl none) (mz_k S R N2 b t)) (hp : cp_445_79 v1 N) (hC : C0 (cf_445_79 v1 N)) : mz_G (d, mz_X0 L xs, none, [], mk_445, 2, Q) 79 mt_445_79 [(0, .ref 232), (1, .int v1)] [] false (mz_k S R N b t) := by
  unfold cf_445_79 at hC
  unfold cp_445_79 at hp
  refine g_aload_n rfl (g_iconst mzi_2 ?_)
  refine g_v2n (Nat.le_of_ble_eq_true rfl) (mz_at hS (Nat.le_of_ble_eq_true rfl) mzcS_232) (fun _ hq => cs_443 (Nat.le_trans (Nat.le_of_ble_eq_true rfl) hd) (hS.le (Nat.le_of_ble_eq_true rfl)) (hR.le (Nat.le_of_ble_eq_true rfl))  2 N trivial hq) ?_
  refine g_weak ?_ (g_cl (cg_445_84 hd hS hR v1 (cf_443_0 2 N) hr hp hC))
  exact ⟨rfl, rfl, trivial⟩
theorem cg_445_0 (hd : 6 ≤ d) (hS : mz_extR S 342) (hR : mz_rok R 342)  (N : mz_N) {C0 : (mz_N) → Prop} (hr : ∀ (N2 : mz_N), C0 N2 → Q (.inl none) (mz_k S R N2 b t)) (hp : cp_445_0 N) (hC : C0 (cf_445_0 N)) : mz_G (d, mz_X0 L xs, none, [], mk_445, 2, Q) 0 mk_445 [(0, .ref 232)] [] true (mz_k S R N b t) := by
  unfold cf_445_0 at hC
  unfold cp_445_0 at hp
  refine g_aload_n rfl (g_getI (mz_at hS (Nat.le_of_ble_eq_true rfl) mzcS_232) mzcf_12_28 (g_bipush mzb_12 ?_))
  refine g_icne (tg := 16) rfl ms_445_16 hC (fun h1 hC => ?_) (fun h1 hC => ?_)
  · have hp := hp.1 h1
    refine g_aload_n rfl (g_bipush mzb_6 ?_)
    refine g_v2n (Nat.le_of_ble_eq_true rfl) (mz_at hS (Nat.le_of_ble_eq_true rfl) mzcS_232) (fun _ hq => cs_443 (Nat.le_trans (Nat.le_of_ble_eq_true rfl) hd) (hS.le (Nat.le_of_ble_eq_true rfl)) (hR.le (Nat.le_of_ble_eq_true rfl))  6 N trivial hq) ?_
    exact g_vret rfl (hr _ hC)
  · have hp := hp.2 h1
    refine g_aload_n rfl (g_getI (mz_at hS (Nat.le_of_ble_eq_true rfl) mzcS_232) mzcf_12_149 (g_iconst mzi_1 ?_))
    refine g_iceq (tg := 30) rfl ms_445_30 hC (fun h3 hC => ?_) (fun h3 hC => ?_)
    · have hp := hp.1 h3
      refine g_aload_n rfl ?_
      obtain ⟨h4, hp⟩ := hp
      refine g_v1v (Nat.le_of_ble_eq_true rfl) (mz_at hS (Nat.le_of_ble_eq_true rfl) mzcS_232) (fun _ hq => cs_446 (Nat.le_trans (Nat.le_of_ble_eq_true rfl) hd) (hS.le (Nat.le_of_ble_eq_true rfl)) (hR.le (Nat.le_of_ble_eq_true rfl))  N h4 hq) (g_istore_n (Nat.le_of_ble_eq_true rfl) rfl (g_iload_n rfl ?_))
      refine g_iflt (tg := 45) rfl ms_445_45 hC (fun h5 hC => ?_) (fun h5 hC => ?_)
      · have hp := hp.1 h5
        refine g_weak ?_ (g_cl (cg_445_45 hd hS hR N hr hp hC))
        exact ⟨rfl, trivial⟩
      · have hp := hp.2 h5
        refine g_iload_n rfl (g_bipush mzb_15 ?_)
        refine g_icle (tg := 51) rfl ms_445_51 hC (fun h6 hC => ?_) (fun h6 hC => ?_)
        · have hp := hp.1 h6
          refine g_weak ?_ (g_cl (cg_445_45 hd hS hR N hr hp hC))
          exact ⟨rfl, trivial⟩
        · have hp := hp.2 h6
          refine g_aload_n rfl ?_
          obtain ⟨h7, hp⟩ := hp
          refine g_v1n (Nat.le_of_ble_eq_true rfl) (mz_at hS (Nat.le_of_ble_eq_true rfl) mzcS_232) (fun _ hq => cs_440 (Nat.le_trans (Nat.le_of_ble_eq_true rfl) hd) (hS.le (Nat.le_of_ble_eq_true rfl)) (hR.le (Nat.le_of_ble_eq_true rfl))  N h7 hq) (g_aload_n rfl (g_getI (mz_at hS (Nat.le_of_ble_eq_true rfl) mzcS_232) mzcf_12_154 ?_))
          refine g_ifne (tg := 84) rfl ms_445_84 hC (fun h8 hC => ?_) (fun h8 hC => ?_)
          · have hp := hp.1 h8
            refine g_aload_n rfl (g_getI (mz_at hS (Nat.le_of_ble_eq_true rfl) mzcS_232) mzcf_12_149 (g_iconst mzi_3 ?_))
            refine g_icne (tg := 79) rfl ms_445_79 hC (fun h9 hC => ?_) (fun h9 hC => ?_)
            · have hp := hp.1 h9
              refine g_aload_n rfl (g_getI (mz_at hS (Nat.le_of_ble_eq_true rfl) mzcS_232) mzcf_12_152 (g_bipush mzb_61 ?_))
              refine g_iceq (tg := 84) rfl ms_445_84 hC (fun h10 hC => ?_) (fun h10 hC => ?_)
              · have hp := hp.1 h10
                refine g_weak ?_ (g_cl (cg_445_84 hd hS hR (cf_446_0 N) (cf_440_0 N) hr hp hC))
                exact ⟨rfl, rfl, trivial⟩
              · have hp := hp.2 h10
                refine g_weak ?_ (g_cl (cg_445_79 hd hS hR (cf_446_0 N) (cf_440_0 N) hr hp hC))
                exact ⟨rfl, rfl, trivial⟩
            · have hp := hp.2 h9
              refine g_weak ?_ (g_cl (cg_445_79 hd hS hR (cf_446_0 N) (cf_440_0 N) hr hp hC))
              exact ⟨rfl, rfl, trivial⟩
          · have hp := hp.2 h8
            refine g_weak ?_ (g_cl (cg_445_84 hd hS hR (cf_446_0 N) (cf_440_0 N) hr hp hC))
            exact ⟨rfl, rfl, trivial⟩
    · have hp := hp.2 h3
      refine g_aload_n rfl (g_iconst mzi_2 ?_)
      refine g_v2n (Nat.le_of_ble_eq_true rfl) (mz_at hS (Nat.le_of_ble_eq_true rfl) mzcS_232) (fun _ hq => cs_443 (Nat.le_trans (Nat.le_of_ble_eq_true rfl) hd) (hS.le (Nat.le_of_ble_eq_true rfl)) (hR.le (Nat.le_of_ble_eq_true rfl))  2 N trivial hq) ?_
      exact g_vret rfl (hr _ hC)
theorem cs_445 (hd : 7 ≤ d) (hS : mz_extR S 342) (hR : mz_rok R 342)  (N : mz_N) (hp : cp_445_0 N) (hq : Q (.inl none) (mz_k S R (cf_445_0 N) b t)) : mz_Ed (mz_X0 L xs) d 445 [.ref 232] (mz_k S R N b t) Q :=
  by
  refine g_in mzq_445 (Nat.le_of_ble_eq_true rfl) (Nat.le_of_ble_eq_true rfl) (Nat.le_trans (Nat.le_of_ble_eq_true rfl) hd) ?_
  refine g_weak ?_ (cg_445_0 (d := d - 1) (by omega) hS hR N (C0 := fun z => Q (.inl none) (mz_k S R z b t)) (fun _ h => h) hp hq)
  exact ⟨rfl, trivial⟩
/-! 439 KeptHouseModel.parse ()I -/
theorem ms_439_0 : mz_sf mk_439 0 = mk_439 := mz_sf_zero _
theorem ms_439_20 : mz_sf mk_439 20 = mt_439_20 := mz_sf_add ms_439_0 (t := 20) rfl rfl
theorem ms_439_22 : mz_sf mk_439 22 = mt_439_22 := mz_sf_add ms_439_20 (t := 2) rfl rfl
theorem ms_439_51 : mz_sf mk_439 51 = mt_439_51 := mz_sf_add ms_439_22 (t := 29) rfl rfl
theorem ms_439_56 : mz_sf mk_439 56 = mt_439_56 := mz_sf_add ms_439_51 (t := 5) rfl rfl
theorem ms_439_70 : mz_sf mk_439 70 = mt_439_70 := mz_sf_add ms_439_56 (t := 14) rfl rfl
set_option maxRecDepth 100000 in
theorem mzq_439 : mz_PG0 439 = some (12, ⟨"KeptHouseModel", "parse", "()I"⟩, prog_14_method_64_code, 2, some .int, [], mk_439, []) := rfl
theorem cg_439_56 (hd : 7 ≤ d) (hS : mz_extR S 342) (hR : mz_rok R 342)  (v1 : Bool) (N : mz_N) {C0 : (Int32 × mz_N) → Prop} (hr : ∀ (w : Int32) (N2 : mz_N), C0 (w, N2) → Q (.inl (some (.int w))) (mz_k S R N2 b t)) {C1 : ((Bool × mz_N) ⊕ (Int32 × mz_N)) → Prop} (hc1 : ∀ s2, C1 (.inl s2) → mz_G (d, mz_X0 L xs, some .int, [], mk_439, 2, Q) 22 mt_439_22 [(0, .ref 232), (1, .int (mz_b01 s2.1))] [] false (mz_k S R s2.2 b t)) (hx1 : ∀ z, C1 (.inr z) → C0 z) (hp : cp_439_56 v1 N) (hC : C1 (cf_439_56 v1 N)) : mz_G (d, mz_X0 L xs, some .int, [], mk_439, 2, Q) 56 mt_439_56 [(0, .ref 232), (1, .int (mz_b01 v1))] [] false (mz_k S R N b t) := by
  unfold cf_439_56 at hC
  unfold cp_439_56 at hp
  refine g_aload_n rfl (g_getI (mz_at hS (Nat.le_of_ble_eq_true rfl) mzcS_232) mzcf_12_154 ?_)
  refine g_ifne (tg := 22) rfl ms_439_22 hC (fun h1 hC => ?_) (fun h1 hC => ?_)
  · have hp := hp.1 h1
    refine g_aload_n rfl ?_
    have h2 := hp
    refine g_v1n (Nat.le_of_ble_eq_true rfl) (mz_at hS (Nat.le_of_ble_eq_true rfl) mzcS_232) (fun _ hq => cs_445 (Nat.le_trans (Nat.le_of_ble_eq_true rfl) hd) (hS.le (Nat.le_of_ble_eq_true rfl)) (hR.le (Nat.le_of_ble_eq_true rfl))  N h2 hq) (g_goto (tg := 22) rfl ms_439_22 ?_)
    refine g_weak ?_ (g_cl (hc1 (v1, (cf_445_0 N)) hC))
    exact ⟨rfl, rfl, trivial⟩
  · have hp := hp.2 h1
    refine g_weak ?_ (g_cl (hc1 (v1, N) hC))
    exact ⟨rfl, rfl, trivial⟩
theorem cb_439_22 (hd : 7 ≤ d) (hS : mz_extR S 342) (hR : mz_rok R 342)   (s : Bool × mz_N) {C0 : (Int32 × mz_N) → Prop} (hr : ∀ (w : Int32) (N2 : mz_N), C0 (w, N2) → Q (.inl (some (.int w))) (mz_k S R N2 b t)) {C1 : ((Bool × mz_N) ⊕ (Int32 × mz_N)) → Prop} (hc1 : ∀ s2, C1 (.inl s2) → mz_G (d, mz_X0 L xs, some .int, [], mk_439, 2, Q) 22 mt_439_22 [(0, .ref 232), (1, .int (mz_b01 s2.1))] [] false (mz_k S R s2.2 b t)) (hx1 : ∀ z, C1 (.inr z) → C0 z) (hp : cd_439_22  s) (hC : C1 (cq_439_22  s)) : mz_G (d, mz_X0 L xs, some .int, [], mk_439, 2, Q) 22 mt_439_22 [(0, .ref 232), (1, .int (mz_b01 s.1))] [] false (mz_k S R s.2 b t) := by
  unfold cq_439_22 at hC
  unfold cd_439_22 at hp
  refine g_iload_n rfl ?_
  refine g_zeq (tg := 70) rfl ms_439_70 hC (fun h1 hC => ?_) (fun h1 hC => ?_)
  · have hp := hp.1 h1
    refine g_aload_n rfl (g_getI (mz_at hS (Nat.le_of_ble_eq_true rfl) mzcS_232) mzcf_12_154 ?_)
    refine g_ifne (tg := 70) rfl ms_439_70 hC (fun h2 hC => ?_) (fun h2 hC => ?_)
    · have hp := hp.1 h2
      refine g_aload_n rfl ?_
      obtain ⟨h3, hp⟩ := hp
      refine g_v1n (Nat.le_of_ble_eq_true rfl) (mz_at hS (Nat.le_of_ble_eq_true rfl) mzcS_232) (fun _ hq => cs_440 (Nat.le_trans (Nat.le_of_ble_eq_true rfl) hd) (hS.le (Nat.le_of_ble_eq_true rfl)) (hR.le (Nat.le_of_ble_eq_true rfl))  s.2 h3 hq) (g_aload_n rfl (g_getI (mz_at hS (Nat.le_of_ble_eq_true rfl) mzcS_232) mzcf_12_154 ?_))
      refine g_ifne (tg := 56) rfl ms_439_56 hC (fun h4 hC => ?_) (fun h4 hC => ?_)
      · have hp := hp.1 h4
        refine g_aload_n rfl (g_getI (mz_at hS (Nat.le_of_ble_eq_true rfl) mzcS_232) mzcf_12_149 ?_)
        refine g_ifne (tg := 56) rfl ms_439_56 hC (fun h5 hC => ?_) (fun h5 hC => ?_)
        · have hp := hp.1 h5
          refine g_iconst mzi_0 (g_istore_n (Nat.le_of_ble_eq_true rfl) rfl (g_goto (tg := 22) rfl ms_439_22 ?_))
          refine g_weak ?_ (g_cl (hc1 (false, (cf_440_0 s.2)) hC))
          exact ⟨rfl, rfl, trivial⟩
        · have hp := hp.2 h5
          refine g_weak ?_ (g_cl (cg_439_56 hd hS hR s.1 (cf_440_0 s.2) hr hc1 hx1 hp hC))
          exact ⟨rfl, rfl, trivial⟩
      · have hp := hp.2 h4
        refine g_weak ?_ (g_cl (cg_439_56 hd hS hR s.1 (cf_440_0 s.2) hr hc1 hx1 hp hC))
        exact ⟨rfl, rfl, trivial⟩
    · have hp := hp.2 h2
      refine g_aload_n rfl (g_getI (mz_at hS (Nat.le_of_ble_eq_true rfl) mzcS_232) mzcf_12_154 ?_)
      exact g_iret rfl (hr _ _ (hx1 _ hC))
  · have hp := hp.2 h1
    refine g_aload_n rfl (g_getI (mz_at hS (Nat.le_of_ble_eq_true rfl) mzcS_232) mzcf_12_154 ?_)
    exact g_iret rfl (hr _ _ (hx1 _ hC))
theorem cg_439_22 (hd : 7 ≤ d) (hS : mz_extR S 342) (hR : mz_rok R 342)  (v1 : Bool) (N : mz_N) {C0 : (Int32 × mz_N) → Prop} (hr : ∀ (w : Int32) (N2 : mz_N), C0 (w, N2) → Q (.inl (some (.int w))) (mz_k S R N2 b t)) (hp : cp_439_22 v1 N) (hC : C0 (cf_439_22 v1 N)) : mz_G (d, mz_X0 L xs, some .int, [], mk_439, 2, Q) 22 mt_439_22 [(0, .ref 232), (1, .int (mz_b01 v1))] [] false (mz_k S R N b t) := by
  obtain ⟨n, hn⟩ := hp
  exact g_loop (G := fun s => mz_G (d, mz_X0 L xs, some .int, [], mk_439, 2, Q) 22 mt_439_22 [(0, .ref 232), (1, .int (mz_b01 s.1))] [] false (mz_k S R s.2 b t)) (C := C0) (fun C2 hc hx s hP hC => cb_439_22 hd hS hR  s hr hc hx hP hC) n (v1, N) hn hC
theorem cg_439_0 (hd : 7 ≤ d) (hS : mz_extR S 342) (hR : mz_rok R 342)  (N : mz_N) {C0 : (Int32 × mz_N) → Prop} (hr : ∀ (w : Int32) (N2 : mz_N), C0 (w, N2) → Q (.inl (some (.int w))) (mz_k S R N2 b t)) (hp : cp_439_0 N) (hC : C0 (cf_439_0 N)) : mz_G (d, mz_X0 L xs, some .int, [], mk_439, 2, Q) 0 mk_439 [(0, .ref 232)] [] true (mz_k S R N b t) := by
  unfold cf_439_0 at hC
  unfold cp_439_0 at hp
  refine g_aload_n rfl (g_iconst mzi_0 (g_putI (mz_at hS (Nat.le_of_ble_eq_true rfl) mzcS_232) mzcf_12_148 (g_aload_n rfl (g_iconst mzi_0 (g_putI (mz_at hS (Nat.le_of_ble_eq_true rfl) mzcS_232) mzcf_12_154 (g_aload_n rfl (g_iconst mzi_0 ?_)))))))
  refine g_putI (mz_at hS (Nat.le_of_ble_eq_true rfl) mzcS_232) mzcf_12_28 (g_aload_n rfl (g_iconst mzi_0 (g_putI (mz_at hS (Nat.le_of_ble_eq_true rfl) mzcS_232) mzcf_12_31 (g_iconst mzi_1 (g_istore_n (Nat.le_of_ble_eq_true rfl) rfl ?_)))))
  refine g_weak ?_ (g_cl (cg_439_22 hd hS hR true (mz_pI (mz_pI (mz_pI (mz_pI N 232 148 0) 232 154 0) 232 28 0) 232 31 0) hr hp hC))
  exact ⟨rfl, rfl, trivial⟩
theorem cs_439 (hd : 8 ≤ d) (hS : mz_extR S 342) (hR : mz_rok R 342)  (N : mz_N) (hp : cp_439_0 N) (hq : Q (.inl (some (.int ((cf_439_0 N).1)))) (mz_k S R ((cf_439_0 N).2) b t)) : mz_Ed (mz_X0 L xs) d 439 [.ref 232] (mz_k S R N b t) Q :=
  by
  refine g_in mzq_439 (Nat.le_of_ble_eq_true rfl) (Nat.le_of_ble_eq_true rfl) (Nat.le_trans (Nat.le_of_ble_eq_true rfl) hd) ?_
  refine g_weak ?_ (cg_439_0 (d := d - 1) (by omega) hS hR N (C0 := fun z => Q (.inl (some (.int z.1))) (mz_k S R z.2 b t)) (fun _ _ h => h) hp hq)
  exact ⟨rfl, trivial⟩
/-! 438 KeptHouseModel.readProgram ()V -/
theorem ms_438_0 : mz_sf mk_438 0 = mk_438 := mz_sf_zero _
theorem ms_438_10 : mz_sf mk_438 10 = mt_438_10 := mz_sf_add ms_438_0 (t := 10) rfl rfl
theorem ms_438_30 : mz_sf mk_438 30 = mt_438_30 := mz_sf_add ms_438_10 (t := 20) rfl rfl
theorem ms_438_36 : mz_sf mk_438 36 = mt_438_36 := mz_sf_add ms_438_30 (t := 6) rfl rfl
set_option maxRecDepth 100000 in
theorem mzq_438 : mz_PG0 438 = some (12, ⟨"KeptHouseModel", "readProgram", "()V"⟩, prog_14_method_66_code, 2, none, [], mk_438, []) := rfl
theorem cb_438_10 (hd : 8 ≤ d) (hS : mz_extR S 342) (hR : mz_rok R 342)   (s : Int32 × mz_N) {C0 : (mz_N) → Prop} (hr : ∀ (N2 : mz_N), C0 N2 → Q (.inl none) (mz_k S R N2 b t)) {C1 : ((Int32 × mz_N) ⊕ (mz_N)) → Prop} (hc1 : ∀ s2, C1 (.inl s2) → mz_G (d, mz_X0 L xs, none, [], mk_438, 2, Q) 10 mt_438_10 [(0, .ref 232), (1, .int s2.1)] [] false (mz_k S R s2.2 b t)) (hx1 : ∀ z, C1 (.inr z) → C0 z) (hp : cd_438_10  s) (hC : C1 (cq_438_10  s)) : mz_G (d, mz_X0 L xs, none, [], mk_438, 2, Q) 10 mt_438_10 [(0, .ref 232), (1, .int s.1)] [] false (mz_k S R s.2 b t) := by
  unfold cq_438_10 at hC
  unfold cd_438_10 at hp
  refine g_iload_n rfl (g_aload_n rfl (g_getI (mz_at hS (Nat.le_of_ble_eq_true rfl) mzcS_232) mzcf_12_27 ?_))
  refine g_icge (tg := 36) rfl ms_438_36 hC (fun h1 hC => ?_) (fun h1 hC => ?_)
  · have hp := hp.1 h1
    refine g_aload_n rfl (g_getR (mz_at hS (Nat.le_of_ble_eq_true rfl) mzcS_232) mzcf_12_146 (mz_rb hR (Nat.le_of_ble_eq_true rfl) rfl mzcR_232_146) (g_iload_n rfl (g_aload_n rfl (g_getR (mz_at hS (Nat.le_of_ble_eq_true rfl) mzcS_232) mzcf_12_26 (mz_rb hR (Nat.le_of_ble_eq_true rfl) rfl mzcR_232_26) (g_iload_n rfl ?_)))))
    obtain ⟨h2, hp⟩ := hp
    refine g_iald hS.1 (mz_at hS (Nat.le_of_ble_eq_true rfl) mzcS_252) h2 ?_
    have h3 := hp
    refine g_iast (mz_at hS (Nat.le_of_ble_eq_true rfl) mzcS_338) h3 (g_iinc rfl mzi_1 (Nat.le_of_ble_eq_true rfl) rfl (g_goto (tg := 10) rfl ms_438_10 ?_))
    refine g_weak ?_ (g_cl (hc1 ((s.1 + 1), mz_wI s.2 338 s.1 (mz_gI s.2 252 s.1)) hC))
    exact ⟨rfl, rfl, trivial⟩
  · have hp := hp.2 h1
    refine g_aload_n rfl ?_
    have h4 := hp
    refine g_v1v (Nat.le_of_ble_eq_true rfl) (mz_at hS (Nat.le_of_ble_eq_true rfl) mzcS_232) (fun _ hq => cs_439 (Nat.le_trans (Nat.le_of_ble_eq_true rfl) hd) (hS.le (Nat.le_of_ble_eq_true rfl)) (hR.le (Nat.le_of_ble_eq_true rfl))  s.2 h4 hq) (g_istore_n (Nat.le_of_ble_eq_true rfl) rfl ?_)
    exact g_vret rfl (hr _ (hx1 _ hC))
theorem cg_438_10 (hd : 8 ≤ d) (hS : mz_extR S 342) (hR : mz_rok R 342)  (v1 : Int32) (N : mz_N) {C0 : (mz_N) → Prop} (hr : ∀ (N2 : mz_N), C0 N2 → Q (.inl none) (mz_k S R N2 b t)) (hp : cp_438_10 v1 N) (hC : C0 (cf_438_10 v1 N)) : mz_G (d, mz_X0 L xs, none, [], mk_438, 2, Q) 10 mt_438_10 [(0, .ref 232), (1, .int v1)] [] false (mz_k S R N b t) := by
  obtain ⟨n, hn⟩ := hp
  exact g_loop (G := fun s => mz_G (d, mz_X0 L xs, none, [], mk_438, 2, Q) 10 mt_438_10 [(0, .ref 232), (1, .int s.1)] [] false (mz_k S R s.2 b t)) (C := C0) (fun C2 hc hx s hP hC => cb_438_10 hd hS hR  s hr hc hx hP hC) n (v1, N) hn hC
theorem cg_438_0 (hd : 8 ≤ d) (hS : mz_extR S 342) (hR : mz_rok R 342)  (N : mz_N) {C0 : (mz_N) → Prop} (hr : ∀ (N2 : mz_N), C0 N2 → Q (.inl none) (mz_k S R N2 b t)) (hp : cp_438_0 N) (hC : C0 (cf_438_0 N)) : mz_G (d, mz_X0 L xs, none, [], mk_438, 2, Q) 0 mk_438 [(0, .ref 232)] [] true (mz_k S R N b t) := by
  unfold cf_438_0 at hC
  unfold cp_438_0 at hp
  refine g_aload_n rfl (g_aload_n rfl (g_getI (mz_at hS (Nat.le_of_ble_eq_true rfl) mzcS_232) mzcf_12_27 (g_putI (mz_at hS (Nat.le_of_ble_eq_true rfl) mzcS_232) mzcf_12_147 (g_iconst mzi_0 (g_istore_n (Nat.le_of_ble_eq_true rfl) rfl ?_)))))
  refine g_weak ?_ (g_cl (cg_438_10 hd hS hR 0 (mz_pI N 232 147 (N.1 232 27)) hr hp hC))
  exact ⟨rfl, rfl, trivial⟩
theorem cs_438 (hd : 9 ≤ d) (hS : mz_extR S 342) (hR : mz_rok R 342)  (N : mz_N) (hp : cp_438_0 N) (hq : Q (.inl none) (mz_k S R (cf_438_0 N) b t)) : mz_Ed (mz_X0 L xs) d 438 [.ref 232] (mz_k S R N b t) Q :=
  by
  refine g_in mzq_438 (Nat.le_of_ble_eq_true rfl) (Nat.le_of_ble_eq_true rfl) (Nat.le_trans (Nat.le_of_ble_eq_true rfl) hd) ?_
  refine g_weak ?_ (cg_438_0 (d := d - 1) (by omega) hS hR N (C0 := fun z => Q (.inl none) (mz_k S R z b t)) (fun _ h => h) hp hq)
  exact ⟨rfl, trivial⟩
/-! 414 KeptHouseModel.beginAnew ()V -/
theorem ms_414_0 : mz_sf mk_414 0 = mk_414 := mz_sf_zero _
theorem ms_414_16 : mz_sf mk_414 16 = mt_414_16 := mz_sf_add ms_414_0 (t := 16) rfl rfl
theorem ms_414_53 : mz_sf mk_414 53 = mt_414_53 := mz_sf_add ms_414_16 (t := 37) rfl rfl
theorem ms_414_59 : mz_sf mk_414 59 = mt_414_59 := mz_sf_add ms_414_53 (t := 6) rfl rfl
theorem ms_414_61 : mz_sf mk_414 61 = mt_414_61 := mz_sf_add ms_414_59 (t := 2) rfl rfl
theorem ms_414_79 : mz_sf mk_414 79 = mt_414_79 := mz_sf_add ms_414_61 (t := 18) rfl rfl
theorem ms_414_98 : mz_sf mk_414 98 = mt_414_98 := mz_sf_add ms_414_79 (t := 19) rfl rfl
theorem ms_414_139 : mz_sf mk_414 139 = mt_414_139 := mz_sf_add ms_414_98 (t := 41) rfl rfl
theorem ms_414_143 : mz_sf mk_414 143 = mt_414_143 := mz_sf_add ms_414_139 (t := 4) rfl rfl
theorem ms_414_152 : mz_sf mk_414 152 = mt_414_152 := mz_sf_add ms_414_143 (t := 9) rfl rfl
set_option maxRecDepth 100000 in
theorem mzq_414 : mz_PG0 414 = some (12, ⟨"KeptHouseModel", "beginAnew", "()V"⟩, prog_14_method_186_code, 2, none, [], mk_414, []) := rfl
theorem cg_414_53 (hd : 9 ≤ d) (hS : mz_extR S 342) (hR : mz_rok R 342)  (v1 : Int32) (N : mz_N) {C0 : (mz_N) → Prop} (hr : ∀ (N2 : mz_N), C0 N2 → Q (.inl none) (mz_k S R N2 b t)) {C1 : ((Int32 × mz_N) ⊕ (mz_N)) → Prop} (hc1 : ∀ s2, C1 (.inl s2) → mz_G (d, mz_X0 L xs, none, [], mk_414, 2, Q) 16 mt_414_16 [(0, .ref 232), (1, .int s2.1)] [] false (mz_k S R s2.2 b t)) (hx1 : ∀ z, C1 (.inr z) → C0 z) (hp : cp_414_53 v1 N) (hC : C1 (cf_414_53 v1 N)) : mz_G (d, mz_X0 L xs, none, [], mk_414, 2, Q) 53 mt_414_53 [(0, .ref 232), (1, .int v1)] [] false (mz_k S R N b t) := by
  unfold cf_414_53 at hC
  unfold cp_414_53 at hp
  refine g_iinc rfl mzi_1 (Nat.le_of_ble_eq_true rfl) rfl (g_goto (tg := 16) rfl ms_414_16 ?_)
  refine g_weak ?_ (g_cl (hc1 ((v1 + 1), N) hC))
  exact ⟨rfl, rfl, trivial⟩
theorem cg_414_143 (hd : 9 ≤ d) (hS : mz_extR S 342) (hR : mz_rok R 342)  (s1 : Int64) (v1 : Int32) (N : mz_N) {C0 : (mz_N) → Prop} (hr : ∀ (N2 : mz_N), C0 N2 → Q (.inl none) (mz_k S R N2 b t)) {C1 : ((Int32 × mz_N) ⊕ (mz_N)) → Prop} (hc1 : ∀ s2, C1 (.inl s2) → mz_G (d, mz_X0 L xs, none, [], mk_414, 2, Q) 98 mt_414_98 [(0, .ref 232), (1, .int s2.1)] [] false (mz_k S R s2.2 b t)) (hx1 : ∀ z, C1 (.inr z) → C0 z) (hp : cp_414_143 s1 v1 N) (hC : C1 (cf_414_143 s1 v1 N)) : mz_G (d, mz_X0 L xs, none, [], mk_414, 2, Q) 143 mt_414_143 [(0, .ref 232), (1, .int v1)] [.long s1, .ref 232] false (mz_k S R N b t) := by
  unfold cf_414_143 at hC
  unfold cp_414_143 at hp
  refine g_putL (mz_at hS (Nat.le_of_ble_eq_true rfl) mzcS_232) mzcf_12_87 (g_iinc rfl mzi_1 (Nat.le_of_ble_eq_true rfl) rfl (g_goto (tg := 98) rfl ms_414_98 ?_))
  refine g_weak ?_ (g_cl (hc1 ((v1 + 1), mz_pL N 232 87 s1) hC))
  exact ⟨rfl, rfl, trivial⟩
theorem cg_414_139 (hd : 9 ≤ d) (hS : mz_extR S 342) (hR : mz_rok R 342)  (v1 : Int32) (N : mz_N) {C0 : (mz_N) → Prop} (hr : ∀ (N2 : mz_N), C0 N2 → Q (.inl none) (mz_k S R N2 b t)) {C1 : ((Int32 × mz_N) ⊕ (mz_N)) → Prop} (hc1 : ∀ s2, C1 (.inl s2) → mz_G (d, mz_X0 L xs, none, [], mk_414, 2, Q) 98 mt_414_98 [(0, .ref 232), (1, .int s2.1)] [] false (mz_k S R s2.2 b t)) (hx1 : ∀ z, C1 (.inr z) → C0 z) (hp : cp_414_139 v1 N) (hC : C1 (cf_414_139 v1 N)) : mz_G (d, mz_X0 L xs, none, [], mk_414, 2, Q) 139 mt_414_139 [(0, .ref 232), (1, .int v1)] [.ref 232] false (mz_k S R N b t) := by
  unfold cf_414_139 at hC
  unfold cp_414_139 at hp
  refine g_aload_n rfl (g_getL (mz_at hS (Nat.le_of_ble_eq_true rfl) mzcS_232) mzcf_12_87 ?_)
  refine g_weak ?_ (g_cl (cg_414_143 hd hS hR (N.2 232 87) v1 N hr hc1 hx1 hp hC))
  exact ⟨rfl, rfl, trivial⟩
theorem cb_414_98 (hd : 9 ≤ d) (hS : mz_extR S 342) (hR : mz_rok R 342)   (s : Int32 × mz_N) {C0 : (mz_N) → Prop} (hr : ∀ (N2 : mz_N), C0 N2 → Q (.inl none) (mz_k S R N2 b t)) {C1 : ((Int32 × mz_N) ⊕ (mz_N)) → Prop} (hc1 : ∀ s2, C1 (.inl s2) → mz_G (d, mz_X0 L xs, none, [], mk_414, 2, Q) 98 mt_414_98 [(0, .ref 232), (1, .int s2.1)] [] false (mz_k S R s2.2 b t)) (hx1 : ∀ z, C1 (.inr z) → C0 z) (hp : cd_414_98  s) (hC : C1 (cq_414_98  s)) : mz_G (d, mz_X0 L xs, none, [], mk_414, 2, Q) 98 mt_414_98 [(0, .ref 232), (1, .int s.1)] [] false (mz_k S R s.2 b t) := by
  unfold cq_414_98 at hC
  unfold cd_414_98 at hp
  refine g_iload_n rfl (g_bipush mzb_16 ?_)
  refine g_icge (tg := 152) rfl ms_414_152 hC (fun h1 hC => ?_) (fun h1 hC => ?_)
  · have hp := hp.1 h1
    refine g_aload_n rfl (g_aload_n rfl (g_getR (mz_at hS (Nat.le_of_ble_eq_true rfl) mzcS_232) mzcf_12_80 (mz_rb hR (Nat.le_of_ble_eq_true rfl) rfl mzcR_232_80) (g_iload_n rfl ?_)))
    obtain ⟨h2, hp⟩ := hp
    obtain ⟨h3, hp⟩ := hp
    refine g_zald (mz_at hS (Nat.le_of_ble_eq_true rfl) mzcS_287) h2 h3 ?_
    refine g_zeq (tg := 139) rfl ms_414_139 hC (fun h4 hC => ?_) (fun h4 hC => ?_)
    · have hp := hp.1 h4
      refine g_aload_n rfl (g_getR (mz_at hS (Nat.le_of_ble_eq_true rfl) mzcS_232) mzcf_12_85 (mz_rb hR (Nat.le_of_ble_eq_true rfl) rfl mzcR_232_85) (g_iload_n rfl ?_))
      obtain ⟨h5, hp⟩ := hp
      refine g_lald (mz_at hS (Nat.le_of_ble_eq_true rfl) mzcS_292) h5 (g_aload_n rfl (g_getL (mz_at hS (Nat.le_of_ble_eq_true rfl) mzcS_232) mzcf_12_87 (g_lcmp ?_)))
      refine g_llt (tg := 139) rfl ms_414_139 hC (fun h6 hC => ?_) (fun h6 hC => ?_)
      · have hp := hp.1 h6
        refine g_weak ?_ (g_cl (cg_414_139 hd hS hR s.1 s.2 hr hc1 hx1 hp hC))
        exact ⟨rfl, rfl, trivial⟩
      · have hp := hp.2 h6
        refine g_aload_n rfl (g_getR (mz_at hS (Nat.le_of_ble_eq_true rfl) mzcS_232) mzcf_12_85 (mz_rb hR (Nat.le_of_ble_eq_true rfl) rfl mzcR_232_85) (g_iload_n rfl ?_))
        obtain ⟨h7, hp⟩ := hp
        refine g_lald (mz_at hS (Nat.le_of_ble_eq_true rfl) mzcS_292) h7 (g_lconst mzl_1 (g_ladd (g_goto (tg := 143) rfl ms_414_143 ?_)))
        refine g_weak ?_ (g_cl (cg_414_143 hd hS hR ((mz_gL s.2 292 s.1) + 1) s.1 s.2 hr hc1 hx1 hp hC))
        exact ⟨rfl, rfl, trivial⟩
    · have hp := hp.2 h4
      refine g_weak ?_ (g_cl (cg_414_139 hd hS hR s.1 s.2 hr hc1 hx1 hp hC))
      exact ⟨rfl, rfl, trivial⟩
  · have hp := hp.2 h1
    exact g_vret rfl (hr _ (hx1 _ hC))
theorem cg_414_98 (hd : 9 ≤ d) (hS : mz_extR S 342) (hR : mz_rok R 342)  (v1 : Int32) (N : mz_N) {C0 : (mz_N) → Prop} (hr : ∀ (N2 : mz_N), C0 N2 → Q (.inl none) (mz_k S R N2 b t)) (hp : cp_414_98 v1 N) (hC : C0 (cf_414_98 v1 N)) : mz_G (d, mz_X0 L xs, none, [], mk_414, 2, Q) 98 mt_414_98 [(0, .ref 232), (1, .int v1)] [] false (mz_k S R N b t) := by
  obtain ⟨n, hn⟩ := hp
  exact g_loop (G := fun s => mz_G (d, mz_X0 L xs, none, [], mk_414, 2, Q) 98 mt_414_98 [(0, .ref 232), (1, .int s.1)] [] false (mz_k S R s.2 b t)) (C := C0) (fun C2 hc hx s hP hC => cb_414_98 hd hS hR  s hr hc hx hP hC) n (v1, N) hn hC
theorem cb_414_61 (hd : 9 ≤ d) (hS : mz_extR S 342) (hR : mz_rok R 342)   (s : Int32 × mz_N) {C0 : (mz_N) → Prop} (hr : ∀ (N2 : mz_N), C0 N2 → Q (.inl none) (mz_k S R N2 b t)) {C1 : ((Int32 × mz_N) ⊕ (mz_N)) → Prop} (hc1 : ∀ s2, C1 (.inl s2) → mz_G (d, mz_X0 L xs, none, [], mk_414, 2, Q) 61 mt_414_61 [(0, .ref 232), (1, .int s2.1)] [] false (mz_k S R s2.2 b t)) (hx1 : ∀ z, C1 (.inr z) → C0 z) (hp : cd_414_61  s) (hC : C1 (cq_414_61  s)) : mz_G (d, mz_X0 L xs, none, [], mk_414, 2, Q) 61 mt_414_61 [(0, .ref 232), (1, .int s.1)] [] false (mz_k S R s.2 b t) := by
  unfold cq_414_61 at hC
  unfold cd_414_61 at hp
  refine g_iload_n rfl (g_bipush mzb_7 ?_)
  refine g_icge (tg := 79) rfl ms_414_79 hC (fun h1 hC => ?_) (fun h1 hC => ?_)
  · have hp := hp.1 h1
    refine g_aload_n rfl (g_iconst mzi_0 (g_iload_n rfl ?_))
    have h2 := hp
    refine g_v3n (Nat.le_of_ble_eq_true rfl) (mz_at hS (Nat.le_of_ble_eq_true rfl) mzcS_232) (fun _ hq => cs_426 (Nat.le_trans (Nat.le_of_ble_eq_true rfl) hd) (hS.le (Nat.le_of_ble_eq_true rfl)) (hR.le (Nat.le_of_ble_eq_true rfl))  0 s.1 s.2 h2 hq) (g_iinc rfl mzi_1 (Nat.le_of_ble_eq_true rfl) rfl (g_goto (tg := 61) rfl ms_414_61 ?_))
    refine g_weak ?_ (g_cl (hc1 ((s.1 + 1), (cf_426_0 0 s.1 s.2)) hC))
    exact ⟨rfl, rfl, trivial⟩
  · have hp := hp.2 h1
    refine g_aload_n rfl ?_
    obtain ⟨h3, hp⟩ := hp
    refine g_v1n (Nat.le_of_ble_eq_true rfl) (mz_at hS (Nat.le_of_ble_eq_true rfl) mzcS_232) (fun _ hq => cs_427 (Nat.le_trans (Nat.le_of_ble_eq_true rfl) hd) (hS.le (Nat.le_of_ble_eq_true rfl)) (hR.le (Nat.le_of_ble_eq_true rfl))  s.2 h3 hq) (g_aload_n rfl ?_)
    obtain ⟨h4, hp⟩ := hp
    refine g_v1n (Nat.le_of_ble_eq_true rfl) (mz_at hS (Nat.le_of_ble_eq_true rfl) mzcS_232) (fun _ hq => cs_437 (Nat.le_trans (Nat.le_of_ble_eq_true rfl) hd) (hS.le (Nat.le_of_ble_eq_true rfl)) (hR.le (Nat.le_of_ble_eq_true rfl))  (cf_427_0 s.2) h4 hq) (g_aload_n rfl ?_)
    obtain ⟨h5, hp⟩ := hp
    refine g_v1n (Nat.le_of_ble_eq_true rfl) (mz_at hS (Nat.le_of_ble_eq_true rfl) mzcS_232) (fun _ hq => cs_438 (Nat.le_trans (Nat.le_of_ble_eq_true rfl) hd) (hS.le (Nat.le_of_ble_eq_true rfl)) (hR.le (Nat.le_of_ble_eq_true rfl))  (cf_437_0 (cf_427_0 s.2)) h5 hq) (g_aload_n rfl (g_lconst mzl_0 (g_putL (mz_at hS (Nat.le_of_ble_eq_true rfl) mzcS_232) mzcf_12_87 (g_iconst mzi_0 (g_istore_n (Nat.le_of_ble_eq_true rfl) rfl ?_)))))
    refine g_weak ?_ (g_cl (cg_414_98 hd hS hR 0 (mz_pL (cf_438_0 (cf_437_0 (cf_427_0 s.2))) 232 87 0) hr hp (hx1 _ hC)))
    exact ⟨rfl, rfl, trivial⟩
theorem cg_414_61 (hd : 9 ≤ d) (hS : mz_extR S 342) (hR : mz_rok R 342)  (v1 : Int32) (N : mz_N) {C0 : (mz_N) → Prop} (hr : ∀ (N2 : mz_N), C0 N2 → Q (.inl none) (mz_k S R N2 b t)) (hp : cp_414_61 v1 N) (hC : C0 (cf_414_61 v1 N)) : mz_G (d, mz_X0 L xs, none, [], mk_414, 2, Q) 61 mt_414_61 [(0, .ref 232), (1, .int v1)] [] false (mz_k S R N b t) := by
  obtain ⟨n, hn⟩ := hp
  exact g_loop (G := fun s => mz_G (d, mz_X0 L xs, none, [], mk_414, 2, Q) 61 mt_414_61 [(0, .ref 232), (1, .int s.1)] [] false (mz_k S R s.2 b t)) (C := C0) (fun C2 hc hx s hP hC => cb_414_61 hd hS hR  s hr hc hx hP hC) n (v1, N) hn hC
theorem cb_414_16 (hd : 9 ≤ d) (hS : mz_extR S 342) (hR : mz_rok R 342)   (s : Int32 × mz_N) {C0 : (mz_N) → Prop} (hr : ∀ (N2 : mz_N), C0 N2 → Q (.inl none) (mz_k S R N2 b t)) {C1 : ((Int32 × mz_N) ⊕ (mz_N)) → Prop} (hc1 : ∀ s2, C1 (.inl s2) → mz_G (d, mz_X0 L xs, none, [], mk_414, 2, Q) 16 mt_414_16 [(0, .ref 232), (1, .int s2.1)] [] false (mz_k S R s2.2 b t)) (hx1 : ∀ z, C1 (.inr z) → C0 z) (hp : cd_414_16  s) (hC : C1 (cq_414_16  s)) : mz_G (d, mz_X0 L xs, none, [], mk_414, 2, Q) 16 mt_414_16 [(0, .ref 232), (1, .int s.1)] [] false (mz_k S R s.2 b t) := by
  unfold cq_414_16 at hC
  unfold cd_414_16 at hp
  refine g_iload_n rfl (g_sipush mzs_135 ?_)
  refine g_icge (tg := 59) rfl ms_414_59 hC (fun h1 hC => ?_) (fun h1 hC => ?_)
  · have hp := hp.1 h1
    refine g_aload_n rfl (g_getR (mz_at hS (Nat.le_of_ble_eq_true rfl) mzcS_232) mzcf_12_130 (mz_rb hR (Nat.le_of_ble_eq_true rfl) rfl mzcR_232_130) (g_iload_n rfl ?_))
    obtain ⟨h2, hp⟩ := hp
    obtain ⟨h3, hp⟩ := hp
    refine g_zald (mz_at hS (Nat.le_of_ble_eq_true rfl) mzcS_330) h2 h3 ?_
    refine g_zeq (tg := 53) rfl ms_414_53 hC (fun h4 hC => ?_) (fun h4 hC => ?_)
    · have hp := hp.1 h4
      refine g_aload_n rfl (g_iload_n rfl ?_)
      obtain ⟨h5, hp⟩ := hp
      refine g_s1v (Nat.le_of_ble_eq_true rfl) (fun _ hq => cs_419 (Nat.le_trans (Nat.le_of_ble_eq_true rfl) hd) (hS.le (Nat.le_of_ble_eq_true rfl)) (hR.le (Nat.le_of_ble_eq_true rfl))  s.1 h5 hq) (g_iload_n rfl (g_iload_n rfl ?_))
      obtain ⟨h6, hp⟩ := hp
      refine g_s1v (Nat.le_of_ble_eq_true rfl) (fun _ hq => cs_419 (Nat.le_trans (Nat.le_of_ble_eq_true rfl) hd) (hS.le (Nat.le_of_ble_eq_true rfl)) (hR.le (Nat.le_of_ble_eq_true rfl))  s.1 h6 hq) ?_
      refine g_s1v (Nat.le_of_ble_eq_true rfl) (fun _ hq => cs_420 (Nat.le_trans (Nat.le_of_ble_eq_true rfl) hd) (hS.le (Nat.le_of_ble_eq_true rfl)) (hR.le (Nat.le_of_ble_eq_true rfl))  (cf_419_0 s.1) trivial hq) (g_isub (g_bipush mzb_28 (g_iload_n rfl (g_imul ?_))))
      obtain ⟨h8, hp⟩ := hp
      refine g_v4n (Nat.le_of_ble_eq_true rfl) (mz_at hS (Nat.le_of_ble_eq_true rfl) mzcS_232) (fun _ hq => cs_421 (Nat.le_trans (Nat.le_of_ble_eq_true rfl) hd) (hS.le (Nat.le_of_ble_eq_true rfl)) (hR.le (Nat.le_of_ble_eq_true rfl))  (cf_419_0 s.1) (s.1 - (cf_420_0 (cf_419_0 s.1))) (28 * s.1) s.2 h8 hq) ?_
      refine g_weak ?_ (g_cl (cg_414_53 hd hS hR s.1 (cf_421_0 (cf_419_0 s.1) (s.1 - (cf_420_0 (cf_419_0 s.1))) (28 * s.1) s.2) hr hc1 hx1 hp hC))
      exact ⟨rfl, rfl, trivial⟩
    · have hp := hp.2 h4
      refine g_weak ?_ (g_cl (cg_414_53 hd hS hR s.1 s.2 hr hc1 hx1 hp hC))
      exact ⟨rfl, rfl, trivial⟩
  · have hp := hp.2 h1
    refine g_iconst mzi_1 (g_istore_n (Nat.le_of_ble_eq_true rfl) rfl ?_)
    refine g_weak ?_ (g_cl (cg_414_61 hd hS hR 1 s.2 hr hp (hx1 _ hC)))
    exact ⟨rfl, rfl, trivial⟩
theorem cg_414_16 (hd : 9 ≤ d) (hS : mz_extR S 342) (hR : mz_rok R 342)  (v1 : Int32) (N : mz_N) {C0 : (mz_N) → Prop} (hr : ∀ (N2 : mz_N), C0 N2 → Q (.inl none) (mz_k S R N2 b t)) (hp : cp_414_16 v1 N) (hC : C0 (cf_414_16 v1 N)) : mz_G (d, mz_X0 L xs, none, [], mk_414, 2, Q) 16 mt_414_16 [(0, .ref 232), (1, .int v1)] [] false (mz_k S R N b t) := by
  obtain ⟨n, hn⟩ := hp
  exact g_loop (G := fun s => mz_G (d, mz_X0 L xs, none, [], mk_414, 2, Q) 16 mt_414_16 [(0, .ref 232), (1, .int s.1)] [] false (mz_k S R s.2 b t)) (C := C0) (fun C2 hc hx s hP hC => cb_414_16 hd hS hR  s hr hc hx hP hC) n (v1, N) hn hC
theorem cg_414_0 (hd : 9 ≤ d) (hS : mz_extR S 342) (hR : mz_rok R 342)  (N : mz_N) {C0 : (mz_N) → Prop} (hr : ∀ (N2 : mz_N), C0 N2 → Q (.inl none) (mz_k S R N2 b t)) (hp : cp_414_0 N) (hC : C0 (cf_414_0 N)) : mz_G (d, mz_X0 L xs, none, [], mk_414, 2, Q) 0 mk_414 [(0, .ref 232)] [] true (mz_k S R N b t) := by
  unfold cf_414_0 at hC
  unfold cp_414_0 at hp
  refine g_aload_n rfl (g_iconst mzi_m1 (g_putI (mz_at hS (Nat.le_of_ble_eq_true rfl) mzcS_232) mzcf_12_136 (g_aload_n rfl (g_iconst mzi_0 (g_putZ (z := false) (mz_at hS (Nat.le_of_ble_eq_true rfl) mzcS_232) mzcf_12_137 (g_aload_n rfl ?_))))))
  obtain ⟨h1, hp⟩ := hp
  refine g_v1n (Nat.le_of_ble_eq_true rfl) (mz_at hS (Nat.le_of_ble_eq_true rfl) mzcS_232) (fun _ hq => cs_415 (Nat.le_trans (Nat.le_of_ble_eq_true rfl) hd) (hS.le (Nat.le_of_ble_eq_true rfl)) (hR.le (Nat.le_of_ble_eq_true rfl))  (mz_pI (mz_pI N 232 136 (-1)) 232 137 (mz_b01 false)) h1 hq) (g_iconst mzi_0 (g_istore_n (Nat.le_of_ble_eq_true rfl) rfl ?_))
  refine g_weak ?_ (g_cl (cg_414_16 hd hS hR 0 (cf_415_0 (mz_pI (mz_pI N 232 136 (-1)) 232 137 (mz_b01 false))) hr hp hC))
  exact ⟨rfl, rfl, trivial⟩
theorem cs_414 (hd : 10 ≤ d) (hS : mz_extR S 342) (hR : mz_rok R 342)  (N : mz_N) (hp : cp_414_0 N) (hq : Q (.inl none) (mz_k S R (cf_414_0 N) b t)) : mz_Ed (mz_X0 L xs) d 414 [.ref 232] (mz_k S R N b t) Q :=
  by
  refine g_in mzq_414 (Nat.le_of_ble_eq_true rfl) (Nat.le_of_ble_eq_true rfl) (Nat.le_trans (Nat.le_of_ble_eq_true rfl) hd) ?_
  refine g_weak ?_ (cg_414_0 (d := d - 1) (by omega) hS hR N (C0 := fun z => Q (.inl none) (mz_k S R z b t)) (fun _ h => h) hp hq)
  exact ⟨rfl, trivial⟩
/-! 459 KeptHouseModel.thrown ()I -/
theorem ms_459_0 : mz_sf mk_459 0 = mk_459 := mz_sf_zero _
set_option maxRecDepth 100000 in
theorem mzq_459 : mz_PG0 459 = some (12, ⟨"KeptHouseModel", "thrown", "()I"⟩, prog_14_method_2_code, 1, some .int, [], mk_459, []) := rfl
theorem cg_459_0 (hd : 0 ≤ d) (hS : mz_extR S 342) (hR : mz_rok R 342)  (N : mz_N) {C0 : (Int32) → Prop} (hr : ∀ (w : Int32), C0 w → Q (.inl (some (.int w))) (mz_k S R N b t)) (hp : cp_459_0 N) (hC : C0 (cf_459_0 N)) : mz_G (d, mz_X0 L xs, some .int, [], mk_459, 1, Q) 0 mk_459 [(0, .ref 232)] [] true (mz_k S R N b t) := by
  unfold cf_459_0 at hC
  unfold cp_459_0 at hp
  refine g_aload_n rfl (g_getI (mz_at hS (Nat.le_of_ble_eq_true rfl) mzcS_232) mzcf_12_0 ?_)
  exact g_iret rfl (hr _ hC)
theorem cs_459 (hd : 1 ≤ d) (hS : mz_extR S 342) (hR : mz_rok R 342)  (N : mz_N) (hp : cp_459_0 N) (hq : Q (.inl (some (.int (cf_459_0 N)))) (mz_k S R N b t)) : mz_Ed (mz_X0 L xs) d 459 [.ref 232] (mz_k S R N b t) Q :=
  by
  refine g_in mzq_459 (Nat.le_of_ble_eq_true rfl) (Nat.le_of_ble_eq_true rfl) (Nat.le_trans (Nat.le_of_ble_eq_true rfl) hd) ?_
  refine g_weak ?_ (cg_459_0 (d := d - 1) (by omega) hS hR N (C0 := fun z => Q (.inl (some (.int z))) (mz_k S R N b t)) (fun _ h => h) hp hq)
  exact ⟨rfl, trivial⟩
/-! 461 KeptHouseModel.isDesk (I)Z -/
theorem ms_461_0 : mz_sf mk_461 0 = mk_461 := mz_sf_zero _
theorem ms_461_13 : mz_sf mk_461 13 = mt_461_13 := mz_sf_add ms_461_0 (t := 13) rfl rfl
theorem ms_461_14 : mz_sf mk_461 14 = mt_461_14 := mz_sf_add ms_461_13 (t := 1) rfl rfl
set_option maxRecDepth 100000 in
theorem mzq_461 : mz_PG0 461 = some (12, ⟨"KeptHouseModel", "isDesk", "(I)Z"⟩, prog_14_method_18_code, 1, some .boolean, [], mk_461, []) := rfl
theorem cg_461_0 (hd : 0 ≤ d) (hS : mz_extR S 342) (hR : mz_rok R 342)  (v0 : Int32) {C0 : (Bool) → Prop} (hr : ∀ (w : Bool), C0 w → Q (.inl (some (.int (mz_b01 w)))) (mz_k S R N b t)) (hp : cp_461_0 v0) (hC : C0 (cf_461_0 v0)) : mz_G (d, mz_X0 L xs, some .boolean, [], mk_461, 1, Q) 0 mk_461 [(0, .int v0)] [] true (mz_k S R N b t) := by
  unfold cf_461_0 at hC
  unfold cp_461_0 at hp
  refine g_iload_n rfl ?_
  refine g_iflt (tg := 13) rfl ms_461_13 hC (fun h1 hC => ?_) (fun h1 hC => ?_)
  · refine g_iconst mzi_0 ?_
    exact g_zret (z := false) rfl (hr _ hC)
  · refine g_iload_n rfl (g_iconst mzi_3 ?_)
    refine g_icge (tg := 13) rfl ms_461_13 hC (fun h2 hC => ?_) (fun h2 hC => ?_)
    · refine g_iconst mzi_1 (g_goto (tg := 14) rfl ms_461_14 ?_)
      exact g_zret (z := true) rfl (hr _ hC)
    · refine g_iconst mzi_0 ?_
      exact g_zret (z := false) rfl (hr _ hC)
theorem cs_461 (hd : 1 ≤ d) (hS : mz_extR S 342) (hR : mz_rok R 342)  (v0 : Int32) (hp : cp_461_0 v0) (hq : Q (.inl (some (.int (mz_b01 (cf_461_0 v0))))) (mz_k S R N b t)) : mz_Ed (mz_X0 L xs) d 461 [.int v0] (mz_k S R N b t) Q :=
  by
  refine g_in mzq_461 (Nat.le_of_ble_eq_true rfl) (Nat.le_of_ble_eq_true rfl) (Nat.le_trans (Nat.le_of_ble_eq_true rfl) hd) ?_
  refine g_weak ?_ (cg_461_0 (d := d - 1) (by omega) hS hR v0 (C0 := fun z => Q (.inl (some (.int (mz_b01 z)))) (mz_k S R N b t)) (fun _ h => h) hp hq)
  exact ⟨rfl, trivial⟩
/-! 462 KeptHouseModel.fails (ZZ)Z -/
theorem ms_462_0 : mz_sf mk_462 0 = mk_462 := mz_sf_zero _
theorem ms_462_12 : mz_sf mk_462 12 = mt_462_12 := mz_sf_add ms_462_0 (t := 12) rfl rfl
theorem ms_462_20 : mz_sf mk_462 20 = mt_462_20 := mz_sf_add ms_462_12 (t := 8) rfl rfl
theorem ms_462_28 : mz_sf mk_462 28 = mt_462_28 := mz_sf_add ms_462_20 (t := 8) rfl rfl
theorem ms_462_29 : mz_sf mk_462 29 = mt_462_29 := mz_sf_add ms_462_28 (t := 1) rfl rfl
theorem ms_462_43 : mz_sf mk_462 43 = mt_462_43 := mz_sf_add ms_462_29 (t := 14) rfl rfl
theorem ms_462_44 : mz_sf mk_462 44 = mt_462_44 := mz_sf_add ms_462_43 (t := 1) rfl rfl
set_option maxRecDepth 100000 in
theorem mzq_462 : mz_PG0 462 = some (12, ⟨"KeptHouseModel", "fails", "(ZZ)Z"⟩, prog_14_method_4_code, 3, some .boolean, [], mk_462, []) := rfl
theorem cg_462_29 (hd : 0 ≤ d) (hS : mz_extR S 342) (hR : mz_rok R 342)  (s1 : Int32) (N : mz_N) {C0 : (Bool × mz_N) → Prop} (hr : ∀ (w : Bool) (N2 : mz_N), C0 (w, N2) → Q (.inl (some (.int (mz_b01 w)))) (mz_k S R N2 b t)) (hp : cp_462_29 s1 N) (hC : C0 (cf_462_29 s1 N)) : mz_G (d, mz_X0 L xs, some .boolean, [], mk_462, 3, Q) 29 mt_462_29 [(0, .ref 232)] [.int s1, .ref 232] true (mz_k S R N b t) := by
  unfold cf_462_29 at hC
  unfold cp_462_29 at hp
  refine g_putI (mz_at hS (Nat.le_of_ble_eq_true rfl) mzcS_232) mzcf_12_0 (g_aload_n rfl (g_getI (mz_at hS (Nat.le_of_ble_eq_true rfl) mzcS_232) mzcf_12_0 ?_))
  refine g_ifle (tg := 43) rfl ms_462_43 hC (fun h1 hC => ?_) (fun h1 hC => ?_)
  · refine g_iconst mzi_1 (g_goto (tg := 44) rfl ms_462_44 ?_)
    exact g_zret (z := true) rfl (hr _ _ hC)
  · refine g_iconst mzi_0 ?_
    exact g_zret (z := false) rfl (hr _ _ hC)
theorem cg_462_0 (hd : 0 ≤ d) (hS : mz_extR S 342) (hR : mz_rok R 342)  (v1 : Bool) (v2 : Bool) (N : mz_N) {C0 : (Bool × mz_N) → Prop} (hr : ∀ (w : Bool) (N2 : mz_N), C0 (w, N2) → Q (.inl (some (.int (mz_b01 w)))) (mz_k S R N2 b t)) (hp : cp_462_0 v1 v2 N) (hC : C0 (cf_462_0 v1 v2 N)) : mz_G (d, mz_X0 L xs, some .boolean, [], mk_462, 3, Q) 0 mk_462 [(0, .ref 232), (1, .int (mz_b01 v1)), (2, .int (mz_b01 v2))] [] true (mz_k S R N b t) := by
  unfold cf_462_0 at hC
  unfold cp_462_0 at hp
  refine g_aload_n rfl (g_aload_n rfl ?_)
  obtain ⟨h1, hp⟩ := hp
  refine g_getZ (mz_at hS (Nat.le_of_ble_eq_true rfl) mzcS_232) mzcf_12_137 h1 ?_
  refine g_zeq (tg := 12) rfl ms_462_12 hC (fun h2 hC => ?_) (fun h2 hC => ?_)
  · have hp := hp.1 h2
    refine g_iconst mzi_2 (g_goto (tg := 29) rfl ms_462_29 ?_)
    refine g_weak ?_ (cg_462_29 hd hS hR 2 N hr hp hC)
    exact ⟨rfl, trivial⟩
  · have hp := hp.2 h2
    refine g_iload_n rfl ?_
    refine g_zne (tg := 20) rfl ms_462_20 hC (fun h3 hC => ?_) (fun h3 hC => ?_)
    · have hp := hp.1 h3
      refine g_iload_n rfl ?_
      refine g_zne (tg := 28) rfl ms_462_28 hC (fun h4 hC => ?_) (fun h4 hC => ?_)
      · have hp := hp.1 h4
        refine g_iconst mzi_0 ?_
        refine g_weak ?_ (cg_462_29 hd hS hR 0 N hr hp hC)
        exact ⟨rfl, trivial⟩
      · have hp := hp.2 h4
        refine g_iconst mzi_2 (g_goto (tg := 29) rfl ms_462_29 ?_)
        refine g_weak ?_ (cg_462_29 hd hS hR 2 N hr hp hC)
        exact ⟨rfl, trivial⟩
    · have hp := hp.2 h3
      refine g_iconst mzi_1 (g_goto (tg := 29) rfl ms_462_29 ?_)
      refine g_weak ?_ (cg_462_29 hd hS hR 1 N hr hp hC)
      exact ⟨rfl, trivial⟩
theorem cs_462 (hd : 1 ≤ d) (hS : mz_extR S 342) (hR : mz_rok R 342)  (v1 : Bool) (v2 : Bool) (N : mz_N) (hp : cp_462_0 v1 v2 N) (hq : Q (.inl (some (.int (mz_b01 ((cf_462_0 v1 v2 N).1))))) (mz_k S R ((cf_462_0 v1 v2 N).2) b t)) : mz_Ed (mz_X0 L xs) d 462 [.ref 232, .int (mz_b01 v1), .int (mz_b01 v2)] (mz_k S R N b t) Q :=
  by
  refine g_in mzq_462 (Nat.le_of_ble_eq_true rfl) (Nat.le_of_ble_eq_true rfl) (Nat.le_trans (Nat.le_of_ble_eq_true rfl) hd) ?_
  refine g_weak ?_ (cg_462_0 (d := d - 1) (by omega) hS hR v1 v2 N (C0 := fun z => Q (.inl (some (.int (mz_b01 z.1)))) (mz_k S R z.2 b t)) (fun _ _ h => h) hp hq)
  exact ⟨rfl, rfl, rfl, trivial⟩
end Fn23
