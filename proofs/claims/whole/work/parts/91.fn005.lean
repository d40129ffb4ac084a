/-! THE FUNCTIONS: written by program: each method comes to its function. -/
section Fn5
variable {L : Nat} {xs : Nat → Int32} {d : Nat} {S : mz_S} {R : Nat → Nat → Option Nat} {Q : mz_Q} {N : mz_N} {b : Bool} {t : Nat}
/-! 113 KeptHouse$Plan.isConflict (II)Z -/
theorem ms_113_0 : mz_sf mk_113 0 = mk_113 := mz_sf_zero _
theorem ms_113_26 : mz_sf mk_113 26 = mt_113_26 := mz_sf_add ms_113_0 (t := 26) rfl rfl
theorem ms_113_47 : mz_sf mk_113 47 = mt_113_47 := mz_sf_add ms_113_26 (t := 21) rfl rfl
theorem ms_113_48 : mz_sf mk_113 48 = mt_113_48 := mz_sf_add ms_113_47 (t := 1) rfl rfl
set_option maxRecDepth 100000 in
theorem mzq_113 : mz_PG0 113 = some (5, ⟨"KeptHouse$Plan", "isConflict", "(II)Z"⟩, prog_7_method_15_code, 3, some .boolean, [], mk_113, []) := rfl
theorem cg_113_0 (hd : 1 ≤ d) (hS : mz_extR S 232) (hR : mz_rok R 232)  (v1 : Int32) (v2 : Int32) (N : mz_N) {C0 : (Bool) → Prop} (hr : ∀ (w : Bool), C0 w → Q (.inl (some (.int (mz_b01 w)))) (mz_k S R N b t)) (hp : cp_113_0 v1 v2 N) (hC : C0 (cf_113_0 v1 v2 N)) : mz_G (d, mz_X0 L xs, some .boolean, [], mk_113, 3, Q) 0 mk_113 [(0, .ref 2), (1, .int v1), (2, .int v2)] [] true (mz_k S R N b t) := by
  unfold cf_113_0 at hC
  unfold cp_113_0 at hp
  refine g_aload_n rfl (g_iload_n rfl (g_iload_n rfl ?_))
  obtain ⟨h1, hp⟩ := hp
  refine g_v3v (Nat.le_of_ble_eq_true rfl) (mz_at hS (Nat.le_of_ble_eq_true rfl) mzcS_2) (fun _ hq => cs_114 (Nat.le_trans (Nat.le_of_ble_eq_true rfl) hd) (hS.le (Nat.le_of_ble_eq_true rfl)) (hR.le (Nat.le_of_ble_eq_true rfl))  v1 v2 N h1 hq) ?_
  refine g_zeq (tg := 47) rfl ms_113_47 hC (fun h2 hC => ?_) (fun h2 hC => ?_)
  · have hp := hp.1 h2
    refine g_aload_n rfl (g_getR (mz_at hS (Nat.le_of_ble_eq_true rfl) mzcS_2) mzcf_5_0 (mz_rb hR (Nat.le_of_ble_eq_true rfl) rfl mzcR_2_0) (g_iload_n rfl ?_))
    obtain ⟨h3, hp⟩ := hp
    refine g_iald hS.1 (mz_at hS (Nat.le_of_ble_eq_true rfl) mzcS_3) h3 (g_aload_n rfl (g_getR (mz_at hS (Nat.le_of_ble_eq_true rfl) mzcS_2) mzcf_5_2 (mz_rb hR (Nat.le_of_ble_eq_true rfl) rfl mzcR_2_2) (g_iload_n rfl ?_)))
    obtain ⟨h4, hp⟩ := hp
    refine g_aald4 (mz_at hS (Nat.le_of_ble_eq_true rfl) mzcS_8) h4 (mz_rb hR (Nat.le_of_ble_eq_true rfl) rfl (mzcR2_8 h4)) (g_iload_n rfl ?_)
    obtain ⟨h5, hp⟩ := hp
    refine g_iald hS.1 (mz_at hS (mzcL2_8 h4 (Nat.le_of_ble_eq_true rfl)) (mzcS2_8 h4)) h5 ?_
    refine g_iceq (tg := 47) rfl ms_113_47 hC (fun h6 hC => ?_) (fun h6 hC => ?_)
    · have hp := hp.1 h6
      refine g_iconst mzi_0 ?_
      exact g_zret (z := false) rfl (hr _ hC)
    · have hp := hp.2 h6
      refine g_aload_n rfl (g_getR (mz_at hS (Nat.le_of_ble_eq_true rfl) mzcS_2) mzcf_5_0 (mz_rb hR (Nat.le_of_ble_eq_true rfl) rfl mzcR_2_0) (g_iload_n rfl ?_))
      obtain ⟨h7, hp⟩ := hp
      refine g_iald hS.1 (mz_at hS (Nat.le_of_ble_eq_true rfl) mzcS_3) h7 (g_aload_n rfl (g_getR (mz_at hS (Nat.le_of_ble_eq_true rfl) mzcS_2) mzcf_5_1 (mz_rb hR (Nat.le_of_ble_eq_true rfl) rfl mzcR_2_1) (g_iload_n rfl ?_)))
      obtain ⟨h8, hp⟩ := hp
      refine g_aald4 (mz_at hS (Nat.le_of_ble_eq_true rfl) mzcS_4) h8 (mz_rb hR (Nat.le_of_ble_eq_true rfl) rfl (mzcR2_4 h8)) (g_iload_n rfl ?_)
      have h9 := hp
      refine g_iald hS.1 (mz_at hS (mzcL2_4 h8 (Nat.le_of_ble_eq_true rfl)) (mzcS2_4 h8)) h9 ?_
      refine g_iceq (tg := 47) rfl ms_113_47 hC (fun h10 hC => ?_) (fun h10 hC => ?_)
      · refine g_iconst mzi_0 ?_
        exact g_zret (z := false) rfl (hr _ hC)
      · refine g_iconst mzi_1 (g_goto (tg := 48) rfl ms_113_48 ?_)
        exact g_zret (z := true) rfl (hr _ hC)
  · have hp := hp.2 h2
    refine g_iconst mzi_0 ?_
    exact g_zret (z := false) rfl (hr _ hC)
theorem cs_113 (hd : 2 ≤ d) (hS : mz_extR S 232) (hR : mz_rok R 232)  (v1 : Int32) (v2 : Int32) (N : mz_N) (hp : cp_113_0 v1 v2 N) (hq : Q (.inl (some (.int (mz_b01 (cf_113_0 v1 v2 N))))) (mz_k S R N b t)) : mz_Ed (mz_X0 L xs) d 113 [.ref 2, .int v1, .int v2] (mz_k S R N b t) Q :=
  by
  refine g_in mzq_113 (Nat.le_of_ble_eq_true rfl) (Nat.le_of_ble_eq_true rfl) (Nat.le_trans (Nat.le_of_ble_eq_true rfl) hd) ?_
  refine g_weak ?_ (cg_113_0 (d := d - 1) (by omega) hS hR v1 v2 N (C0 := fun z => Q (.inl (some (.int (mz_b01 z)))) (mz_k S R N b t)) (fun _ h => h) hp hq)
  exact ⟨rfl, rfl, rfl, trivial⟩
/-! 112 KeptHouse$Plan.countConflicts (I)I -/
theorem ms_112_0 : mz_sf mk_112 0 = mk_112 := mz_sf_zero _
theorem ms_112_4 : mz_sf mk_112 4 = mt_112_4 := mz_sf_add ms_112_0 (t := 4) rfl rfl
theorem ms_112_23 : mz_sf mk_112 23 = mt_112_23 := mz_sf_add ms_112_4 (t := 19) rfl rfl
theorem ms_112_29 : mz_sf mk_112 29 = mt_112_29 := mz_sf_add ms_112_23 (t := 6) rfl rfl
set_option maxRecDepth 100000 in
theorem mzq_112 : mz_PG0 112 = some (5, ⟨"KeptHouse$Plan", "countConflicts", "(I)I"⟩, prog_7_method_16_code, 4, some .int, [], mk_112, []) := rfl
theorem cg_112_23 (hd : 2 ≤ d) (hS : mz_extR S 232) (hR : mz_rok R 232)  (v1 : Int32) (v2 : Int32) (v3 : Int32) (N : mz_N) {C0 : (Int32) → Prop} (hr : ∀ (w : Int32), C0 w → Q (.inl (some (.int w))) (mz_k S R N b t)) {C1 : ((Int32 × Int32) ⊕ (Int32)) → Prop} (hc1 : ∀ s2, C1 (.inl s2) → mz_G (d, mz_X0 L xs, some .int, [], mk_112, 4, Q) 4 mt_112_4 [(0, .ref 2), (1, .int v1), (2, .int s2.1), (3, .int s2.2)] [] false (mz_k S R N b t)) (hx1 : ∀ z, C1 (.inr z) → C0 z) (hp : cp_112_23 v1 v2 v3 N) (hC : C1 (cf_112_23 v1 v2 v3 N)) : mz_G (d, mz_X0 L xs, some .int, [], mk_112, 4, Q) 23 mt_112_23 [(0, .ref 2), (1, .int v1), (2, .int v2), (3, .int v3)] [] false (mz_k S R N b t) := by
  unfold cf_112_23 at hC
  unfold cp_112_23 at hp
  refine g_iinc rfl mzi_1 (Nat.le_of_ble_eq_true rfl) rfl (g_goto (tg := 4) rfl ms_112_4 ?_)
  refine g_weak ?_ (g_cl (hc1 (v2, (v3 + 1)) hC))
  exact ⟨rfl, rfl, rfl, rfl, trivial⟩
theorem cb_112_4 (hd : 2 ≤ d) (hS : mz_extR S 232) (hR : mz_rok R 232)  (v1 : Int32) (N : mz_N) (s : Int32 × Int32) {C0 : (Int32) → Prop} (hr : ∀ (w : Int32), C0 w → Q (.inl (some (.int w))) (mz_k S R N b t)) {C1 : ((Int32 × Int32) ⊕ (Int32)) → Prop} (hc1 : ∀ s2, C1 (.inl s2) → mz_G (d, mz_X0 L xs, some .int, [], mk_112, 4, Q) 4 mt_112_4 [(0, .ref 2), (1, .int v1), (2, .int s2.1), (3, .int s2.2)] [] false (mz_k S R N b t)) (hx1 : ∀ z, C1 (.inr z) → C0 z) (hp : cd_112_4 v1 N s) (hC : C1 (cq_112_4 v1 N s)) : mz_G (d, mz_X0 L xs, some .int, [], mk_112, 4, Q) 4 mt_112_4 [(0, .ref 2), (1, .int v1), (2, .int s.1), (3, .int s.2)] [] false (mz_k S R N b t) := by
  unfold cq_112_4 at hC
  unfold cd_112_4 at hp
  refine g_iload_n rfl (g_sipush mzs_550 ?_)
  refine g_icge (tg := 29) rfl ms_112_29 hC (fun h1 hC => ?_) (fun h1 hC => ?_)
  · have hp := hp.1 h1
    refine g_aload_n rfl (g_iload_n rfl (g_iload_n rfl ?_))
    obtain ⟨h2, hp⟩ := hp
    refine g_v3v (Nat.le_of_ble_eq_true rfl) (mz_at hS (Nat.le_of_ble_eq_true rfl) mzcS_2) (fun _ hq => cs_113 (Nat.le_trans (Nat.le_of_ble_eq_true rfl) hd) (hS.le (Nat.le_of_ble_eq_true rfl)) (hR.le (Nat.le_of_ble_eq_true rfl))  v1 s.2 N h2 hq) ?_
    refine g_zeq (tg := 23) rfl ms_112_23 hC (fun h3 hC => ?_) (fun h3 hC => ?_)
    · have hp := hp.1 h3
      refine g_iinc rfl mzi_1 (Nat.le_of_ble_eq_true rfl) rfl ?_
      refine g_weak ?_ (g_cl (cg_112_23 hd hS hR v1 (s.1 + 1) s.2 N hr hc1 hx1 hp hC))
      exact ⟨rfl, rfl, rfl, rfl, trivial⟩
    · have hp := hp.2 h3
      refine g_weak ?_ (g_cl (cg_112_23 hd hS hR v1 s.1 s.2 N hr hc1 hx1 hp hC))
      exact ⟨rfl, rfl, rfl, rfl, trivial⟩
  · have hp := hp.2 h1
    refine g_iload_n rfl ?_
    exact g_iret rfl (hr _ (hx1 _ hC))
theorem cg_112_4 (hd : 2 ≤ d) (hS : mz_extR S 232) (hR : mz_rok R 232)  (v1 : Int32) (v2 : Int32) (v3 : Int32) (N : mz_N) {C0 : (Int32) → Prop} (hr : ∀ (w : Int32), C0 w → Q (.inl (some (.int w))) (mz_k S R N b t)) (hp : cp_112_4 v1 v2 v3 N) (hC : C0 (cf_112_4 v1 v2 v3 N)) : mz_G (d, mz_X0 L xs, some .int, [], mk_112, 4, Q) 4 mt_112_4 [(0, .ref 2), (1, .int v1), (2, .int v2), (3, .int v3)] [] false (mz_k S R N b t) := by
  obtain ⟨n, hn⟩ := hp
  exact g_loop (G := fun s => mz_G (d, mz_X0 L xs, some .int, [], mk_112, 4, Q) 4 mt_112_4 [(0, .ref 2), (1, .int v1), (2, .int s.1), (3, .int s.2)] [] false (mz_k S R N b t)) (C := C0) (fun C2 hc hx s hP hC => cb_112_4 hd hS hR v1 N s hr hc hx hP hC) n (v2, v3) hn hC
theorem cg_112_0 (hd : 2 ≤ d) (hS : mz_extR S 232) (hR : mz_rok R 232)  (v1 : Int32) (N : mz_N) {C0 : (Int32) → Prop} (hr : ∀ (w : Int32), C0 w → Q (.inl (some (.int w))) (mz_k S R N b t)) (hp : cp_112_0 v1 N) (hC : C0 (cf_112_0 v1 N)) : mz_G (d, mz_X0 L xs, some .int, [], mk_112, 4, Q) 0 mk_112 [(0, .ref 2), (1, .int v1)] [] true (mz_k S R N b t) := by
  unfold cf_112_0 at hC
  unfold cp_112_0 at hp
  refine g_iconst mzi_0 (g_istore_n (Nat.le_of_ble_eq_true rfl) rfl (g_iconst mzi_0 (g_istore_n (Nat.le_of_ble_eq_true rfl) rfl ?_)))
  refine g_weak ?_ (g_cl (cg_112_4 hd hS hR v1 0 0 N hr hp hC))
  exact ⟨rfl, rfl, rfl, rfl, trivial⟩
theorem cs_112 (hd : 3 ≤ d) (hS : mz_extR S 232) (hR : mz_rok R 232)  (v1 : Int32) (N : mz_N) (hp : cp_112_0 v1 N) (hq : Q (.inl (some (.int (cf_112_0 v1 N)))) (mz_k S R N b t)) : mz_Ed (mz_X0 L xs) d 112 [.ref 2, .int v1] (mz_k S R N b t) Q :=
  by
  refine g_in mzq_112 (Nat.le_of_ble_eq_true rfl) (Nat.le_of_ble_eq_true rfl) (Nat.le_trans (Nat.le_of_ble_eq_true rfl) hd) ?_
  refine g_weak ?_ (cg_112_0 (d := d - 1) (by omega) hS hR v1 N (C0 := fun z => Q (.inl (some (.int z))) (mz_k S R N b t)) (fun _ h => h) hp hq)
  exact ⟨rfl, rfl, trivial⟩
/-! 116 KeptHouse$Plan.countTrial ()I -/
theorem ms_116_0 : mz_sf mk_116 0 = mk_116 := mz_sf_zero _
set_option maxRecDepth 100000 in
theorem mzq_116 : mz_PG0 116 = some (5, ⟨"KeptHouse$Plan", "countTrial", "()I"⟩, prog_7_method_20_code, 1, some .int, [], mk_116, []) := rfl
theorem cg_116_0 (hd : 3 ≤ d) (hS : mz_extR S 232) (hR : mz_rok R 232)  (N : mz_N) {C0 : (Int32 × mz_N) → Prop} (hr : ∀ (w : Int32) (N2 : mz_N), C0 (w, N2) → Q (.inl (some (.int w))) (mz_k S R N2 b t)) (hp : cp_116_0 N) (hC : C0 (cf_116_0 N)) : mz_G (d, mz_X0 L xs, some .int, [], mk_116, 1, Q) 0 mk_116 [(0, .ref 2)] [] true (mz_k S R N b t) := by
  unfold cf_116_0 at hC
  unfold cp_116_0 at hp
  refine g_aload_n rfl (g_aload_n rfl (g_getR (mz_at hS (Nat.le_of_ble_eq_true rfl) mzcS_2) mzcf_5_4 (mz_rb hR (Nat.le_of_ble_eq_true rfl) rfl mzcR_2_4) (g_aload_n rfl (g_getR (mz_at hS (Nat.le_of_ble_eq_true rfl) mzcS_2) mzcf_5_5 (mz_rb hR (Nat.le_of_ble_eq_true rfl) rfl mzcR_2_5) ?_))))
  have h1 := hp
  refine g_v3v (Nat.le_of_ble_eq_true rfl) (mz_at hS (Nat.le_of_ble_eq_true rfl) mzcS_2) (fun _ hq => cs_78 (Nat.le_trans (Nat.le_of_ble_eq_true rfl) hd) (hS.le (Nat.le_of_ble_eq_true rfl)) (hR.le (Nat.le_of_ble_eq_true rfl)) 12 13 (mz_at hS (Nat.le_of_ble_eq_true rfl) mzcS_12) (mz_at hS (Nat.le_of_ble_eq_true rfl) mzcS_13) N h1 hq) ?_
  exact g_iret rfl (hr _ _ hC)
theorem cs_116 (hd : 4 ≤ d) (hS : mz_extR S 232) (hR : mz_rok R 232)  (N : mz_N) (hp : cp_116_0 N) (hq : Q (.inl (some (.int ((cf_116_0 N).1)))) (mz_k S R ((cf_116_0 N).2) b t)) : mz_Ed (mz_X0 L xs) d 116 [.ref 2] (mz_k S R N b t) Q :=
  by
  refine g_in mzq_116 (Nat.le_of_ble_eq_true rfl) (Nat.le_of_ble_eq_true rfl) (Nat.le_trans (Nat.le_of_ble_eq_true rfl) hd) ?_
  refine g_weak ?_ (cg_116_0 (d := d - 1) (by omega) hS hR N (C0 := fun z => Q (.inl (some (.int z.1))) (mz_k S R z.2 b t)) (fun _ _ h => h) hp hq)
  exact ⟨rfl, trivial⟩
/-! 115 KeptHouse$Plan.layTrial (I)I -/
theorem ms_115_0 : mz_sf mk_115 0 = mk_115 := mz_sf_zero _
theorem ms_115_2 : mz_sf mk_115 2 = mt_115_2 := mz_sf_add ms_115_0 (t := 2) rfl rfl
theorem ms_115_34 : mz_sf mk_115 34 = mt_115_34 := mz_sf_add ms_115_2 (t := 32) rfl rfl
theorem ms_115_40 : mz_sf mk_115 40 = mt_115_40 := mz_sf_add ms_115_34 (t := 6) rfl rfl
theorem ms_115_47 : mz_sf mk_115 47 = mt_115_47 := mz_sf_add ms_115_40 (t := 7) rfl rfl
set_option maxRecDepth 100000 in
theorem mzq_115 : mz_PG0 115 = some (5, ⟨"KeptHouse$Plan", "layTrial", "(I)I"⟩, prog_7_method_19_code, 3, some .int, [], mk_115, []) := rfl
theorem cg_115_40 (hd : 4 ≤ d) (hS : mz_extR S 232) (hR : mz_rok R 232)  (s1 : Int32) (s2 : Int32) (v1 : Int32) (v2 : Int32) (N : mz_N) {C0 : (Int32 × mz_N) → Prop} (hr : ∀ (w : Int32) (N2 : mz_N), C0 (w, N2) → Q (.inl (some (.int w))) (mz_k S R N2 b t)) {C1 : ((Int32 × mz_N) ⊕ (Int32 × mz_N)) → Prop} (hc1 : ∀ s2, C1 (.inl s2) → mz_G (d, mz_X0 L xs, some .int, [], mk_115, 3, Q) 2 mt_115_2 [(0, .ref 2), (1, .int v1), (2, .int s2.1)] [] false (mz_k S R s2.2 b t)) (hx1 : ∀ z, C1 (.inr z) → C0 z) (hp : cp_115_40 s1 s2 v1 v2 N) (hC : C1 (cf_115_40 s1 s2 v1 v2 N)) : mz_G (d, mz_X0 L xs, some .int, [], mk_115, 3, Q) 40 mt_115_40 [(0, .ref 2), (1, .int v1), (2, .int v2)] [.int s2, .int s1, .ref 12] false (mz_k S R N b t) := by
  unfold cf_115_40 at hC
  unfold cp_115_40 at hp
  have h1 := hp
  refine g_iast (mz_at hS (Nat.le_of_ble_eq_true rfl) mzcS_12) h1 (g_iinc rfl mzi_1 (Nat.le_of_ble_eq_true rfl) rfl (g_goto (tg := 2) rfl ms_115_2 ?_))
  refine g_weak ?_ (g_cl (hc1 ((v2 + 1), mz_wI N 12 s1 s2) hC))
  exact ⟨rfl, rfl, rfl, trivial⟩
theorem cb_115_2 (hd : 4 ≤ d) (hS : mz_extR S 232) (hR : mz_rok R 232)  (v1 : Int32) (s : Int32 × mz_N) {C0 : (Int32 × mz_N) → Prop} (hr : ∀ (w : Int32) (N2 : mz_N), C0 (w, N2) → Q (.inl (some (.int w))) (mz_k S R N2 b t)) {C1 : ((Int32 × mz_N) ⊕ (Int32 × mz_N)) → Prop} (hc1 : ∀ s2, C1 (.inl s2) → mz_G (d, mz_X0 L xs, some .int, [], mk_115, 3, Q) 2 mt_115_2 [(0, .ref 2), (1, .int v1), (2, .int s2.1)] [] false (mz_k S R s2.2 b t)) (hx1 : ∀ z, C1 (.inr z) → C0 z) (hp : cd_115_2 v1 s) (hC : C1 (cq_115_2 v1 s)) : mz_G (d, mz_X0 L xs, some .int, [], mk_115, 3, Q) 2 mt_115_2 [(0, .ref 2), (1, .int v1), (2, .int s.1)] [] false (mz_k S R s.2 b t) := by
  unfold cq_115_2 at hC
  unfold cd_115_2 at hp
  refine g_iload_n rfl (g_sipush mzs_550 ?_)
  refine g_icge (tg := 47) rfl ms_115_47 hC (fun h1 hC => ?_) (fun h1 hC => ?_)
  · have hp := hp.1 h1
    refine g_aload_n rfl (g_getR (mz_at hS (Nat.le_of_ble_eq_true rfl) mzcS_2) mzcf_5_4 (mz_rb hR (Nat.le_of_ble_eq_true rfl) rfl mzcR_2_4) (g_iload_n rfl (g_aload_n rfl (g_iload_n rfl (g_iload_n rfl ?_)))))
    obtain ⟨h2, hp⟩ := hp
    refine g_v3v (Nat.le_of_ble_eq_true rfl) (mz_at hS (Nat.le_of_ble_eq_true rfl) mzcS_2) (fun _ hq => cs_114 (Nat.le_trans (Nat.le_of_ble_eq_true rfl) hd) (hS.le (Nat.le_of_ble_eq_true rfl)) (hR.le (Nat.le_of_ble_eq_true rfl))  v1 s.1 s.2 h2 hq) ?_
    refine g_zeq (tg := 34) rfl ms_115_34 hC (fun h3 hC => ?_) (fun h3 hC => ?_)
    · have hp := hp.1 h3
      refine g_aload_n rfl (g_getR (mz_at hS (Nat.le_of_ble_eq_true rfl) mzcS_2) mzcf_5_1 (mz_rb hR (Nat.le_of_ble_eq_true rfl) rfl mzcR_2_1) (g_iload_n rfl ?_))
      obtain ⟨h4, hp⟩ := hp
      refine g_aald4 (mz_at hS (Nat.le_of_ble_eq_true rfl) mzcS_4) h4 (mz_rb hR (Nat.le_of_ble_eq_true rfl) rfl (mzcR2_4 h4)) (g_iload_n rfl ?_)
      obtain ⟨h5, hp⟩ := hp
      refine g_iald hS.1 (mz_at hS (mzcL2_4 h4 (Nat.le_of_ble_eq_true rfl)) (mzcS2_4 h4)) h5 (g_goto (tg := 40) rfl ms_115_40 ?_)
      refine g_weak ?_ (g_cl (cg_115_40 hd hS hR s.1 (mz_gI s.2 (5 + v1.toNatClampNeg) s.1) v1 s.1 s.2 hr hc1 hx1 hp hC))
      exact ⟨rfl, rfl, rfl, trivial⟩
    · have hp := hp.2 h3
      refine g_aload_n rfl (g_getR (mz_at hS (Nat.le_of_ble_eq_true rfl) mzcS_2) mzcf_5_0 (mz_rb hR (Nat.le_of_ble_eq_true rfl) rfl mzcR_2_0) (g_iload_n rfl ?_))
      obtain ⟨h6, hp⟩ := hp
      refine g_iald hS.1 (mz_at hS (Nat.le_of_ble_eq_true rfl) mzcS_3) h6 ?_
      refine g_weak ?_ (g_cl (cg_115_40 hd hS hR s.1 (mz_gI s.2 3 s.1) v1 s.1 s.2 hr hc1 hx1 hp hC))
      exact ⟨rfl, rfl, rfl, trivial⟩
  · have hp := hp.2 h1
    refine g_aload_n rfl ?_
    have h7 := hp
    refine g_v1v (Nat.le_of_ble_eq_true rfl) (mz_at hS (Nat.le_of_ble_eq_true rfl) mzcS_2) (fun _ hq => cs_116 (Nat.le_trans (Nat.le_of_ble_eq_true rfl) hd) (hS.le (Nat.le_of_ble_eq_true rfl)) (hR.le (Nat.le_of_ble_eq_true rfl))  s.2 h7 hq) ?_
    exact g_iret rfl (hr _ _ (hx1 _ hC))
theorem cg_115_2 (hd : 4 ≤ d) (hS : mz_extR S 232) (hR : mz_rok R 232)  (v1 : Int32) (v2 : Int32) (N : mz_N) {C0 : (Int32 × mz_N) → Prop} (hr : ∀ (w : Int32) (N2 : mz_N), C0 (w, N2) → Q (.inl (some (.int w))) (mz_k S R N2 b t)) (hp : cp_115_2 v1 v2 N) (hC : C0 (cf_115_2 v1 v2 N)) : mz_G (d, mz_X0 L xs, some .int, [], mk_115, 3, Q) 2 mt_115_2 [(0, .ref 2), (1, .int v1), (2, .int v2)] [] false (mz_k S R N b t) := by
  obtain ⟨n, hn⟩ := hp
  exact g_loop (G := fun s => mz_G (d, mz_X0 L xs, some .int, [], mk_115, 3, Q) 2 mt_115_2 [(0, .ref 2), (1, .int v1), (2, .int s.1)] [] false (mz_k S R s.2 b t)) (C := C0) (fun C2 hc hx s hP hC => cb_115_2 hd hS hR v1 s hr hc hx hP hC) n (v2, N) hn hC
theorem cg_115_0 (hd : 4 ≤ d) (hS : mz_extR S 232) (hR : mz_rok R 232)  (v1 : Int32) (N : mz_N) {C0 : (Int32 × mz_N) → Prop} (hr : ∀ (w : Int32) (N2 : mz_N), C0 (w, N2) → Q (.inl (some (.int w))) (mz_k S R N2 b t)) (hp : cp_115_0 v1 N) (hC : C0 (cf_115_0 v1 N)) : mz_G (d, mz_X0 L xs, some .int, [], mk_115, 3, Q) 0 mk_115 [(0, .ref 2), (1, .int v1)] [] true (mz_k S R N b t) := by
  unfold cf_115_0 at hC
  unfold cp_115_0 at hp
  refine g_iconst mzi_0 (g_istore_n (Nat.le_of_ble_eq_true rfl) rfl ?_)
  refine g_weak ?_ (g_cl (cg_115_2 hd hS hR v1 0 N hr hp hC))
  exact ⟨rfl, rfl, rfl, trivial⟩
theorem cs_115 (hd : 5 ≤ d) (hS : mz_extR S 232) (hR : mz_rok R 232)  (v1 : Int32) (N : mz_N) (hp : cp_115_0 v1 N) (hq : Q (.inl (some (.int ((cf_115_0 v1 N).1)))) (mz_k S R ((cf_115_0 v1 N).2) b t)) : mz_Ed (mz_X0 L xs) d 115 [.ref 2, .int v1] (mz_k S R N b t) Q :=
  by
  refine g_in mzq_115 (Nat.le_of_ble_eq_true rfl) (Nat.le_of_ble_eq_true rfl) (Nat.le_trans (Nat.le_of_ble_eq_true rfl) hd) ?_
  refine g_weak ?_ (cg_115_0 (d := d - 1) (by omega) hS hR v1 N (C0 := fun z => Q (.inl (some (.int z.1))) (mz_k S R z.2 b t)) (fun _ _ h => h) hp hq)
  exact ⟨rfl, rfl, trivial⟩
/-! 117 KeptHouse$Keeper.startGroup ()V -/
theorem ms_117_0 : mz_sf mk_117 0 = mk_117 := mz_sf_zero _
set_option maxRecDepth 100000 in
theorem mzq_117 : mz_PG0 117 = some (4, ⟨"KeptHouse$Keeper", "startGroup", "()V"⟩, prog_6_method_3_code, 1, none, [], mk_117, []) := rfl
theorem cg_117_0 (hd : 0 ≤ d) (hS : mz_extR S 232) (hR : mz_rok R 232)  (N : mz_N) {C0 : (mz_N) → Prop} (hr : ∀ (N2 : mz_N), C0 N2 → Q (.inl none) (mz_k S R N2 b t)) (hp : cp_117_0 N) (hC : C0 (cf_117_0 N)) : mz_G (d, mz_X0 L xs, none, [], mk_117, 1, Q) 0 mk_117 [(0, .ref 1)] [] true (mz_k S R N b t) := by
  unfold cf_117_0 at hC
  unfold cp_117_0 at hp
  refine g_aload_n rfl (g_getR (mz_at hS (Nat.le_of_ble_eq_true rfl) mzcS_1) mzcf_4_8 (mz_rb hR (Nat.le_of_ble_eq_true rfl) rfl mzcR_1_8) (g_iconst mzi_0 (g_putI (mz_at hS (Nat.le_of_ble_eq_true rfl) mzcS_219) mzcf_8_11 ?_)))
  exact g_vret rfl (hr _ hC)
theorem cs_117 (hd : 1 ≤ d) (hS : mz_extR S 232) (hR : mz_rok R 232)  (N : mz_N) (hp : cp_117_0 N) (hq : Q (.inl none) (mz_k S R (cf_117_0 N) b t)) : mz_Ed (mz_X0 L xs) d 117 [.ref 1] (mz_k S R N b t) Q :=
  by
  refine g_in mzq_117 (Nat.le_of_ble_eq_true rfl) (Nat.le_of_ble_eq_true rfl) (Nat.le_trans (Nat.le_of_ble_eq_true rfl) hd) ?_
  refine g_weak ?_ (cg_117_0 (d := d - 1) (by omega) hS hR N (C0 := fun z => Q (.inl none) (mz_k S R z b t)) (fun _ h => h) hp hq)
  exact ⟨rfl, trivial⟩
/-! 118 KeptHouse$Plan.trialDiffers (I)Z -/
theorem ms_118_0 : mz_sf mk_118 0 = mk_118 := mz_sf_zero _
theorem ms_118_2 : mz_sf mk_118 2 = mt_118_2 := mz_sf_add ms_118_0 (t := 2) rfl rfl
theorem ms_118_33 : mz_sf mk_118 33 = mt_118_33 := mz_sf_add ms_118_2 (t := 31) rfl rfl
theorem ms_118_35 : mz_sf mk_118 35 = mt_118_35 := mz_sf_add ms_118_33 (t := 2) rfl rfl
theorem ms_118_41 : mz_sf mk_118 41 = mt_118_41 := mz_sf_add ms_118_35 (t := 6) rfl rfl
set_option maxRecDepth 100000 in
theorem mzq_118 : mz_PG0 118 = some (5, ⟨"KeptHouse$Plan", "trialDiffers", "(I)Z"⟩, prog_7_method_21_code, 3, some .boolean, [], mk_118, []) := rfl
theorem cb_118_2 (hd : 0 ≤ d) (hS : mz_extR S 232) (hR : mz_rok R 232)  (v1 : Int32) (N : mz_N) (s : Int32) {C0 : (Bool) → Prop} (hr : ∀ (w : Bool), C0 w → Q (.inl (some (.int (mz_b01 w)))) (mz_k S R N b t)) {C1 : ((Int32) ⊕ (Bool)) → Prop} (hc1 : ∀ s2, C1 (.inl s2) → mz_G (d, mz_X0 L xs, some .boolean, [], mk_118, 3, Q) 2 mt_118_2 [(0, .ref 2), (1, .int v1), (2, .int s2)] [] false (mz_k S R N b t)) (hx1 : ∀ z, C1 (.inr z) → C0 z) (hp : cd_118_2 v1 N s) (hC : C1 (cq_118_2 v1 N s)) : mz_G (d, mz_X0 L xs, some .boolean, [], mk_118, 3, Q) 2 mt_118_2 [(0, .ref 2), (1, .int v1), (2, .int s)] [] false (mz_k S R N b t) := by
  unfold cq_118_2 at hC
  unfold cd_118_2 at hp
  refine g_iload_n rfl (g_bipush mzb_110 ?_)
  refine g_icge (tg := 41) rfl ms_118_41 hC (fun h1 hC => ?_) (fun h1 hC => ?_)
  · have hp := hp.1 h1
    refine g_aload_n rfl (g_getR (mz_at hS (Nat.le_of_ble_eq_true rfl) mzcS_2) mzcf_5_4 (mz_rb hR (Nat.le_of_ble_eq_true rfl) rfl mzcR_2_4) (g_iload_n rfl (g_bipush mzb_110 (g_imul (g_iload_n rfl (g_iadd ?_))))))
    obtain ⟨h2, hp⟩ := hp
    refine g_iald hS.1 (mz_at hS (Nat.le_of_ble_eq_true rfl) mzcS_12) h2 (g_aload_n rfl (g_getR (mz_at hS (Nat.le_of_ble_eq_true rfl) mzcS_2) mzcf_5_0 (mz_rb hR (Nat.le_of_ble_eq_true rfl) rfl mzcR_2_0) (g_iload_n rfl (g_bipush mzb_110 (g_imul (g_iload_n rfl (g_iadd ?_)))))))
    have h3 := hp
    refine g_iald hS.1 (mz_at hS (Nat.le_of_ble_eq_true rfl) mzcS_3) h3 ?_
    refine g_iceq (tg := 35) rfl ms_118_35 hC (fun h4 hC => ?_) (fun h4 hC => ?_)
    · refine g_iinc rfl mzi_1 (Nat.le_of_ble_eq_true rfl) rfl (g_goto (tg := 2) rfl ms_118_2 ?_)
      refine g_weak ?_ (g_cl (hc1 ((s + 1)) hC))
      exact ⟨rfl, rfl, rfl, trivial⟩
    · refine g_iconst mzi_1 ?_
      exact g_zret (z := true) rfl (hr _ (hx1 _ hC))
  · have hp := hp.2 h1
    refine g_iconst mzi_0 ?_
    exact g_zret (z := false) rfl (hr _ (hx1 _ hC))
theorem cg_118_2 (hd : 0 ≤ d) (hS : mz_extR S 232) (hR : mz_rok R 232)  (v1 : Int32) (v2 : Int32) (N : mz_N) {C0 : (Bool) → Prop} (hr : ∀ (w : Bool), C0 w → Q (.inl (some (.int (mz_b01 w)))) (mz_k S R N b t)) (hp : cp_118_2 v1 v2 N) (hC : C0 (cf_118_2 v1 v2 N)) : mz_G (d, mz_X0 L xs, some .boolean, [], mk_118, 3, Q) 2 mt_118_2 [(0, .ref 2), (1, .int v1), (2, .int v2)] [] false (mz_k S R N b t) := by
  obtain ⟨n, hn⟩ := hp
  exact g_loop (G := fun s => mz_G (d, mz_X0 L xs, some .boolean, [], mk_118, 3, Q) 2 mt_118_2 [(0, .ref 2), (1, .int v1), (2, .int s)] [] false (mz_k S R N b t)) (C := C0) (fun C2 hc hx s hP hC => cb_118_2 hd hS hR v1 N s hr hc hx hP hC) n (v2) hn hC
theorem cg_118_0 (hd : 0 ≤ d) (hS : mz_extR S 232) (hR : mz_rok R 232)  (v1 : Int32) (N : mz_N) {C0 : (Bool) → Prop} (hr : ∀ (w : Bool), C0 w → Q (.inl (some (.int (mz_b01 w)))) (mz_k S R N b t)) (hp : cp_118_0 v1 N) (hC : C0 (cf_118_0 v1 N)) : mz_G (d, mz_X0 L xs, some .boolean, [], mk_118, 3, Q) 0 mk_118 [(0, .ref 2), (1, .int v1)] [] true (mz_k S R N b t) := by
  unfold cf_118_0 at hC
  unfold cp_118_0 at hp
  refine g_iconst mzi_0 (g_istore_n (Nat.le_of_ble_eq_true rfl) rfl ?_)
  refine g_weak ?_ (g_cl (cg_118_2 hd hS hR v1 0 N hr hp hC))
  exact ⟨rfl, rfl, rfl, trivial⟩
theorem cs_118 (hd : 1 ≤ d) (hS : mz_extR S 232) (hR : mz_rok R 232)  (v1 : Int32) (N : mz_N) (hp : cp_118_0 v1 N) (hq : Q (.inl (some (.int (mz_b01 (cf_118_0 v1 N))))) (mz_k S R N b t)) : mz_Ed (mz_X0 L xs) d 118 [.ref 2, .int v1] (mz_k S R N b t) Q :=
  by
  refine g_in mzq_118 (Nat.le_of_ble_eq_true rfl) (Nat.le_of_ble_eq_true rfl) (Nat.le_trans (Nat.le_of_ble_eq_true rfl) hd) ?_
  refine g_weak ?_ (cg_118_0 (d := d - 1) (by omega) hS hR v1 N (C0 := fun z => Q (.inl (some (.int (mz_b01 z)))) (mz_k S R N b t)) (fun _ h => h) hp hq)
  exact ⟨rfl, rfl, trivial⟩
/-! 119 KeptHouse$Keeper.join (II)V -/
theorem ms_119_0 : mz_sf mk_119 0 = mk_119 := mz_sf_zero _
theorem ms_119_23 : mz_sf mk_119 23 = mt_119_23 := mz_sf_add ms_119_0 (t := 23) rfl rfl
theorem ms_119_52 : mz_sf mk_119 52 = mt_119_52 := mz_sf_add ms_119_23 (t := 29) rfl rfl
set_option maxRecDepth 100000 in
theorem mzq_119 : mz_PG0 119 = some (4, ⟨"KeptHouse$Keeper", "join", "(II)V"⟩, prog_6_method_4_code, 4, none, [], mk_119, []) := rfl
theorem cg_119_52 (hd : 1 ≤ d) (hS : mz_extR S 232) (hR : mz_rok R 232)  (N : mz_N) {C0 : (mz_N) → Prop} (hr : ∀ (N2 : mz_N), C0 N2 → Q (.inl none) (mz_k S R N2 b t)) (hp : cp_119_52 N) (hC : C0 (cf_119_52 N)) : mz_G (d, mz_X0 L xs, none, [], mk_119, 4, Q) 52 mt_119_52 [] [] false (mz_k S R N b t) := by
  unfold cf_119_52 at hC
  unfold cp_119_52 at hp
  exact g_vret rfl (hr _ hC)
theorem cg_119_0 (hd : 1 ≤ d) (hS : mz_extR S 232) (hR : mz_rok R 232)  (v1 : Int32) (v2 : Int32) (N : mz_N) {C0 : (mz_N) → Prop} (hr : ∀ (N2 : mz_N), C0 N2 → Q (.inl none) (mz_k S R N2 b t)) (hp : cp_119_0 v1 v2 N) (hC : C0 (cf_119_0 v1 v2 N)) : mz_G (d, mz_X0 L xs, none, [], mk_119, 4, Q) 0 mk_119 [(0, .ref 1), (1, .int v1), (2, .int v2)] [] true (mz_k S R N b t) := by
  unfold cf_119_0 at hC
  unfold cp_119_0 at hp
  refine g_iload_n rfl (g_iload_n rfl ?_)
  obtain ⟨h1, hp⟩ := hp
  refine g_s2v (Nat.le_of_ble_eq_true rfl) (fun _ hq => cs_98 (Nat.le_trans (Nat.le_of_ble_eq_true rfl) hd) (hS.le (Nat.le_of_ble_eq_true rfl)) (hR.le (Nat.le_of_ble_eq_true rfl))  v1 v2 h1 hq) (g_istore_n (Nat.le_of_ble_eq_true rfl) rfl (g_iload_n rfl (g_iconst mzi_m1 ?_)))
  refine g_iceq (tg := 52) rfl ms_119_52 hC (fun h2 hC => ?_) (fun h2 hC => ?_)
  · have hp := hp.1 h2
    exact g_vret rfl (hr _ hC)
  · have hp := hp.2 h2
    refine g_aload_n rfl (g_getR (mz_at hS (Nat.le_of_ble_eq_true rfl) mzcS_1) mzcf_4_8 (mz_rb hR (Nat.le_of_ble_eq_true rfl) rfl mzcR_1_8) (g_getI (mz_at hS (Nat.le_of_ble_eq_true rfl) mzcS_219) mzcf_8_11 (g_bipush mzb_16 ?_)))
    refine g_icge (tg := 52) rfl ms_119_52 hC (fun h3 hC => ?_) (fun h3 hC => ?_)
    · have hp := hp.1 h3
      refine g_aload_n rfl (g_getR (mz_at hS (Nat.le_of_ble_eq_true rfl) mzcS_1) mzcf_4_8 (mz_rb hR (Nat.le_of_ble_eq_true rfl) rfl mzcR_1_8) (g_getR (mz_at hS (Nat.le_of_ble_eq_true rfl) mzcS_219) mzcf_8_9 (mz_rb hR (Nat.le_of_ble_eq_true rfl) rfl mzcR_219_9) (g_aload_n rfl (g_getR (mz_at hS (Nat.le_of_ble_eq_true rfl) mzcS_1) mzcf_4_8 (mz_rb hR (Nat.le_of_ble_eq_true rfl) rfl mzcR_1_8) (g_getI (mz_at hS (Nat.le_of_ble_eq_true rfl) mzcS_219) mzcf_8_11 (g_iload_n rfl ?_))))))
      obtain ⟨h4, hp⟩ := hp
      refine g_iast (mz_at hS (Nat.le_of_ble_eq_true rfl) mzcS_226) h4 (g_aload_n rfl (g_getR (mz_at hS (Nat.le_of_ble_eq_true rfl) mzcS_1) mzcf_4_8 (mz_rb hR (Nat.le_of_ble_eq_true rfl) rfl mzcR_1_8) (g_dup rfl (g_getI (mz_at hS (Nat.le_of_ble_eq_true rfl) mzcS_219) mzcf_8_11 (g_iconst mzi_1 (g_iadd (g_putI (mz_at hS (Nat.le_of_ble_eq_true rfl) mzcS_219) mzcf_8_11 ?_)))))))
      refine g_weak ?_ (g_cl (cg_119_52 hd hS hR (mz_pI (mz_wI N 226 (N.1 219 11) (cf_98_0 v1 v2)) 219 11 (((mz_wI N 226 (N.1 219 11) (cf_98_0 v1 v2)).1 219 11) + 1)) hr hp hC))
      exact trivial
    · have hp := hp.2 h3
      refine g_weak ?_ (g_cl (cg_119_52 hd hS hR N hr hp hC))
      exact trivial
theorem cs_119 (hd : 2 ≤ d) (hS : mz_extR S 232) (hR : mz_rok R 232)  (v1 : Int32) (v2 : Int32) (N : mz_N) (hp : cp_119_0 v1 v2 N) (hq : Q (.inl none) (mz_k S R (cf_119_0 v1 v2 N) b t)) : mz_Ed (mz_X0 L xs) d 119 [.ref 1, .int v1, .int v2] (mz_k S R N b t) Q :=
  by
  refine g_in mzq_119 (Nat.le_of_ble_eq_true rfl) (Nat.le_of_ble_eq_true rfl) (Nat.le_trans (Nat.le_of_ble_eq_true rfl) hd) ?_
  refine g_weak ?_ (cg_119_0 (d := d - 1) (by omega) hS hR v1 v2 N (C0 := fun z => Q (.inl none) (mz_k S R z b t)) (fun _ h => h) hp hq)
  exact ⟨rfl, rfl, rfl, trivial⟩
/-! 120 KeptHouse$Plan.acceptTrial (I)V -/
theorem ms_120_0 : mz_sf mk_120 0 = mk_120 := mz_sf_zero _
theorem ms_120_31 : mz_sf mk_120 31 = mt_120_31 := mz_sf_add ms_120_0 (t := 31) rfl rfl
set_option maxRecDepth 100000 in
theorem mzq_120 : mz_PG0 120 = some (5, ⟨"KeptHouse$Plan", "acceptTrial", "(I)V"⟩, prog_7_method_22_code, 2, none, [], mk_120, []) := rfl
theorem cg_120_31 (hd : 4 ≤ d) (hS : mz_extR S 232) (hR : mz_rok R 232)  (N : mz_N) {C0 : (mz_N) → Prop} (hr : ∀ (N2 : mz_N), C0 N2 → Q (.inl none) (mz_k S R N2 b t)) (hp : cp_120_31 N) (hC : C0 (cf_120_31 N)) : mz_G (d, mz_X0 L xs, none, [], mk_120, 2, Q) 31 mt_120_31 [(0, .ref 2)] [] false (mz_k S R N b t) := by
  unfold cf_120_31 at hC
  unfold cp_120_31 at hp
  refine g_aload_n rfl ?_
  have h1 := hp
  refine g_v1n (Nat.le_of_ble_eq_true rfl) (mz_at hS (Nat.le_of_ble_eq_true rfl) mzcS_2) (fun _ hq => cs_77 (Nat.le_trans (Nat.le_of_ble_eq_true rfl) hd) (hS.le (Nat.le_of_ble_eq_true rfl)) (hR.le (Nat.le_of_ble_eq_true rfl))  N h1 hq) ?_
  exact g_vret rfl (hr _ hC)
theorem cg_120_0 (hd : 4 ≤ d) (hS : mz_extR S 232) (hR : mz_rok R 232)  (v1 : Int32) (N : mz_N) {C0 : (mz_N) → Prop} (hr : ∀ (N2 : mz_N), C0 N2 → Q (.inl none) (mz_k S R N2 b t)) (hp : cp_120_0 v1 N) (hC : C0 (cf_120_0 v1 N)) : mz_G (d, mz_X0 L xs, none, [], mk_120, 2, Q) 0 mk_120 [(0, .ref 2), (1, .int v1)] [] true (mz_k S R N b t) := by
  unfold cf_120_0 at hC
  unfold cp_120_0 at hp
  refine g_aload_n rfl (g_getR (mz_at hS (Nat.le_of_ble_eq_true rfl) mzcS_2) mzcf_5_4 (mz_rb hR (Nat.le_of_ble_eq_true rfl) rfl mzcR_2_4) (g_iconst mzi_0 (g_aload_n rfl (g_getR (mz_at hS (Nat.le_of_ble_eq_true rfl) mzcS_2) mzcf_5_0 (mz_rb hR (Nat.le_of_ble_eq_true rfl) rfl mzcR_2_0) (g_iconst mzi_0 (g_sipush mzs_550 (g_cpI (Nat.le_of_ble_eq_true rfl) (mz_at hS (Nat.le_of_ble_eq_true rfl) mzcS_12) (mz_at hS (Nat.le_of_ble_eq_true rfl) mzcS_3) (mz_cpd (by decide)) ?_)))))))
  refine g_aload_n rfl (g_iload_n rfl ?_)
  obtain ⟨h1, hp⟩ := hp
  refine g_v2n (Nat.le_of_ble_eq_true rfl) (mz_at hS (Nat.le_of_ble_eq_true rfl) mzcS_2) (fun _ hq => cs_90 (Nat.le_trans (Nat.le_of_ble_eq_true rfl) hd) (hS.le (Nat.le_of_ble_eq_true rfl)) (hR.le (Nat.le_of_ble_eq_true rfl))  v1 (mz_yI N 12 0 3 0 550) h1 hq) (g_aload_n rfl (g_dup rfl (g_getI (mz_at hS (Nat.le_of_ble_eq_true rfl) mzcS_2) mzcf_5_3 (g_iconst mzi_1 (g_iadd (g_putI (mz_at hS (Nat.le_of_ble_eq_true rfl) mzcS_2) mzcf_5_3 ?_))))))
  refine g_weak ?_ (g_cl (cg_120_31 hd hS hR (mz_pI (cf_90_0 v1 (mz_yI N 12 0 3 0 550)) 2 3 (((cf_90_0 v1 (mz_yI N 12 0 3 0 550)).1 2 3) + 1)) hr hp hC))
  exact ⟨rfl, trivial⟩
theorem cs_120 (hd : 5 ≤ d) (hS : mz_extR S 232) (hR : mz_rok R 232)  (v1 : Int32) (N : mz_N) (hp : cp_120_0 v1 N) (hq : Q (.inl none) (mz_k S R (cf_120_0 v1 N) b t)) : mz_Ed (mz_X0 L xs) d 120 [.ref 2, .int v1] (mz_k S R N b t) Q :=
  by
  refine g_in mzq_120 (Nat.le_of_ble_eq_true rfl) (Nat.le_of_ble_eq_true rfl) (Nat.le_trans (Nat.le_of_ble_eq_true rfl) hd) ?_
  refine g_weak ?_ (cg_120_0 (d := d - 1) (by omega) hS hR v1 N (C0 := fun z => Q (.inl none) (mz_k S R z b t)) (fun _ h => h) hp hq)
  exact ⟨rfl, rfl, trivial⟩
/-! 123 KeptHouse$Plan.writeEdges (I[II)V -/
theorem ms_123_0 : mz_sf mk_123 0 = mk_123 := mz_sf_zero _
theorem ms_123_3 : mz_sf mk_123 3 = mt_123_3 := mz_sf_add ms_123_0 (t := 3) rfl rfl
theorem ms_123_40 : mz_sf mk_123 40 = mt_123_40 := mz_sf_add ms_123_3 (t := 37) rfl rfl
theorem ms_123_46 : mz_sf mk_123 46 = mt_123_46 := mz_sf_add ms_123_40 (t := 6) rfl rfl
set_option maxRecDepth 100000 in
theorem mzq_123 : mz_PG0 123 = some (5, ⟨"KeptHouse$Plan", "writeEdges", "(I[II)V"⟩, prog_7_method_37_code, 5, none, [], mk_123, []) := rfl
theorem cg_123_40 (hd : 0 ≤ d) (hS : mz_extR S 232) (hR : mz_rok R 232)  (v1 : Int32) (v3 : Int32) (v4 : Int32) (N : mz_N) {C0 : (mz_N) → Prop} (hr : ∀ (N2 : mz_N), C0 N2 → Q (.inl none) (mz_k S R N2 b t)) {C1 : ((Int32 × mz_N) ⊕ (mz_N)) → Prop} (hc1 : ∀ s2, C1 (.inl s2) → mz_G (d, mz_X0 L xs, none, [], mk_123, 5, Q) 3 mt_123_3 [(0, .ref 2), (1, .int v1), (2, .ref 227), (3, .int v3), (4, .int s2.1)] [] false (mz_k S R s2.2 b t)) (hx1 : ∀ z, C1 (.inr z) → C0 z) (hp : cp_123_40 v1 v3 v4 N) (hC : C1 (cf_123_40 v1 v3 v4 N)) : mz_G (d, mz_X0 L xs, none, [], mk_123, 5, Q) 40 mt_123_40 [(0, .ref 2), (1, .int v1), (2, .ref 227), (3, .int v3), (4, .int v4)] [] false (mz_k S R N b t) := by
  unfold cf_123_40 at hC
  unfold cp_123_40 at hp
  refine g_iinc rfl mzi_1 (Nat.le_of_ble_eq_true rfl) rfl (g_goto (tg := 3) rfl ms_123_3 ?_)
  refine g_weak ?_ (g_cl (hc1 ((v4 + 1), N) hC))
  exact ⟨rfl, rfl, rfl, rfl, rfl, trivial⟩
theorem cb_123_3 (hd : 0 ≤ d) (hS : mz_extR S 232) (hR : mz_rok R 232)  (v1 : Int32) (v3 : Int32) (s : Int32 × mz_N) {C0 : (mz_N) → Prop} (hr : ∀ (N2 : mz_N), C0 N2 → Q (.inl none) (mz_k S R N2 b t)) {C1 : ((Int32 × mz_N) ⊕ (mz_N)) → Prop} (hc1 : ∀ s2, C1 (.inl s2) → mz_G (d, mz_X0 L xs, none, [], mk_123, 5, Q) 3 mt_123_3 [(0, .ref 2), (1, .int v1), (2, .ref 227), (3, .int v3), (4, .int s2.1)] [] false (mz_k S R s2.2 b t)) (hx1 : ∀ z, C1 (.inr z) → C0 z) (hp : cd_123_3 v1 v3 s) (hC : C1 (cq_123_3 v1 v3 s)) : mz_G (d, mz_X0 L xs, none, [], mk_123, 5, Q) 3 mt_123_3 [(0, .ref 2), (1, .int v1), (2, .ref 227), (3, .int v3), (4, .int s.1)] [] false (mz_k S R s.2 b t) := by
  unfold cq_123_3 at hC
  unfold cd_123_3 at hp
  refine g_iload rfl (g_bipush mzb_110 ?_)
  refine g_icge (tg := 46) rfl ms_123_46 hC (fun h1 hC => ?_) (fun h1 hC => ?_)
  · have hp := hp.1 h1
    refine g_aload_n rfl (g_iload_n rfl (g_iload rfl (g_iconst mzi_4 (g_idiv (by decide) (g_iadd (g_dup2 rfl rfl ?_))))))
    obtain ⟨h2, hp⟩ := hp
    refine g_iald hS.1 (mz_at hS (Nat.le_of_ble_eq_true rfl) mzcS_227) h2 (g_aload_n rfl (g_getR (mz_at hS (Nat.le_of_ble_eq_true rfl) mzcS_2) mzcf_5_0 (mz_rb hR (Nat.le_of_ble_eq_true rfl) rfl mzcR_2_0) (g_iload_n rfl (g_bipush mzb_110 (g_imul (g_iload rfl (g_iadd ?_)))))))
    obtain ⟨h3, hp⟩ := hp
    refine g_iald hS.1 (mz_at hS (Nat.le_of_ble_eq_true rfl) mzcS_3) h3 (g_iconst mzi_2 (g_iload rfl (g_iconst mzi_4 (g_irem (by decide) (g_imul (g_ishl (g_ior ?_)))))))
    obtain ⟨h4, hp⟩ := hp
    refine g_iast (mz_at hS (Nat.le_of_ble_eq_true rfl) mzcS_227) h4 ?_
    refine g_weak ?_ (g_cl (cg_123_40 hd hS hR v1 v3 s.1 (mz_wI s.2 227 (v3 + (s.1 / 4)) ((mz_gI s.2 227 (v3 + (s.1 / 4))) ||| (mz_ishl (mz_gI s.2 3 ((v1 * 110) + s.1)) (2 * (mz_irem s.1 4))))) hr hc1 hx1 hp hC))
    exact ⟨rfl, rfl, rfl, rfl, rfl, trivial⟩
  · have hp := hp.2 h1
    exact g_vret rfl (hr _ (hx1 _ hC))
theorem cg_123_3 (hd : 0 ≤ d) (hS : mz_extR S 232) (hR : mz_rok R 232)  (v1 : Int32) (v3 : Int32) (v4 : Int32) (N : mz_N) {C0 : (mz_N) → Prop} (hr : ∀ (N2 : mz_N), C0 N2 → Q (.inl none) (mz_k S R N2 b t)) (hp : cp_123_3 v1 v3 v4 N) (hC : C0 (cf_123_3 v1 v3 v4 N)) : mz_G (d, mz_X0 L xs, none, [], mk_123, 5, Q) 3 mt_123_3 [(0, .ref 2), (1, .int v1), (2, .ref 227), (3, .int v3), (4, .int v4)] [] false (mz_k S R N b t) := by
  obtain ⟨n, hn⟩ := hp
  exact g_loop (G := fun s => mz_G (d, mz_X0 L xs, none, [], mk_123, 5, Q) 3 mt_123_3 [(0, .ref 2), (1, .int v1), (2, .ref 227), (3, .int v3), (4, .int s.1)] [] false (mz_k S R s.2 b t)) (C := C0) (fun C2 hc hx s hP hC => cb_123_3 hd hS hR v1 v3 s hr hc hx hP hC) n (v4, N) hn hC
theorem cg_123_0 (hd : 0 ≤ d) (hS : mz_extR S 232) (hR : mz_rok R 232)  (v1 : Int32) (v3 : Int32) (N : mz_N) {C0 : (mz_N) → Prop} (hr : ∀ (N2 : mz_N), C0 N2 → Q (.inl none) (mz_k S R N2 b t)) (hp : cp_123_0 v1 v3 N) (hC : C0 (cf_123_0 v1 v3 N)) : mz_G (d, mz_X0 L xs, none, [], mk_123, 5, Q) 0 mk_123 [(0, .ref 2), (1, .int v1), (2, .ref 227), (3, .int v3)] [] true (mz_k S R N b t) := by
  unfold cf_123_0 at hC
  unfold cp_123_0 at hp
  refine g_iconst mzi_0 (g_istore (Nat.le_of_ble_eq_true rfl) rfl ?_)
  refine g_weak ?_ (g_cl (cg_123_3 hd hS hR v1 v3 0 N hr hp hC))
  exact ⟨rfl, rfl, rfl, rfl, rfl, trivial⟩
theorem cs_123 (hd : 1 ≤ d) (hS : mz_extR S 232) (hR : mz_rok R 232)  (v1 : Int32) (v3 : Int32) (N : mz_N) (hp : cp_123_0 v1 v3 N) (hq : Q (.inl none) (mz_k S R (cf_123_0 v1 v3 N) b t)) : mz_Ed (mz_X0 L xs) d 123 [.ref 2, .int v1, .ref 227, .int v3] (mz_k S R N b t) Q :=
  by
  refine g_in mzq_123 (Nat.le_of_ble_eq_true rfl) (Nat.le_of_ble_eq_true rfl) (Nat.le_trans (Nat.le_of_ble_eq_true rfl) hd) ?_
  refine g_weak ?_ (cg_123_0 (d := d - 1) (by omega) hS hR v1 v3 N (C0 := fun z => Q (.inl none) (mz_k S R z b t)) (fun _ h => h) hp hq)
  exact ⟨rfl, rfl, rfl, rfl, trivial⟩
/-! 124 KeptHouse$Plan.writeFlats (I[II)V -/
theorem ms_124_0 : mz_sf mk_124 0 = mk_124 := mz_sf_zero _
theorem ms_124_3 : mz_sf mk_124 3 = mt_124_3 := mz_sf_add ms_124_0 (t := 3) rfl rfl
theorem ms_124_40 : mz_sf mk_124 40 = mt_124_40 := mz_sf_add ms_124_3 (t := 37) rfl rfl
theorem ms_124_46 : mz_sf mk_124 46 = mt_124_46 := mz_sf_add ms_124_40 (t := 6) rfl rfl
set_option maxRecDepth 100000 in
theorem mzq_124 : mz_PG0 124 = some (5, ⟨"KeptHouse$Plan", "writeFlats", "(I[II)V"⟩, prog_7_method_40_code, 5, none, [], mk_124, []) := rfl
theorem cg_124_40 (hd : 0 ≤ d) (hS : mz_extR S 232) (hR : mz_rok R 232)  (v1 : Int32) (v3 : Int32) (v4 : Int32) (N : mz_N) {C0 : (mz_N) → Prop} (hr : ∀ (N2 : mz_N), C0 N2 → Q (.inl none) (mz_k S R N2 b t)) {C1 : ((Int32 × mz_N) ⊕ (mz_N)) → Prop} (hc1 : ∀ s2, C1 (.inl s2) → mz_G (d, mz_X0 L xs, none, [], mk_124, 5, Q) 3 mt_124_3 [(0, .ref 2), (1, .int v1), (2, .ref 227), (3, .int v3), (4, .int s2.1)] [] false (mz_k S R s2.2 b t)) (hx1 : ∀ z, C1 (.inr z) → C0 z) (hp : cp_124_40 v1 v3 v4 N) (hC : C1 (cf_124_40 v1 v3 v4 N)) : mz_G (d, mz_X0 L xs, none, [], mk_124, 5, Q) 40 mt_124_40 [(0, .ref 2), (1, .int v1), (2, .ref 227), (3, .int v3), (4, .int v4)] [] false (mz_k S R N b t) := by
  unfold cf_124_40 at hC
  unfold cp_124_40 at hp
  refine g_iinc rfl mzi_1 (Nat.le_of_ble_eq_true rfl) rfl (g_goto (tg := 3) rfl ms_124_3 ?_)
  refine g_weak ?_ (g_cl (hc1 ((v4 + 1), N) hC))
  exact ⟨rfl, rfl, rfl, rfl, rfl, trivial⟩
theorem cb_124_3 (hd : 0 ≤ d) (hS : mz_extR S 232) (hR : mz_rok R 232)  (v1 : Int32) (v3 : Int32) (s : Int32 × mz_N) {C0 : (mz_N) → Prop} (hr : ∀ (N2 : mz_N), C0 N2 → Q (.inl none) (mz_k S R N2 b t)) {C1 : ((Int32 × mz_N) ⊕ (mz_N)) → Prop} (hc1 : ∀ s2, C1 (.inl s2) → mz_G (d, mz_X0 L xs, none, [], mk_124, 5, Q) 3 mt_124_3 [(0, .ref 2), (1, .int v1), (2, .ref 227), (3, .int v3), (4, .int s2.1)] [] false (mz_k S R s2.2 b t)) (hx1 : ∀ z, C1 (.inr z) → C0 z) (hp : cd_124_3 v1 v3 s) (hC : C1 (cq_124_3 v1 v3 s)) : mz_G (d, mz_X0 L xs, none, [], mk_124, 5, Q) 3 mt_124_3 [(0, .ref 2), (1, .int v1), (2, .ref 227), (3, .int v3), (4, .int s.1)] [] false (mz_k S R s.2 b t) := by
  unfold cq_124_3 at hC
  unfold cd_124_3 at hp
  refine g_iload rfl (g_bipush mzb_48 ?_)
  refine g_icge (tg := 46) rfl ms_124_46 hC (fun h1 hC => ?_) (fun h1 hC => ?_)
  · have hp := hp.1 h1
    refine g_aload_n rfl (g_iload_n rfl (g_iload rfl (g_iconst mzi_2 (g_idiv (by decide) (g_iadd (g_dup2 rfl rfl ?_))))))
    obtain ⟨h2, hp⟩ := hp
    refine g_iald hS.1 (mz_at hS (Nat.le_of_ble_eq_true rfl) mzcS_227) h2 (g_aload_n rfl (g_getR (mz_at hS (Nat.le_of_ble_eq_true rfl) mzcS_2) mzcf_5_15 (mz_rb hR (Nat.le_of_ble_eq_true rfl) rfl mzcR_2_15) (g_iload_n rfl (g_bipush mzb_48 (g_imul (g_iload rfl (g_iadd ?_)))))))
    obtain ⟨h3, hp⟩ := hp
    refine g_iald hS.1 (mz_at hS (Nat.le_of_ble_eq_true rfl) mzcS_37) h3 (g_iconst mzi_4 (g_iload rfl (g_iconst mzi_2 (g_irem (by decide) (g_imul (g_ishl (g_ior ?_)))))))
    obtain ⟨h4, hp⟩ := hp
    refine g_iast (mz_at hS (Nat.le_of_ble_eq_true rfl) mzcS_227) h4 ?_
    refine g_weak ?_ (g_cl (cg_124_40 hd hS hR v1 v3 s.1 (mz_wI s.2 227 (v3 + (s.1 / 2)) ((mz_gI s.2 227 (v3 + (s.1 / 2))) ||| (mz_ishl (mz_gI s.2 37 ((v1 * 48) + s.1)) (4 * (mz_irem s.1 2))))) hr hc1 hx1 hp hC))
    exact ⟨rfl, rfl, rfl, rfl, rfl, trivial⟩
  · have hp := hp.2 h1
    exact g_vret rfl (hr _ (hx1 _ hC))
theorem cg_124_3 (hd : 0 ≤ d) (hS : mz_extR S 232) (hR : mz_rok R 232)  (v1 : Int32) (v3 : Int32) (v4 : Int32) (N : mz_N) {C0 : (mz_N) → Prop} (hr : ∀ (N2 : mz_N), C0 N2 → Q (.inl none) (mz_k S R N2 b t)) (hp : cp_124_3 v1 v3 v4 N) (hC : C0 (cf_124_3 v1 v3 v4 N)) : mz_G (d, mz_X0 L xs, none, [], mk_124, 5, Q) 3 mt_124_3 [(0, .ref 2), (1, .int v1), (2, .ref 227), (3, .int v3), (4, .int v4)] [] false (mz_k S R N b t) := by
  obtain ⟨n, hn⟩ := hp
  exact g_loop (G := fun s => mz_G (d, mz_X0 L xs, none, [], mk_124, 5, Q) 3 mt_124_3 [(0, .ref 2), (1, .int v1), (2, .ref 227), (3, .int v3), (4, .int s.1)] [] false (mz_k S R s.2 b t)) (C := C0) (fun C2 hc hx s hP hC => cb_124_3 hd hS hR v1 v3 s hr hc hx hP hC) n (v4, N) hn hC
theorem cg_124_0 (hd : 0 ≤ d) (hS : mz_extR S 232) (hR : mz_rok R 232)  (v1 : Int32) (v3 : Int32) (N : mz_N) {C0 : (mz_N) → Prop} (hr : ∀ (N2 : mz_N), C0 N2 → Q (.inl none) (mz_k S R N2 b t)) (hp : cp_124_0 v1 v3 N) (hC : C0 (cf_124_0 v1 v3 N)) : mz_G (d, mz_X0 L xs, none, [], mk_124, 5, Q) 0 mk_124 [(0, .ref 2), (1, .int v1), (2, .ref 227), (3, .int v3)] [] true (mz_k S R N b t) := by
  unfold cf_124_0 at hC
  unfold cp_124_0 at hp
  refine g_iconst mzi_0 (g_istore (Nat.le_of_ble_eq_true rfl) rfl ?_)
  refine g_weak ?_ (g_cl (cg_124_3 hd hS hR v1 v3 0 N hr hp hC))
  exact ⟨rfl, rfl, rfl, rfl, rfl, trivial⟩
theorem cs_124 (hd : 1 ≤ d) (hS : mz_extR S 232) (hR : mz_rok R 232)  (v1 : Int32) (v3 : Int32) (N : mz_N) (hp : cp_124_0 v1 v3 N) (hq : Q (.inl none) (mz_k S R (cf_124_0 v1 v3 N) b t)) : mz_Ed (mz_X0 L xs) d 124 [.ref 2, .int v1, .ref 227, .int v3] (mz_k S R N b t) Q :=
  by
  refine g_in mzq_124 (Nat.le_of_ble_eq_true rfl) (Nat.le_of_ble_eq_true rfl) (Nat.le_trans (Nat.le_of_ble_eq_true rfl) hd) ?_
  refine g_weak ?_ (cg_124_0 (d := d - 1) (by omega) hS hR v1 v3 N (C0 := fun z => Q (.inl none) (mz_k S R z b t)) (fun _ h => h) hp hq)
  exact ⟨rfl, rfl, rfl, rfl, trivial⟩
/-! 125 KeptHouse$Climate.writeWeather (I[II)V -/
theorem ms_125_0 : mz_sf mk_125 0 = mk_125 := mz_sf_zero _
theorem ms_125_3 : mz_sf mk_125 3 = mt_125_3 := mz_sf_add ms_125_0 (t := 3) rfl rfl
theorem ms_125_34 : mz_sf mk_125 34 = mt_125_34 := mz_sf_add ms_125_3 (t := 31) rfl rfl
theorem ms_125_40 : mz_sf mk_125 40 = mt_125_40 := mz_sf_add ms_125_34 (t := 6) rfl rfl
set_option maxRecDepth 100000 in
theorem mzq_125 : mz_PG0 125 = some (3, ⟨"KeptHouse$Climate", "writeWeather", "(I[II)V"⟩, prog_5_method_29_code, 5, none, [], mk_125, []) := rfl
theorem cg_125_34 (hd : 1 ≤ d) (hS : mz_extR S 232) (hR : mz_rok R 232)  (v1 : Int32) (v3 : Int32) (v4 : Int32) (N : mz_N) {C0 : (mz_N) → Prop} (hr : ∀ (N2 : mz_N), C0 N2 → Q (.inl none) (mz_k S R N2 b t)) {C1 : ((Int32 × mz_N) ⊕ (mz_N)) → Prop} (hc1 : ∀ s2, C1 (.inl s2) → mz_G (d, mz_X0 L xs, none, [], mk_125, 5, Q) 3 mt_125_3 [(0, .ref 65), (1, .int v1), (2, .ref 227), (3, .int v3), (4, .int s2.1)] [] false (mz_k S R s2.2 b t)) (hx1 : ∀ z, C1 (.inr z) → C0 z) (hp : cp_125_34 v1 v3 v4 N) (hC : C1 (cf_125_34 v1 v3 v4 N)) : mz_G (d, mz_X0 L xs, none, [], mk_125, 5, Q) 34 mt_125_34 [(0, .ref 65), (1, .int v1), (2, .ref 227), (3, .int v3), (4, .int v4)] [] false (mz_k S R N b t) := by
  unfold cf_125_34 at hC
  unfold cp_125_34 at hp
  refine g_iinc rfl mzi_1 (Nat.le_of_ble_eq_true rfl) rfl (g_goto (tg := 3) rfl ms_125_3 ?_)
  refine g_weak ?_ (g_cl (hc1 ((v4 + 1), N) hC))
  exact ⟨rfl, rfl, rfl, rfl, rfl, trivial⟩
theorem cb_125_3 (hd : 1 ≤ d) (hS : mz_extR S 232) (hR : mz_rok R 232)  (v1 : Int32) (v3 : Int32) (s : Int32 × mz_N) {C0 : (mz_N) → Prop} (hr : ∀ (N2 : mz_N), C0 N2 → Q (.inl none) (mz_k S R N2 b t)) {C1 : ((Int32 × mz_N) ⊕ (mz_N)) → Prop} (hc1 : ∀ s2, C1 (.inl s2) → mz_G (d, mz_X0 L xs, none, [], mk_125, 5, Q) 3 mt_125_3 [(0, .ref 65), (1, .int v1), (2, .ref 227), (3, .int v3), (4, .int s2.1)] [] false (mz_k S R s2.2 b t)) (hx1 : ∀ z, C1 (.inr z) → C0 z) (hp : cd_125_3 v1 v3 s) (hC : C1 (cq_125_3 v1 v3 s)) : mz_G (d, mz_X0 L xs, none, [], mk_125, 5, Q) 3 mt_125_3 [(0, .ref 65), (1, .int v1), (2, .ref 227), (3, .int v3), (4, .int s.1)] [] false (mz_k S R s.2 b t) := by
  unfold cq_125_3 at hC
  unfold cd_125_3 at hp
  refine g_iload rfl (g_bipush mzb_12 ?_)
  refine g_icge (tg := 40) rfl ms_125_40 hC (fun h1 hC => ?_) (fun h1 hC => ?_)
  · have hp := hp.1 h1
    refine g_aload_n rfl (g_iload_n rfl (g_iconst mzi_2 (g_iload rfl (g_imul (g_iadd (g_iconst mzi_2 (g_aload_n rfl ?_)))))))
    refine g_getR (mz_at hS (Nat.le_of_ble_eq_true rfl) mzcS_65) mzcf_3_0 (mz_rb hR (Nat.le_of_ble_eq_true rfl) rfl mzcR_65_0) (g_bipush mzb_12 (g_iload_n rfl (g_imul (g_iload rfl (g_iadd ?_)))))
    obtain ⟨h2, hp⟩ := hp
    refine g_iald hS.1 (mz_at hS (Nat.le_of_ble_eq_true rfl) mzcS_66) h2 (g_i2l ?_)
    obtain ⟨h3, hp⟩ := hp
    refine g_s4n (Nat.le_of_ble_eq_true rfl) (fun _ hq => cs_14 (Nat.le_trans (Nat.le_of_ble_eq_true rfl) hd) (hS.le (Nat.le_of_ble_eq_true rfl)) (mz_rs_of hR (Nat.le_of_ble_eq_true rfl)) 227 448 (mz_at hS (Nat.le_of_ble_eq_true rfl) mzcS_227) (v3 + (2 * s.1)) 2 ((mz_gI s.2 66 ((12 * v1) + s.1)).toInt64) s.2 h3 hq) ?_
    refine g_weak ?_ (g_cl (cg_125_34 hd hS hR v1 v3 s.1 (cf_14_0 227 448 (v3 + (2 * s.1)) 2 ((mz_gI s.2 66 ((12 * v1) + s.1)).toInt64) s.2) hr hc1 hx1 hp hC))
    exact ⟨rfl, rfl, rfl, rfl, rfl, trivial⟩
  · have hp := hp.2 h1
    exact g_vret rfl (hr _ (hx1 _ hC))
theorem cg_125_3 (hd : 1 ≤ d) (hS : mz_extR S 232) (hR : mz_rok R 232)  (v1 : Int32) (v3 : Int32) (v4 : Int32) (N : mz_N) {C0 : (mz_N) → Prop} (hr : ∀ (N2 : mz_N), C0 N2 → Q (.inl none) (mz_k S R N2 b t)) (hp : cp_125_3 v1 v3 v4 N) (hC : C0 (cf_125_3 v1 v3 v4 N)) : mz_G (d, mz_X0 L xs, none, [], mk_125, 5, Q) 3 mt_125_3 [(0, .ref 65), (1, .int v1), (2, .ref 227), (3, .int v3), (4, .int v4)] [] false (mz_k S R N b t) := by
  obtain ⟨n, hn⟩ := hp
  exact g_loop (G := fun s => mz_G (d, mz_X0 L xs, none, [], mk_125, 5, Q) 3 mt_125_3 [(0, .ref 65), (1, .int v1), (2, .ref 227), (3, .int v3), (4, .int s.1)] [] false (mz_k S R s.2 b t)) (C := C0) (fun C2 hc hx s hP hC => cb_125_3 hd hS hR v1 v3 s hr hc hx hP hC) n (v4, N) hn hC
theorem cg_125_0 (hd : 1 ≤ d) (hS : mz_extR S 232) (hR : mz_rok R 232)  (v1 : Int32) (v3 : Int32) (N : mz_N) {C0 : (mz_N) → Prop} (hr : ∀ (N2 : mz_N), C0 N2 → Q (.inl none) (mz_k S R N2 b t)) (hp : cp_125_0 v1 v3 N) (hC : C0 (cf_125_0 v1 v3 N)) : mz_G (d, mz_X0 L xs, none, [], mk_125, 5, Q) 0 mk_125 [(0, .ref 65), (1, .int v1), (2, .ref 227), (3, .int v3)] [] true (mz_k S R N b t) := by
  unfold cf_125_0 at hC
  unfold cp_125_0 at hp
  refine g_iconst mzi_0 (g_istore (Nat.le_of_ble_eq_true rfl) rfl ?_)
  refine g_weak ?_ (g_cl (cg_125_3 hd hS hR v1 v3 0 N hr hp hC))
  exact ⟨rfl, rfl, rfl, rfl, rfl, trivial⟩
theorem cs_125 (hd : 2 ≤ d) (hS : mz_extR S 232) (hR : mz_rok R 232)  (v1 : Int32) (v3 : Int32) (N : mz_N) (hp : cp_125_0 v1 v3 N) (hq : Q (.inl none) (mz_k S R (cf_125_0 v1 v3 N) b t)) : mz_Ed (mz_X0 L xs) d 125 [.ref 65, .int v1, .ref 227, .int v3] (mz_k S R N b t) Q :=
  by
  refine g_in mzq_125 (Nat.le_of_ble_eq_true rfl) (Nat.le_of_ble_eq_true rfl) (Nat.le_trans (Nat.le_of_ble_eq_true rfl) hd) ?_
  refine g_weak ?_ (cg_125_0 (d := d - 1) (by omega) hS hR v1 v3 N (C0 := fun z => Q (.inl none) (mz_k S R z b t)) (fun _ h => h) hp hq)
  exact ⟨rfl, rfl, rfl, rfl, trivial⟩
/-! 126 KeptHouse$Program.writeText (I[II)V -/
theorem ms_126_0 : mz_sf mk_126 0 = mk_126 := mz_sf_zero _
theorem ms_126_17 : mz_sf mk_126 17 = mt_126_17 := mz_sf_add ms_126_0 (t := 17) rfl rfl
theorem ms_126_20 : mz_sf mk_126 20 = mt_126_20 := mz_sf_add ms_126_17 (t := 3) rfl rfl
theorem ms_126_44 : mz_sf mk_126 44 = mt_126_44 := mz_sf_add ms_126_20 (t := 24) rfl rfl
theorem ms_126_65 : mz_sf mk_126 65 = mt_126_65 := mz_sf_add ms_126_44 (t := 21) rfl rfl
theorem ms_126_71 : mz_sf mk_126 71 = mt_126_71 := mz_sf_add ms_126_65 (t := 6) rfl rfl
set_option maxRecDepth 100000 in
theorem mzq_126 : mz_PG0 126 = some (6, ⟨"KeptHouse$Program", "writeText", "(I[II)V"⟩, prog_8_method_12_code, 5, none, [], mk_126, []) := rfl
theorem cb_126_20 (hd : 0 ≤ d) (hS : mz_extR S 232) (hR : mz_rok R 232)  (v1 : Int32) (v3 : Int32) (b : Bool) (s : Int32 × mz_N) {C0 : (mz_N) → Prop} (hr : ∀ (N2 : mz_N), C0 N2 → Q (.inl none) (mz_k S R N2 b t)) {C1 : ((Int32 × mz_N) ⊕ (mz_N)) → Prop} (hc1 : ∀ s2, C1 (.inl s2) → mz_G (d, mz_X0 L xs, none, [], mk_126, 5, Q) 20 mt_126_20 [(0, .ref 41), (1, .int v1), (2, .ref 227), (3, .int v3), (4, .int s2.1)] [] false (mz_k S R s2.2 b t)) (hx1 : ∀ z, C1 (.inr z) → C0 z) (hp : cd_126_20 v1 v3 b s) (hC : C1 (cq_126_20 v1 v3 b s)) : mz_G (d, mz_X0 L xs, none, [], mk_126, 5, Q) 20 mt_126_20 [(0, .ref 41), (1, .int v1), (2, .ref 227), (3, .int v3), (4, .int s.1)] [] false (mz_k S R s.2 b t) := by
  unfold cq_126_20 at hC
  unfold cd_126_20 at hp
  refine g_iload rfl (g_bipush mzb_28 ?_)
  refine g_icge (tg := 71) rfl ms_126_71 hC (fun h1 hC => ?_) (fun h1 hC => ?_)
  · have hp := hp.1 h1
    refine g_iload_n rfl (g_bipush mzb_28 (g_imul (g_iload rfl (g_iadd (g_aload_n rfl (g_getR (mz_at hS (Nat.le_of_ble_eq_true rfl) mzcS_41) mzcf_6_2 (mz_rb_lv b hR (Nat.le_of_ble_eq_true rfl)) (g_getI (mz_at hS (mz_oL0 (mz_lv_or b) (Nat.le_of_ble_eq_true rfl)) (mz_oA0 (mz_lv_or b))) mzcf_7_1 ?_)))))))
    refine g_icge (tg := 71) rfl ms_126_71 hC (fun h2 hC => ?_) (fun h2 hC => ?_)
    · have hp := hp.1 h2
      refine g_aload_n rfl (g_iload_n rfl (g_iload rfl (g_iadd (g_aload_n rfl (g_getR (mz_at hS (Nat.le_of_ble_eq_true rfl) mzcS_41) mzcf_6_2 (mz_rb_lv b hR (Nat.le_of_ble_eq_true rfl)) (g_getR (mz_at hS (mz_oL0 (mz_lv_or b) (Nat.le_of_ble_eq_true rfl)) (mz_oA0 (mz_lv_or b))) mzcf_7_0 (mz_rb hR (mz_oL0 (mz_lv_or b) (Nat.le_of_ble_eq_true rfl)) (mz_o41 (mz_lv_or b)) (mz_oR1 (mz_lv_or b))) (g_iload_n rfl ?_)))))))
      refine g_bipush mzb_28 (g_imul (g_iload rfl (g_iadd ?_)))
      obtain ⟨h3, hp⟩ := hp
      refine g_iald hS.1 (mz_at hS (mz_oL1 (mz_lv_or b) (Nat.le_of_ble_eq_true rfl)) (mz_oA1 (mz_lv_or b))) h3 ?_
      have h4 := hp
      refine g_iast (mz_at hS (Nat.le_of_ble_eq_true rfl) mzcS_227) h4 (g_iinc rfl mzi_1 (Nat.le_of_ble_eq_true rfl) rfl (g_goto (tg := 20) rfl ms_126_20 ?_))
      refine g_weak ?_ (g_cl (hc1 ((s.1 + 1), mz_wI s.2 227 (v3 + s.1) (mz_gI s.2 ((mz_lv b) + 1) ((v1 * 28) + s.1))) hC))
      exact ⟨rfl, rfl, rfl, rfl, rfl, trivial⟩
    · have hp := hp.2 h2
      exact g_vret rfl (hr _ (hx1 _ hC))
  · have hp := hp.2 h1
    exact g_vret rfl (hr _ (hx1 _ hC))
theorem cg_126_20 (hd : 0 ≤ d) (hS : mz_extR S 232) (hR : mz_rok R 232)  (v1 : Int32) (v3 : Int32) (v4 : Int32) (N : mz_N) (b : Bool) {C0 : (mz_N) → Prop} (hr : ∀ (N2 : mz_N), C0 N2 → Q (.inl none) (mz_k S R N2 b t)) (hp : cp_126_20 v1 v3 v4 N b) (hC : C0 (cf_126_20 v1 v3 v4 N b)) : mz_G (d, mz_X0 L xs, none, [], mk_126, 5, Q) 20 mt_126_20 [(0, .ref 41), (1, .int v1), (2, .ref 227), (3, .int v3), (4, .int v4)] [] false (mz_k S R N b t) := by
  obtain ⟨n, hn⟩ := hp
  exact g_loop (G := fun s => mz_G (d, mz_X0 L xs, none, [], mk_126, 5, Q) 20 mt_126_20 [(0, .ref 41), (1, .int v1), (2, .ref 227), (3, .int v3), (4, .int s.1)] [] false (mz_k S R s.2 b t)) (C := C0) (fun C2 hc hx s hP hC => cb_126_20 hd hS hR v1 v3 b s hr hc hx hP hC) n (v4, N) hn hC
theorem cg_126_0 (hd : 0 ≤ d) (hS : mz_extR S 232) (hR : mz_rok R 232)  (v1 : Int32) (v3 : Int32) (N : mz_N) (b : Bool) {C0 : (mz_N) → Prop} (hr : ∀ (N2 : mz_N), C0 N2 → Q (.inl none) (mz_k S R N2 b t)) (hp : cp_126_0 v1 v3 N b) (hC : C0 (cf_126_0 v1 v3 N b)) : mz_G (d, mz_X0 L xs, none, [], mk_126, 5, Q) 0 mk_126 [(0, .ref 41), (1, .int v1), (2, .ref 227), (3, .int v3)] [] true (mz_k S R N b t) := by
  unfold cf_126_0 at hC
  unfold cp_126_0 at hp
  refine g_iload_n rfl (g_bipush mzb_7 ?_)
  refine g_icne (tg := 17) rfl ms_126_17 hC (fun h1 hC => ?_) (fun h1 hC => ?_)
  · have hp := hp.1 h1
    refine g_aload_n rfl (g_iload_n rfl (g_aload_n rfl (g_getR (mz_at hS (Nat.le_of_ble_eq_true rfl) mzcS_41) mzcf_6_2 (mz_rb_lv b hR (Nat.le_of_ble_eq_true rfl)) (g_getI (mz_at hS (mz_oL0 (mz_lv_or b) (Nat.le_of_ble_eq_true rfl)) (mz_oA0 (mz_lv_or b))) mzcf_7_1 ?_))))
    have h2 := hp
    refine g_iast (mz_at hS (Nat.le_of_ble_eq_true rfl) mzcS_227) h2 ?_
    exact g_vret rfl (hr _ hC)
  · have hp := hp.2 h1
    refine g_iconst mzi_0 (g_istore (Nat.le_of_ble_eq_true rfl) rfl ?_)
    refine g_weak ?_ (g_cl (cg_126_20 hd hS hR v1 v3 0 N b hr hp hC))
    exact ⟨rfl, rfl, rfl, rfl, rfl, trivial⟩
theorem cs_126 (hd : 1 ≤ d) (hS : mz_extR S 232) (hR : mz_rok R 232)  (v1 : Int32) (v3 : Int32) (N : mz_N) (b : Bool) (hp : cp_126_0 v1 v3 N b) (hq : Q (.inl none) (mz_k S R (cf_126_0 v1 v3 N b) b t)) : mz_Ed (mz_X0 L xs) d 126 [.ref 41, .int v1, .ref 227, .int v3] (mz_k S R N b t) Q :=
  by
  refine g_in mzq_126 (Nat.le_of_ble_eq_true rfl) (Nat.le_of_ble_eq_true rfl) (Nat.le_trans (Nat.le_of_ble_eq_true rfl) hd) ?_
  refine g_weak ?_ (cg_126_0 (d := d - 1) (by omega) hS hR v1 v3 N b (C0 := fun z => Q (.inl none) (mz_k S R z b t)) (fun _ h => h) hp hq)
  exact ⟨rfl, rfl, rfl, rfl, trivial⟩
/-! 127 KeptHouse$Supply.writeRatings (I[II)V -/
theorem ms_127_0 : mz_sf mk_127 0 = mk_127 := mz_sf_zero _
theorem ms_127_3 : mz_sf mk_127 3 = mt_127_3 := mz_sf_add ms_127_0 (t := 3) rfl rfl
theorem ms_127_35 : mz_sf mk_127 35 = mt_127_35 := mz_sf_add ms_127_3 (t := 32) rfl rfl
theorem ms_127_38 : mz_sf mk_127 38 = mt_127_38 := mz_sf_add ms_127_35 (t := 3) rfl rfl
theorem ms_127_53 : mz_sf mk_127 53 = mt_127_53 := mz_sf_add ms_127_38 (t := 15) rfl rfl
theorem ms_127_59 : mz_sf mk_127 59 = mt_127_59 := mz_sf_add ms_127_53 (t := 6) rfl rfl
set_option maxRecDepth 100000 in
theorem mzq_127 : mz_PG0 127 = some (9, ⟨"KeptHouse$Supply", "writeRatings", "(I[II)V"⟩, prog_11_method_15_code, 5, none, [], mk_127, []) := rfl
theorem cg_127_53 (hd : 1 ≤ d) (hS : mz_extR S 232) (hR : mz_rok R 232)  (v1 : Int32) (v3 : Int32) (v4 : Int32) (N : mz_N) {C0 : (mz_N) → Prop} (hr : ∀ (N2 : mz_N), C0 N2 → Q (.inl none) (mz_k S R N2 b t)) {C1 : ((Int32 × mz_N) ⊕ (mz_N)) → Prop} (hc1 : ∀ s2, C1 (.inl s2) → mz_G (d, mz_X0 L xs, none, [], mk_127, 5, Q) 3 mt_127_3 [(0, .ref 56), (1, .int v1), (2, .ref 227), (3, .int v3), (4, .int s2.1)] [] false (mz_k S R s2.2 b t)) (hx1 : ∀ z, C1 (.inr z) → C0 z) (hp : cp_127_53 v1 v3 v4 N) (hC : C1 (cf_127_53 v1 v3 v4 N)) : mz_G (d, mz_X0 L xs, none, [], mk_127, 5, Q) 53 mt_127_53 [(0, .ref 56), (1, .int v1), (2, .ref 227), (3, .int v3), (4, .int v4)] [] false (mz_k S R N b t) := by
  unfold cf_127_53 at hC
  unfold cp_127_53 at hp
  refine g_iinc rfl mzi_1 (Nat.le_of_ble_eq_true rfl) rfl (g_goto (tg := 3) rfl ms_127_3 ?_)
  refine g_weak ?_ (g_cl (hc1 ((v4 + 1), N) hC))
  exact ⟨rfl, rfl, rfl, rfl, rfl, trivial⟩
theorem cb_127_3 (hd : 1 ≤ d) (hS : mz_extR S 232) (hR : mz_rok R 232)  (v1 : Int32) (v3 : Int32) (s : Int32 × mz_N) {C0 : (mz_N) → Prop} (hr : ∀ (N2 : mz_N), C0 N2 → Q (.inl none) (mz_k S R N2 b t)) {C1 : ((Int32 × mz_N) ⊕ (mz_N)) → Prop} (hc1 : ∀ s2, C1 (.inl s2) → mz_G (d, mz_X0 L xs, none, [], mk_127, 5, Q) 3 mt_127_3 [(0, .ref 56), (1, .int v1), (2, .ref 227), (3, .int v3), (4, .int s2.1)] [] false (mz_k S R s2.2 b t)) (hx1 : ∀ z, C1 (.inr z) → C0 z) (hp : cd_127_3 v1 v3 s) (hC : C1 (cq_127_3 v1 v3 s)) : mz_G (d, mz_X0 L xs, none, [], mk_127, 5, Q) 3 mt_127_3 [(0, .ref 56), (1, .int v1), (2, .ref 227), (3, .int v3), (4, .int s.1)] [] false (mz_k S R s.2 b t) := by
  unfold cq_127_3 at hC
  unfold cd_127_3 at hp
  refine g_iload rfl (g_bipush mzb_11 ?_)
  refine g_icge (tg := 59) rfl ms_127_59 hC (fun h1 hC => ?_) (fun h1 hC => ?_)
  · have hp := hp.1 h1
    refine g_iload_n rfl ?_
    refine g_ifne (tg := 38) rfl ms_127_38 hC (fun h2 hC => ?_) (fun h2 hC => ?_)
    · have hp := hp.1 h2
      refine g_aload_n rfl (g_iload_n rfl (g_iconst mzi_2 (g_iload rfl (g_imul (g_iadd (g_iconst mzi_2 (g_aload_n rfl ?_)))))))
      refine g_getR (mz_at hS (Nat.le_of_ble_eq_true rfl) mzcS_56) mzcf_9_0 (mz_rb hR (Nat.le_of_ble_eq_true rfl) rfl mzcR_56_0) (g_iconst mzi_4 (g_aald4 (m := 62) (mz_at hS (Nat.le_of_ble_eq_true rfl) mzcS_57) (mz_ibd (by decide)) (mz_rb hR (Nat.le_of_ble_eq_true rfl) rfl mzcRr_57_4) (g_iload rfl ?_)))
      obtain ⟨h3, hp⟩ := hp
      refine g_iald hS.1 (mz_at hS (Nat.le_of_ble_eq_true rfl) mzcS_62) h3 (g_i2l ?_)
      obtain ⟨h4, hp⟩ := hp
      refine g_s4n (Nat.le_of_ble_eq_true rfl) (fun _ hq => cs_14 (Nat.le_trans (Nat.le_of_ble_eq_true rfl) hd) (hS.le (Nat.le_of_ble_eq_true rfl)) (mz_rs_of hR (Nat.le_of_ble_eq_true rfl)) 227 448 (mz_at hS (Nat.le_of_ble_eq_true rfl) mzcS_227) (v3 + (2 * s.1)) 2 ((mz_gI s.2 62 s.1).toInt64) s.2 h4 hq) (g_goto (tg := 53) rfl ms_127_53 ?_)
      refine g_weak ?_ (g_cl (cg_127_53 hd hS hR v1 v3 s.1 (cf_14_0 227 448 (v3 + (2 * s.1)) 2 ((mz_gI s.2 62 s.1).toInt64) s.2) hr hc1 hx1 hp hC))
      exact ⟨rfl, rfl, rfl, rfl, rfl, trivial⟩
    · have hp := hp.2 h2
      refine g_aload_n rfl (g_iload_n rfl (g_iload rfl (g_iadd (g_aload_n rfl (g_getR (mz_at hS (Nat.le_of_ble_eq_true rfl) mzcS_56) mzcf_9_0 (mz_rb hR (Nat.le_of_ble_eq_true rfl) rfl mzcR_56_0) (g_iconst mzi_5 (g_aald4 (m := 63) (mz_at hS (Nat.le_of_ble_eq_true rfl) mzcS_57) (mz_ibd (by decide)) (mz_rb hR (Nat.le_of_ble_eq_true rfl) rfl mzcRr_57_5) ?_)))))))
      refine g_iload rfl ?_
      obtain ⟨h5, hp⟩ := hp
      refine g_iald hS.1 (mz_at hS (Nat.le_of_ble_eq_true rfl) mzcS_63) h5 ?_
      obtain ⟨h6, hp⟩ := hp
      refine g_iast (mz_at hS (Nat.le_of_ble_eq_true rfl) mzcS_227) h6 ?_
      refine g_weak ?_ (g_cl (cg_127_53 hd hS hR v1 v3 s.1 (mz_wI s.2 227 (v3 + s.1) (mz_gI s.2 63 s.1)) hr hc1 hx1 hp hC))
      exact ⟨rfl, rfl, rfl, rfl, rfl, trivial⟩
  · have hp := hp.2 h1
    exact g_vret rfl (hr _ (hx1 _ hC))
theorem cg_127_3 (hd : 1 ≤ d) (hS : mz_extR S 232) (hR : mz_rok R 232)  (v1 : Int32) (v3 : Int32) (v4 : Int32) (N : mz_N) {C0 : (mz_N) → Prop} (hr : ∀ (N2 : mz_N), C0 N2 → Q (.inl none) (mz_k S R N2 b t)) (hp : cp_127_3 v1 v3 v4 N) (hC : C0 (cf_127_3 v1 v3 v4 N)) : mz_G (d, mz_X0 L xs, none, [], mk_127, 5, Q) 3 mt_127_3 [(0, .ref 56), (1, .int v1), (2, .ref 227), (3, .int v3), (4, .int v4)] [] false (mz_k S R N b t) := by
  obtain ⟨n, hn⟩ := hp
  exact g_loop (G := fun s => mz_G (d, mz_X0 L xs, none, [], mk_127, 5, Q) 3 mt_127_3 [(0, .ref 56), (1, .int v1), (2, .ref 227), (3, .int v3), (4, .int s.1)] [] false (mz_k S R s.2 b t)) (C := C0) (fun C2 hc hx s hP hC => cb_127_3 hd hS hR v1 v3 s hr hc hx hP hC) n (v4, N) hn hC
theorem cg_127_0 (hd : 1 ≤ d) (hS : mz_extR S 232) (hR : mz_rok R 232)  (v1 : Int32) (v3 : Int32) (N : mz_N) {C0 : (mz_N) → Prop} (hr : ∀ (N2 : mz_N), C0 N2 → Q (.inl none) (mz_k S R N2 b t)) (hp : cp_127_0 v1 v3 N) (hC : C0 (cf_127_0 v1 v3 N)) : mz_G (d, mz_X0 L xs, none, [], mk_127, 5, Q) 0 mk_127 [(0, .ref 56), (1, .int v1), (2, .ref 227), (3, .int v3)] [] true (mz_k S R N b t) := by
  unfold cf_127_0 at hC
  unfold cp_127_0 at hp
  refine g_iconst mzi_0 (g_istore (Nat.le_of_ble_eq_true rfl) rfl ?_)
  refine g_weak ?_ (g_cl (cg_127_3 hd hS hR v1 v3 0 N hr hp hC))
  exact ⟨rfl, rfl, rfl, rfl, rfl, trivial⟩
theorem cs_127 (hd : 2 ≤ d) (hS : mz_extR S 232) (hR : mz_rok R 232)  (v1 : Int32) (v3 : Int32) (N : mz_N) (hp : cp_127_0 v1 v3 N) (hq : Q (.inl none) (mz_k S R (cf_127_0 v1 v3 N) b t)) : mz_Ed (mz_X0 L xs) d 127 [.ref 56, .int v1, .ref 227, .int v3] (mz_k S R N b t) Q :=
  by
  refine g_in mzq_127 (Nat.le_of_ble_eq_true rfl) (Nat.le_of_ble_eq_true rfl) (Nat.le_trans (Nat.le_of_ble_eq_true rfl) hd) ?_
  refine g_weak ?_ (cg_127_0 (d := d - 1) (by omega) hS hR v1 v3 N (C0 := fun z => Q (.inl none) (mz_k S R z b t)) (fun _ h => h) hp hq)
  exact ⟨rfl, rfl, rfl, rfl, trivial⟩
/-! 128 KeptHouse$Books.writeFlat (I[II)V -/
theorem ms_128_0 : mz_sf mk_128 0 = mk_128 := mz_sf_zero _
theorem ms_128_29 : mz_sf mk_128 29 = mt_128_29 := mz_sf_add ms_128_0 (t := 29) rfl rfl
theorem ms_128_47 : mz_sf mk_128 47 = mt_128_47 := mz_sf_add ms_128_29 (t := 18) rfl rfl
theorem ms_128_65 : mz_sf mk_128 65 = mt_128_65 := mz_sf_add ms_128_47 (t := 18) rfl rfl
theorem ms_128_83 : mz_sf mk_128 83 = mt_128_83 := mz_sf_add ms_128_65 (t := 18) rfl rfl
set_option maxRecDepth 100000 in
theorem mzq_128 : mz_PG0 128 = some (1, ⟨"KeptHouse$Books", "writeFlat", "(I[II)V"⟩, prog_3_method_13_code, 4, none, [], mk_128, []) := rfl
theorem cg_128_65 (hd : 1 ≤ d) (hS : mz_extR S 232) (hR : mz_rok R 232)  (v1 : Int32) (v3 : Int32) (N : mz_N) {C0 : (mz_N) → Prop} (hr : ∀ (N2 : mz_N), C0 N2 → Q (.inl none) (mz_k S R N2 b t)) (hp : cp_128_65 v1 v3 N) (hC : C0 (cf_128_65 v1 v3 N)) : mz_G (d, mz_X0 L xs, none, [], mk_128, 4, Q) 65 mt_128_65 [(0, .ref 208), (1, .int v1), (2, .ref 227), (3, .int v3)] [] false (mz_k S R N b t) := by
  unfold cf_128_65 at hC
  unfold cp_128_65 at hp
  refine g_aload_n rfl (g_iload_n rfl (g_bipush mzb_24 (g_iadd (g_iconst mzi_4 (g_aload_n rfl (g_getR (mz_at hS (Nat.le_of_ble_eq_true rfl) mzcS_208) mzcf_1_5 (mz_rb hR (Nat.le_of_ble_eq_true rfl) rfl mzcR_208_5) (g_iconst mzi_2 ?_)))))))
  refine g_aald4 (m := 212) (mz_at hS (Nat.le_of_ble_eq_true rfl) mzcS_209) (mz_ibd (by decide)) (mz_rb hR (Nat.le_of_ble_eq_true rfl) rfl mzcRr_209_2) (g_iload_n rfl ?_)
  obtain ⟨h1, hp⟩ := hp
  refine g_iald hS.1 (mz_at hS (Nat.le_of_ble_eq_true rfl) mzcS_212) h1 (g_i2l ?_)
  have h2 := hp
  refine g_s4n (Nat.le_of_ble_eq_true rfl) (fun _ hq => cs_14 (Nat.le_trans (Nat.le_of_ble_eq_true rfl) hd) (hS.le (Nat.le_of_ble_eq_true rfl)) (mz_rs_of hR (Nat.le_of_ble_eq_true rfl)) 227 448 (mz_at hS (Nat.le_of_ble_eq_true rfl) mzcS_227) (v3 + 24) 4 ((mz_gI N 212 v1).toInt64) N h2 hq) ?_
  exact g_vret rfl (hr _ hC)
theorem cg_128_29 (hd : 1 ≤ d) (hS : mz_extR S 232) (hR : mz_rok R 232)  (v1 : Int32) (v3 : Int32) (N : mz_N) {C0 : (mz_N) → Prop} (hr : ∀ (N2 : mz_N), C0 N2 → Q (.inl none) (mz_k S R N2 b t)) (hp : cp_128_29 v1 v3 N) (hC : C0 (cf_128_29 v1 v3 N)) : mz_G (d, mz_X0 L xs, none, [], mk_128, 4, Q) 29 mt_128_29 [(0, .ref 208), (1, .int v1), (2, .ref 227), (3, .int v3)] [] false (mz_k S R N b t) := by
  unfold cf_128_29 at hC
  unfold cp_128_29 at hp
  refine g_aload_n rfl (g_iload_n rfl (g_bipush mzb_16 (g_iadd (g_iconst mzi_4 (g_aload_n rfl (g_getR (mz_at hS (Nat.le_of_ble_eq_true rfl) mzcS_208) mzcf_1_5 (mz_rb hR (Nat.le_of_ble_eq_true rfl) rfl mzcR_208_5) (g_iconst mzi_0 ?_)))))))
  refine g_aald4 (m := 210) (mz_at hS (Nat.le_of_ble_eq_true rfl) mzcS_209) (mz_ibd (by decide)) (mz_rb hR (Nat.le_of_ble_eq_true rfl) rfl mzcRr_209_0) (g_iload_n rfl ?_)
  obtain ⟨h1, hp⟩ := hp
  refine g_iald hS.1 (mz_at hS (Nat.le_of_ble_eq_true rfl) mzcS_210) h1 (g_i2l ?_)
  obtain ⟨h2, hp⟩ := hp
  refine g_s4n (Nat.le_of_ble_eq_true rfl) (fun _ hq => cs_14 (Nat.le_trans (Nat.le_of_ble_eq_true rfl) hd) (hS.le (Nat.le_of_ble_eq_true rfl)) (mz_rs_of hR (Nat.le_of_ble_eq_true rfl)) 227 448 (mz_at hS (Nat.le_of_ble_eq_true rfl) mzcS_227) (v3 + 16) 4 ((mz_gI N 210 v1).toInt64) N h2 hq) (g_aload_n rfl (g_iload_n rfl (g_bipush mzb_20 (g_iadd (g_iconst mzi_4 (g_aload_n rfl (g_getR (mz_at hS (Nat.le_of_ble_eq_true rfl) mzcS_208) mzcf_1_5 (mz_rb hR (Nat.le_of_ble_eq_true rfl) rfl mzcR_208_5) ?_)))))))
  refine g_iconst mzi_1 (g_aald4 (m := 211) (mz_at hS (Nat.le_of_ble_eq_true rfl) mzcS_209) (mz_ibd (by decide)) (mz_rb hR (Nat.le_of_ble_eq_true rfl) rfl mzcRr_209_1) (g_iload_n rfl ?_))
  obtain ⟨h3, hp⟩ := hp
  refine g_iald hS.1 (mz_at hS (Nat.le_of_ble_eq_true rfl) mzcS_211) h3 (g_i2l ?_)
  obtain ⟨h4, hp⟩ := hp
  refine g_s4n (Nat.le_of_ble_eq_true rfl) (fun _ hq => cs_14 (Nat.le_trans (Nat.le_of_ble_eq_true rfl) hd) (hS.le (Nat.le_of_ble_eq_true rfl)) (mz_rs_of hR (Nat.le_of_ble_eq_true rfl)) 227 448 (mz_at hS (Nat.le_of_ble_eq_true rfl) mzcS_227) (v3 + 20) 4 ((mz_gI (cf_14_0 227 448 (v3 + 16) 4 ((mz_gI N 210 v1).toInt64) N) 211 v1).toInt64) (cf_14_0 227 448 (v3 + 16) 4 ((mz_gI N 210 v1).toInt64) N) h4 hq) ?_
  refine g_weak ?_ (g_cl (cg_128_65 hd hS hR v1 v3 (cf_14_0 227 448 (v3 + 20) 4 ((mz_gI (cf_14_0 227 448 (v3 + 16) 4 ((mz_gI N 210 v1).toInt64) N) 211 v1).toInt64) (cf_14_0 227 448 (v3 + 16) 4 ((mz_gI N 210 v1).toInt64) N)) hr hp hC))
  exact ⟨rfl, rfl, rfl, rfl, trivial⟩
theorem cg_128_0 (hd : 1 ≤ d) (hS : mz_extR S 232) (hR : mz_rok R 232)  (v1 : Int32) (v3 : Int32) (N : mz_N) {C0 : (mz_N) → Prop} (hr : ∀ (N2 : mz_N), C0 N2 → Q (.inl none) (mz_k S R N2 b t)) (hp : cp_128_0 v1 v3 N) (hC : C0 (cf_128_0 v1 v3 N)) : mz_G (d, mz_X0 L xs, none, [], mk_128, 4, Q) 0 mk_128 [(0, .ref 208), (1, .int v1), (2, .ref 227), (3, .int v3)] [] true (mz_k S R N b t) := by
  unfold cf_128_0 at hC
  unfold cp_128_0 at hp
  refine g_aload_n rfl (g_iload_n rfl (g_bipush mzb_8 (g_aload_n rfl (g_getR (mz_at hS (Nat.le_of_ble_eq_true rfl) mzcS_208) mzcf_1_6 (mz_rb hR (Nat.le_of_ble_eq_true rfl) rfl mzcR_208_6) (g_iload_n rfl ?_)))))
  obtain ⟨h1, hp⟩ := hp
  refine g_lald (mz_at hS (Nat.le_of_ble_eq_true rfl) mzcS_213) h1 ?_
  obtain ⟨h2, hp⟩ := hp
  refine g_s4n (Nat.le_of_ble_eq_true rfl) (fun _ hq => cs_14 (Nat.le_trans (Nat.le_of_ble_eq_true rfl) hd) (hS.le (Nat.le_of_ble_eq_true rfl)) (mz_rs_of hR (Nat.le_of_ble_eq_true rfl)) 227 448 (mz_at hS (Nat.le_of_ble_eq_true rfl) mzcS_227) v3 8 (mz_gL N 213 v1) N h2 hq) (g_aload_n rfl (g_iload_n rfl (g_bipush mzb_8 (g_iadd (g_bipush mzb_8 (g_aload_n rfl (g_getR (mz_at hS (Nat.le_of_ble_eq_true rfl) mzcS_208) mzcf_1_7 (mz_rb hR (Nat.le_of_ble_eq_true rfl) rfl mzcR_208_7) ?_)))))))
  refine g_iload_n rfl ?_
  obtain ⟨h3, hp⟩ := hp
  refine g_lald (mz_at hS (Nat.le_of_ble_eq_true rfl) mzcS_214) h3 ?_
  obtain ⟨h4, hp⟩ := hp
  refine g_s4n (Nat.le_of_ble_eq_true rfl) (fun _ hq => cs_14 (Nat.le_trans (Nat.le_of_ble_eq_true rfl) hd) (hS.le (Nat.le_of_ble_eq_true rfl)) (mz_rs_of hR (Nat.le_of_ble_eq_true rfl)) 227 448 (mz_at hS (Nat.le_of_ble_eq_true rfl) mzcS_227) (v3 + 8) 8 (mz_gL (cf_14_0 227 448 v3 8 (mz_gL N 213 v1) N) 214 v1) (cf_14_0 227 448 v3 8 (mz_gL N 213 v1) N) h4 hq) ?_
  refine g_weak ?_ (g_cl (cg_128_29 hd hS hR v1 v3 (cf_14_0 227 448 (v3 + 8) 8 (mz_gL (cf_14_0 227 448 v3 8 (mz_gL N 213 v1) N) 214 v1) (cf_14_0 227 448 v3 8 (mz_gL N 213 v1) N)) hr hp hC))
  exact ⟨rfl, rfl, rfl, rfl, trivial⟩
theorem cs_128 (hd : 2 ≤ d) (hS : mz_extR S 232) (hR : mz_rok R 232)  (v1 : Int32) (v3 : Int32) (N : mz_N) (hp : cp_128_0 v1 v3 N) (hq : Q (.inl none) (mz_k S R (cf_128_0 v1 v3 N) b t)) : mz_Ed (mz_X0 L xs) d 128 [.ref 208, .int v1, .ref 227, .int v3] (mz_k S R N b t) Q :=
  by
  refine g_in mzq_128 (Nat.le_of_ble_eq_true rfl) (Nat.le_of_ble_eq_true rfl) (Nat.le_trans (Nat.le_of_ble_eq_true rfl) hd) ?_
  refine g_weak ?_ (cg_128_0 (d := d - 1) (by omega) hS hR v1 v3 N (C0 := fun z => Q (.inl none) (mz_k S R z b t)) (fun _ h => h) hp hq)
  exact ⟨rfl, rfl, rfl, rfl, trivial⟩
/-! 129 KeptHouse$Books.writeCash ([II)V -/
theorem ms_129_0 : mz_sf mk_129 0 = mk_129 := mz_sf_zero _
theorem ms_129_24 : mz_sf mk_129 24 = mt_129_24 := mz_sf_add ms_129_0 (t := 24) rfl rfl
theorem ms_129_52 : mz_sf mk_129 52 = mt_129_52 := mz_sf_add ms_129_24 (t := 28) rfl rfl
set_option maxRecDepth 100000 in
theorem mzq_129 : mz_PG0 129 = some (1, ⟨"KeptHouse$Books", "writeCash", "([II)V"⟩, prog_3_method_18_code, 3, none, [], mk_129, []) := rfl
theorem cg_129_52 (hd : 1 ≤ d) (hS : mz_extR S 232) (hR : mz_rok R 232)  (v2 : Int32) (N : mz_N) {C0 : (mz_N) → Prop} (hr : ∀ (N2 : mz_N), C0 N2 → Q (.inl none) (mz_k S R N2 b t)) (hp : cp_129_52 v2 N) (hC : C0 (cf_129_52 v2 N)) : mz_G (d, mz_X0 L xs, none, [], mk_129, 3, Q) 52 mt_129_52 [(0, .ref 208), (1, .ref 227), (2, .int v2)] [] false (mz_k S R N b t) := by
  unfold cf_129_52 at hC
  unfold cp_129_52 at hp
  refine g_aload_n rfl (g_iload_n rfl (g_bipush mzb_24 (g_iadd (g_iconst mzi_4 (g_aload_n rfl (g_getI (mz_at hS (Nat.le_of_ble_eq_true rfl) mzcS_208) mzcf_1_4 (g_i2l ?_)))))))
  have h1 := hp
  refine g_s4n (Nat.le_of_ble_eq_true rfl) (fun _ hq => cs_14 (Nat.le_trans (Nat.le_of_ble_eq_true rfl) hd) (hS.le (Nat.le_of_ble_eq_true rfl)) (mz_rs_of hR (Nat.le_of_ble_eq_true rfl)) 227 448 (mz_at hS (Nat.le_of_ble_eq_true rfl) mzcS_227) (v2 + 24) 4 ((N.1 208 4).toInt64) N h1 hq) ?_
  exact g_vret rfl (hr _ hC)
theorem cg_129_24 (hd : 1 ≤ d) (hS : mz_extR S 232) (hR : mz_rok R 232)  (v2 : Int32) (N : mz_N) {C0 : (mz_N) → Prop} (hr : ∀ (N2 : mz_N), C0 N2 → Q (.inl none) (mz_k S R N2 b t)) (hp : cp_129_24 v2 N) (hC : C0 (cf_129_24 v2 N)) : mz_G (d, mz_X0 L xs, none, [], mk_129, 3, Q) 24 mt_129_24 [(0, .ref 208), (1, .ref 227), (2, .int v2)] [] false (mz_k S R N b t) := by
  unfold cf_129_24 at hC
  unfold cp_129_24 at hp
  refine g_aload_n rfl (g_iload_n rfl (g_bipush mzb_12 (g_iadd (g_bipush mzb_8 (g_aload_n rfl (g_getL (mz_at hS (Nat.le_of_ble_eq_true rfl) mzcS_208) mzcf_1_2 ?_))))))
  obtain ⟨h1, hp⟩ := hp
  refine g_s4n (Nat.le_of_ble_eq_true rfl) (fun _ hq => cs_14 (Nat.le_trans (Nat.le_of_ble_eq_true rfl) hd) (hS.le (Nat.le_of_ble_eq_true rfl)) (mz_rs_of hR (Nat.le_of_ble_eq_true rfl)) 227 448 (mz_at hS (Nat.le_of_ble_eq_true rfl) mzcS_227) (v2 + 12) 8 (N.2 208 2) N h1 hq) (g_aload_n rfl (g_iload_n rfl (g_bipush mzb_20 (g_iadd (g_iconst mzi_4 (g_aload_n rfl (g_getI (mz_at hS (Nat.le_of_ble_eq_true rfl) mzcS_208) mzcf_1_3 ?_)))))))
  refine g_i2l ?_
  obtain ⟨h2, hp⟩ := hp
  refine g_s4n (Nat.le_of_ble_eq_true rfl) (fun _ hq => cs_14 (Nat.le_trans (Nat.le_of_ble_eq_true rfl) hd) (hS.le (Nat.le_of_ble_eq_true rfl)) (mz_rs_of hR (Nat.le_of_ble_eq_true rfl)) 227 448 (mz_at hS (Nat.le_of_ble_eq_true rfl) mzcS_227) (v2 + 20) 4 (((cf_14_0 227 448 (v2 + 12) 8 (N.2 208 2) N).1 208 3).toInt64) (cf_14_0 227 448 (v2 + 12) 8 (N.2 208 2) N) h2 hq) ?_
  refine g_weak ?_ (g_cl (cg_129_52 hd hS hR v2 (cf_14_0 227 448 (v2 + 20) 4 (((cf_14_0 227 448 (v2 + 12) 8 (N.2 208 2) N).1 208 3).toInt64) (cf_14_0 227 448 (v2 + 12) 8 (N.2 208 2) N)) hr hp hC))
  exact ⟨rfl, rfl, rfl, trivial⟩
theorem cg_129_0 (hd : 1 ≤ d) (hS : mz_extR S 232) (hR : mz_rok R 232)  (v2 : Int32) (N : mz_N) {C0 : (mz_N) → Prop} (hr : ∀ (N2 : mz_N), C0 N2 → Q (.inl none) (mz_k S R N2 b t)) (hp : cp_129_0 v2 N) (hC : C0 (cf_129_0 v2 N)) : mz_G (d, mz_X0 L xs, none, [], mk_129, 3, Q) 0 mk_129 [(0, .ref 208), (1, .ref 227), (2, .int v2)] [] true (mz_k S R N b t) := by
  unfold cf_129_0 at hC
  unfold cp_129_0 at hp
  refine g_aload_n rfl (g_iload_n rfl (g_iconst mzi_4 (g_aload_n rfl (g_getI (mz_at hS (Nat.le_of_ble_eq_true rfl) mzcS_208) mzcf_1_0 (g_i2l ?_)))))
  obtain ⟨h1, hp⟩ := hp
  refine g_s4n (Nat.le_of_ble_eq_true rfl) (fun _ hq => cs_14 (Nat.le_trans (Nat.le_of_ble_eq_true rfl) hd) (hS.le (Nat.le_of_ble_eq_true rfl)) (mz_rs_of hR (Nat.le_of_ble_eq_true rfl)) 227 448 (mz_at hS (Nat.le_of_ble_eq_true rfl) mzcS_227) v2 4 ((N.1 208 0).toInt64) N h1 hq) (g_aload_n rfl (g_iload_n rfl (g_iconst mzi_4 (g_iadd (g_bipush mzb_8 (g_aload_n rfl (g_getL (mz_at hS (Nat.le_of_ble_eq_true rfl) mzcS_208) mzcf_1_1 ?_)))))))
  obtain ⟨h2, hp⟩ := hp
  refine g_s4n (Nat.le_of_ble_eq_true rfl) (fun _ hq => cs_14 (Nat.le_trans (Nat.le_of_ble_eq_true rfl) hd) (hS.le (Nat.le_of_ble_eq_true rfl)) (mz_rs_of hR (Nat.le_of_ble_eq_true rfl)) 227 448 (mz_at hS (Nat.le_of_ble_eq_true rfl) mzcS_227) (v2 + 4) 8 ((cf_14_0 227 448 v2 4 ((N.1 208 0).toInt64) N).2 208 1) (cf_14_0 227 448 v2 4 ((N.1 208 0).toInt64) N) h2 hq) ?_
  refine g_weak ?_ (g_cl (cg_129_24 hd hS hR v2 (cf_14_0 227 448 (v2 + 4) 8 ((cf_14_0 227 448 v2 4 ((N.1 208 0).toInt64) N).2 208 1) (cf_14_0 227 448 v2 4 ((N.1 208 0).toInt64) N)) hr hp hC))
  exact ⟨rfl, rfl, rfl, trivial⟩
theorem cs_129 (hd : 2 ≤ d) (hS : mz_extR S 232) (hR : mz_rok R 232)  (v2 : Int32) (N : mz_N) (hp : cp_129_0 v2 N) (hq : Q (.inl none) (mz_k S R (cf_129_0 v2 N) b t)) : mz_Ed (mz_X0 L xs) d 129 [.ref 208, .ref 227, .int v2] (mz_k S R N b t) Q :=
  by
  refine g_in mzq_129 (Nat.le_of_ble_eq_true rfl) (Nat.le_of_ble_eq_true rfl) (Nat.le_trans (Nat.le_of_ble_eq_true rfl) hd) ?_
  refine g_weak ?_ (cg_129_0 (d := d - 1) (by omega) hS hR v2 N (C0 := fun z => Q (.inl none) (mz_k S R z b t)) (fun _ h => h) hp hq)
  exact ⟨rfl, rfl, rfl, trivial⟩
/-! 130 KeptHouse$Books.writePrices ([II)V -/
theorem ms_130_0 : mz_sf mk_130 0 = mk_130 := mz_sf_zero _
theorem ms_130_34 : mz_sf mk_130 34 = mt_130_34 := mz_sf_add ms_130_0 (t := 34) rfl rfl
theorem ms_130_36 : mz_sf mk_130 36 = mt_130_36 := mz_sf_add ms_130_34 (t := 2) rfl rfl
theorem ms_130_61 : mz_sf mk_130 61 = mt_130_61 := mz_sf_add ms_130_36 (t := 25) rfl rfl
theorem ms_130_67 : mz_sf mk_130 67 = mt_130_67 := mz_sf_add ms_130_61 (t := 6) rfl rfl
set_option maxRecDepth 100000 in
theorem mzq_130 : mz_PG0 130 = some (1, ⟨"KeptHouse$Books", "writePrices", "([II)V"⟩, prog_3_method_21_code, 4, none, [], mk_130, []) := rfl
theorem cg_130_61 (hd : 1 ≤ d) (hS : mz_extR S 232) (hR : mz_rok R 232)  (v2 : Int32) (v3 : Int32) (N : mz_N) {C0 : (mz_N) → Prop} (hr : ∀ (N2 : mz_N), C0 N2 → Q (.inl none) (mz_k S R N2 b t)) {C1 : ((Int32 × mz_N) ⊕ (mz_N)) → Prop} (hc1 : ∀ s2, C1 (.inl s2) → mz_G (d, mz_X0 L xs, none, [], mk_130, 4, Q) 36 mt_130_36 [(0, .ref 208), (1, .ref 227), (2, .int v2), (3, .int s2.1)] [] false (mz_k S R s2.2 b t)) (hx1 : ∀ z, C1 (.inr z) → C0 z) (hp : cp_130_61 v2 v3 N) (hC : C1 (cf_130_61 v2 v3 N)) : mz_G (d, mz_X0 L xs, none, [], mk_130, 4, Q) 61 mt_130_61 [(0, .ref 208), (1, .ref 227), (2, .int v2), (3, .int v3)] [] false (mz_k S R N b t) := by
  unfold cf_130_61 at hC
  unfold cp_130_61 at hp
  refine g_iinc rfl mzi_1 (Nat.le_of_ble_eq_true rfl) rfl (g_goto (tg := 36) rfl ms_130_36 ?_)
  refine g_weak ?_ (g_cl (hc1 ((v3 + 1), N) hC))
  exact ⟨rfl, rfl, rfl, rfl, trivial⟩
theorem cb_130_36 (hd : 1 ≤ d) (hS : mz_extR S 232) (hR : mz_rok R 232)  (v2 : Int32) (s : Int32 × mz_N) {C0 : (mz_N) → Prop} (hr : ∀ (N2 : mz_N), C0 N2 → Q (.inl none) (mz_k S R N2 b t)) {C1 : ((Int32 × mz_N) ⊕ (mz_N)) → Prop} (hc1 : ∀ s2, C1 (.inl s2) → mz_G (d, mz_X0 L xs, none, [], mk_130, 4, Q) 36 mt_130_36 [(0, .ref 208), (1, .ref 227), (2, .int v2), (3, .int s2.1)] [] false (mz_k S R s2.2 b t)) (hx1 : ∀ z, C1 (.inr z) → C0 z) (hp : cd_130_36 v2 s) (hC : C1 (cq_130_36 v2 s)) : mz_G (d, mz_X0 L xs, none, [], mk_130, 4, Q) 36 mt_130_36 [(0, .ref 208), (1, .ref 227), (2, .int v2), (3, .int s.1)] [] false (mz_k S R s.2 b t) := by
  unfold cq_130_36 at hC
  unfold cd_130_36 at hp
  refine g_iload_n rfl (g_iconst mzi_4 ?_)
  refine g_icge (tg := 67) rfl ms_130_67 hC (fun h1 hC => ?_) (fun h1 hC => ?_)
  · have hp := hp.1 h1
    refine g_aload_n rfl (g_iload_n rfl (g_bipush mzb_8 (g_iadd (g_iconst mzi_4 (g_iload_n rfl (g_imul (g_iadd ?_)))))))
    refine g_iconst mzi_4 (g_aload_n rfl (g_getR (mz_at hS (Nat.le_of_ble_eq_true rfl) mzcS_208) mzcf_1_8 (mz_rb hR (Nat.le_of_ble_eq_true rfl) rfl mzcR_208_8) (g_iload_n rfl ?_)))
    obtain ⟨h2, hp⟩ := hp
    refine g_iald hS.1 (mz_at hS (Nat.le_of_ble_eq_true rfl) mzcS_215) h2 (g_i2l ?_)
    obtain ⟨h3, hp⟩ := hp
    refine g_s4n (Nat.le_of_ble_eq_true rfl) (fun _ hq => cs_14 (Nat.le_trans (Nat.le_of_ble_eq_true rfl) hd) (hS.le (Nat.le_of_ble_eq_true rfl)) (mz_rs_of hR (Nat.le_of_ble_eq_true rfl)) 227 448 (mz_at hS (Nat.le_of_ble_eq_true rfl) mzcS_227) ((v2 + 8) + (4 * s.1)) 4 ((mz_gI s.2 215 s.1).toInt64) s.2 h3 hq) ?_
    refine g_weak ?_ (g_cl (cg_130_61 hd hS hR v2 s.1 (cf_14_0 227 448 ((v2 + 8) + (4 * s.1)) 4 ((mz_gI s.2 215 s.1).toInt64) s.2) hr hc1 hx1 hp hC))
    exact ⟨rfl, rfl, rfl, rfl, trivial⟩
  · have hp := hp.2 h1
    exact g_vret rfl (hr _ (hx1 _ hC))
theorem cg_130_36 (hd : 1 ≤ d) (hS : mz_extR S 232) (hR : mz_rok R 232)  (v2 : Int32) (v3 : Int32) (N : mz_N) {C0 : (mz_N) → Prop} (hr : ∀ (N2 : mz_N), C0 N2 → Q (.inl none) (mz_k S R N2 b t)) (hp : cp_130_36 v2 v3 N) (hC : C0 (cf_130_36 v2 v3 N)) : mz_G (d, mz_X0 L xs, none, [], mk_130, 4, Q) 36 mt_130_36 [(0, .ref 208), (1, .ref 227), (2, .int v2), (3, .int v3)] [] false (mz_k S R N b t) := by
  obtain ⟨n, hn⟩ := hp
  exact g_loop (G := fun s => mz_G (d, mz_X0 L xs, none, [], mk_130, 4, Q) 36 mt_130_36 [(0, .ref 208), (1, .ref 227), (2, .int v2), (3, .int s.1)] [] false (mz_k S R s.2 b t)) (C := C0) (fun C2 hc hx s hP hC => cb_130_36 hd hS hR v2 s hr hc hx hP hC) n (v3, N) hn hC
theorem cg_130_34 (hd : 1 ≤ d) (hS : mz_extR S 232) (hR : mz_rok R 232)  (v2 : Int32) (N : mz_N) {C0 : (mz_N) → Prop} (hr : ∀ (N2 : mz_N), C0 N2 → Q (.inl none) (mz_k S R N2 b t)) (hp : cp_130_34 v2 N) (hC : C0 (cf_130_34 v2 N)) : mz_G (d, mz_X0 L xs, none, [], mk_130, 4, Q) 34 mt_130_34 [(0, .ref 208), (1, .ref 227), (2, .int v2)] [] false (mz_k S R N b t) := by
  unfold cf_130_34 at hC
  unfold cp_130_34 at hp
  refine g_iconst mzi_0 (g_istore_n (Nat.le_of_ble_eq_true rfl) rfl ?_)
  refine g_weak ?_ (g_cl (cg_130_36 hd hS hR v2 0 N hr hp hC))
  exact ⟨rfl, rfl, rfl, rfl, trivial⟩
theorem cg_130_0 (hd : 1 ≤ d) (hS : mz_extR S 232) (hR : mz_rok R 232)  (v2 : Int32) (N : mz_N) {C0 : (mz_N) → Prop} (hr : ∀ (N2 : mz_N), C0 N2 → Q (.inl none) (mz_k S R N2 b t)) (hp : cp_130_0 v2 N) (hC : C0 (cf_130_0 v2 N)) : mz_G (d, mz_X0 L xs, none, [], mk_130, 4, Q) 0 mk_130 [(0, .ref 208), (1, .ref 227), (2, .int v2)] [] true (mz_k S R N b t) := by
  unfold cf_130_0 at hC
  unfold cp_130_0 at hp
  refine g_aload_n rfl (g_iload_n rfl (g_iconst mzi_4 (g_aload_n rfl (g_getR (mz_at hS (Nat.le_of_ble_eq_true rfl) mzcS_208) mzcf_1_5 (mz_rb hR (Nat.le_of_ble_eq_true rfl) rfl mzcR_208_5) (g_iconst mzi_1 (g_aald4 (m := 211) (mz_at hS (Nat.le_of_ble_eq_true rfl) mzcS_209) (mz_ibd (by decide)) (mz_rb hR (Nat.le_of_ble_eq_true rfl) rfl mzcRr_209_1) (g_bipush mzb_10 ?_)))))))
  refine g_iald hS.1 (mz_at hS (Nat.le_of_ble_eq_true rfl) mzcS_211) (mz_ibd (by decide)) (g_i2l ?_)
  obtain ⟨h1, hp⟩ := hp
  refine g_s4n (Nat.le_of_ble_eq_true rfl) (fun _ hq => cs_14 (Nat.le_trans (Nat.le_of_ble_eq_true rfl) hd) (hS.le (Nat.le_of_ble_eq_true rfl)) (mz_rs_of hR (Nat.le_of_ble_eq_true rfl)) 227 448 (mz_at hS (Nat.le_of_ble_eq_true rfl) mzcS_227) v2 4 ((mz_gI N 211 10).toInt64) N h1 hq) (g_aload_n rfl (g_iload_n rfl (g_iconst mzi_4 (g_iadd (g_iconst mzi_4 (g_aload_n rfl (g_getR (mz_at hS (Nat.le_of_ble_eq_true rfl) mzcS_208) mzcf_1_5 (mz_rb hR (Nat.le_of_ble_eq_true rfl) rfl mzcR_208_5) ?_)))))))
  refine g_iconst mzi_0 (g_aald4 (m := 210) (mz_at hS (Nat.le_of_ble_eq_true rfl) mzcS_209) (mz_ibd (by decide)) (mz_rb hR (Nat.le_of_ble_eq_true rfl) rfl mzcRr_209_0) (g_bipush mzb_10 (g_iald hS.1 (mz_at hS (Nat.le_of_ble_eq_true rfl) mzcS_210) (mz_ibd (by decide)) (g_i2l ?_))))
  obtain ⟨h2, hp⟩ := hp
  refine g_s4n (Nat.le_of_ble_eq_true rfl) (fun _ hq => cs_14 (Nat.le_trans (Nat.le_of_ble_eq_true rfl) hd) (hS.le (Nat.le_of_ble_eq_true rfl)) (mz_rs_of hR (Nat.le_of_ble_eq_true rfl)) 227 448 (mz_at hS (Nat.le_of_ble_eq_true rfl) mzcS_227) (v2 + 4) 4 ((mz_gI (cf_14_0 227 448 v2 4 ((mz_gI N 211 10).toInt64) N) 210 10).toInt64) (cf_14_0 227 448 v2 4 ((mz_gI N 211 10).toInt64) N) h2 hq) ?_
  refine g_weak ?_ (g_cl (cg_130_34 hd hS hR v2 (cf_14_0 227 448 (v2 + 4) 4 ((mz_gI (cf_14_0 227 448 v2 4 ((mz_gI N 211 10).toInt64) N) 210 10).toInt64) (cf_14_0 227 448 v2 4 ((mz_gI N 211 10).toInt64) N)) hr hp hC))
  exact ⟨rfl, rfl, rfl, trivial⟩
theorem cs_130 (hd : 2 ≤ d) (hS : mz_extR S 232) (hR : mz_rok R 232)  (v2 : Int32) (N : mz_N) (hp : cp_130_0 v2 N) (hq : Q (.inl none) (mz_k S R (cf_130_0 v2 N) b t)) : mz_Ed (mz_X0 L xs) d 130 [.ref 208, .ref 227, .int v2] (mz_k S R N b t) Q :=
  by
  refine g_in mzq_130 (Nat.le_of_ble_eq_true rfl) (Nat.le_of_ble_eq_true rfl) (Nat.le_trans (Nat.le_of_ble_eq_true rfl) hd) ?_
  refine g_weak ?_ (cg_130_0 (d := d - 1) (by omega) hS hR v2 N (C0 := fun z => Q (.inl none) (mz_k S R z b t)) (fun _ h => h) hp hq)
  exact ⟨rfl, rfl, rfl, trivial⟩
/-! 131 KeptHouse$Care.writePart (I[II)V -/
theorem ms_131_0 : mz_sf mk_131 0 = mk_131 := mz_sf_zero _
theorem ms_131_32 : mz_sf mk_131 32 = mt_131_32 := mz_sf_add ms_131_0 (t := 32) rfl rfl
theorem ms_131_50 : mz_sf mk_131 50 = mt_131_50 := mz_sf_add ms_131_32 (t := 18) rfl rfl
set_option maxRecDepth 100000 in
theorem mzq_131 : mz_PG0 131 = some (2, ⟨"KeptHouse$Care", "writePart", "(I[II)V"⟩, prog_4_method_29_code, 4, none, [], mk_131, []) := rfl
theorem cg_131_32 (hd : 1 ≤ d) (hS : mz_extR S 232) (hR : mz_rok R 232)  (v1 : Int32) (v3 : Int32) (N : mz_N) {C0 : (mz_N) → Prop} (hr : ∀ (N2 : mz_N), C0 N2 → Q (.inl none) (mz_k S R N2 b t)) (hp : cp_131_32 v1 v3 N) (hC : C0 (cf_131_32 v1 v3 N)) : mz_G (d, mz_X0 L xs, none, [], mk_131, 4, Q) 32 mt_131_32 [(0, .ref 115), (1, .int v1), (2, .ref 227), (3, .int v3)] [] false (mz_k S R N b t) := by
  unfold cf_131_32 at hC
  unfold cp_131_32 at hp
  refine g_aload_n rfl (g_iload_n rfl (g_bipush mzb_8 (g_iadd (g_iconst mzi_4 (g_aload_n rfl (g_getR (mz_at hS (Nat.le_of_ble_eq_true rfl) mzcS_115) mzcf_2_3 (mz_rb hR (Nat.le_of_ble_eq_true rfl) rfl mzcR_115_3) (g_iconst mzi_2 ?_)))))))
  refine g_aald4 (m := 127) (mz_at hS (Nat.le_of_ble_eq_true rfl) mzcS_124) (mz_ibd (by decide)) (mz_rb hR (Nat.le_of_ble_eq_true rfl) rfl mzcRr_124_2) (g_iload_n rfl ?_)
  obtain ⟨h1, hp⟩ := hp
  refine g_iald hS.1 (mz_at hS (Nat.le_of_ble_eq_true rfl) mzcS_127) h1 (g_i2l ?_)
  obtain ⟨h2, hp⟩ := hp
  refine g_s4n (Nat.le_of_ble_eq_true rfl) (fun _ hq => cs_14 (Nat.le_trans (Nat.le_of_ble_eq_true rfl) hd) (hS.le (Nat.le_of_ble_eq_true rfl)) (mz_rs_of hR (Nat.le_of_ble_eq_true rfl)) 227 448 (mz_at hS (Nat.le_of_ble_eq_true rfl) mzcS_227) (v3 + 8) 4 ((mz_gI N 127 v1).toInt64) N h2 hq) (g_aload_n rfl (g_iload_n rfl (g_bipush mzb_12 (g_iadd (g_aload_n rfl (g_getR (mz_at hS (Nat.le_of_ble_eq_true rfl) mzcS_115) mzcf_2_3 (mz_rb hR (Nat.le_of_ble_eq_true rfl) rfl mzcR_115_3) (g_iconst mzi_3 ?_)))))))
  refine g_aald4 (m := 128) (mz_at hS (Nat.le_of_ble_eq_true rfl) mzcS_124) (mz_ibd (by decide)) (mz_rb hR (Nat.le_of_ble_eq_true rfl) rfl mzcRr_124_3) (g_iload_n rfl ?_)
  obtain ⟨h3, hp⟩ := hp
  refine g_iald hS.1 (mz_at hS (Nat.le_of_ble_eq_true rfl) mzcS_128) h3 ?_
  have h4 := hp
  refine g_iast (mz_at hS (Nat.le_of_ble_eq_true rfl) mzcS_227) h4 ?_
  exact g_vret rfl (hr _ hC)
theorem cg_131_0 (hd : 1 ≤ d) (hS : mz_extR S 232) (hR : mz_rok R 232)  (v1 : Int32) (v3 : Int32) (N : mz_N) {C0 : (mz_N) → Prop} (hr : ∀ (N2 : mz_N), C0 N2 → Q (.inl none) (mz_k S R N2 b t)) (hp : cp_131_0 v1 v3 N) (hC : C0 (cf_131_0 v1 v3 N)) : mz_G (d, mz_X0 L xs, none, [], mk_131, 4, Q) 0 mk_131 [(0, .ref 115), (1, .int v1), (2, .ref 227), (3, .int v3)] [] true (mz_k S R N b t) := by
  unfold cf_131_0 at hC
  unfold cp_131_0 at hp
  refine g_aload_n rfl (g_iload_n rfl (g_iconst mzi_4 (g_aload_n rfl (g_getR (mz_at hS (Nat.le_of_ble_eq_true rfl) mzcS_115) mzcf_2_3 (mz_rb hR (Nat.le_of_ble_eq_true rfl) rfl mzcR_115_3) (g_iconst mzi_0 (g_aald4 (m := 125) (mz_at hS (Nat.le_of_ble_eq_true rfl) mzcS_124) (mz_ibd (by decide)) (mz_rb hR (Nat.le_of_ble_eq_true rfl) rfl mzcRr_124_0) (g_iload_n rfl ?_)))))))
  obtain ⟨h1, hp⟩ := hp
  refine g_iald hS.1 (mz_at hS (Nat.le_of_ble_eq_true rfl) mzcS_125) h1 (g_i2l ?_)
  obtain ⟨h2, hp⟩ := hp
  refine g_s4n (Nat.le_of_ble_eq_true rfl) (fun _ hq => cs_14 (Nat.le_trans (Nat.le_of_ble_eq_true rfl) hd) (hS.le (Nat.le_of_ble_eq_true rfl)) (mz_rs_of hR (Nat.le_of_ble_eq_true rfl)) 227 448 (mz_at hS (Nat.le_of_ble_eq_true rfl) mzcS_227) v3 4 ((mz_gI N 125 v1).toInt64) N h2 hq) (g_aload_n rfl (g_iload_n rfl (g_iconst mzi_4 (g_iadd (g_iconst mzi_4 (g_aload_n rfl (g_getR (mz_at hS (Nat.le_of_ble_eq_true rfl) mzcS_115) mzcf_2_3 (mz_rb hR (Nat.le_of_ble_eq_true rfl) rfl mzcR_115_3) ?_)))))))
  refine g_iconst mzi_1 (g_aald4 (m := 126) (mz_at hS (Nat.le_of_ble_eq_true rfl) mzcS_124) (mz_ibd (by decide)) (mz_rb hR (Nat.le_of_ble_eq_true rfl) rfl mzcRr_124_1) (g_iload_n rfl ?_))
  obtain ⟨h3, hp⟩ := hp
  refine g_iald hS.1 (mz_at hS (Nat.le_of_ble_eq_true rfl) mzcS_126) h3 (g_i2l ?_)
  obtain ⟨h4, hp⟩ := hp
  refine g_s4n (Nat.le_of_ble_eq_true rfl) (fun _ hq => cs_14 (Nat.le_trans (Nat.le_of_ble_eq_true rfl) hd) (hS.le (Nat.le_of_ble_eq_true rfl)) (mz_rs_of hR (Nat.le_of_ble_eq_true rfl)) 227 448 (mz_at hS (Nat.le_of_ble_eq_true rfl) mzcS_227) (v3 + 4) 4 ((mz_gI (cf_14_0 227 448 v3 4 ((mz_gI N 125 v1).toInt64) N) 126 v1).toInt64) (cf_14_0 227 448 v3 4 ((mz_gI N 125 v1).toInt64) N) h4 hq) ?_
  refine g_weak ?_ (g_cl (cg_131_32 hd hS hR v1 v3 (cf_14_0 227 448 (v3 + 4) 4 ((mz_gI (cf_14_0 227 448 v3 4 ((mz_gI N 125 v1).toInt64) N) 126 v1).toInt64) (cf_14_0 227 448 v3 4 ((mz_gI N 125 v1).toInt64) N)) hr hp hC))
  exact ⟨rfl, rfl, rfl, rfl, trivial⟩
theorem cs_131 (hd : 2 ≤ d) (hS : mz_extR S 232) (hR : mz_rok R 232)  (v1 : Int32) (v3 : Int32) (N : mz_N) (hp : cp_131_0 v1 v3 N) (hq : Q (.inl none) (mz_k S R (cf_131_0 v1 v3 N) b t)) : mz_Ed (mz_X0 L xs) d 131 [.ref 115, .int v1, .ref 227, .int v3] (mz_k S R N b t) Q :=
  by
  refine g_in mzq_131 (Nat.le_of_ble_eq_true rfl) (Nat.le_of_ble_eq_true rfl) (Nat.le_trans (Nat.le_of_ble_eq_true rfl) hd) ?_
  refine g_weak ?_ (cg_131_0 (d := d - 1) (by omega) hS hR v1 v3 N (C0 := fun z => Q (.inl none) (mz_k S R z b t)) (fun _ h => h) hp hq)
  exact ⟨rfl, rfl, rfl, rfl, trivial⟩
/-! 132 KeptHouse$Care.writeTicket (I[II)V -/
theorem ms_132_0 : mz_sf mk_132 0 = mk_132 := mz_sf_zero _
theorem ms_132_10 : mz_sf mk_132 10 = mt_132_10 := mz_sf_add ms_132_0 (t := 10) rfl rfl
theorem ms_132_27 : mz_sf mk_132 27 = mt_132_27 := mz_sf_add ms_132_10 (t := 17) rfl rfl
theorem ms_132_53 : mz_sf mk_132 53 = mt_132_53 := mz_sf_add ms_132_27 (t := 26) rfl rfl
theorem ms_132_70 : mz_sf mk_132 70 = mt_132_70 := mz_sf_add ms_132_53 (t := 17) rfl rfl
theorem ms_132_88 : mz_sf mk_132 88 = mt_132_88 := mz_sf_add ms_132_70 (t := 18) rfl rfl
set_option maxRecDepth 100000 in
theorem mzq_132 : mz_PG0 132 = some (2, ⟨"KeptHouse$Care", "writeTicket", "(I[II)V"⟩, prog_4_method_32_code, 4, none, [], mk_132, []) := rfl
theorem cg_132_88 (hd : 1 ≤ d) (hS : mz_extR S 232) (hR : mz_rok R 232)  (N : mz_N) {C0 : (mz_N) → Prop} (hr : ∀ (N2 : mz_N), C0 N2 → Q (.inl none) (mz_k S R N2 b t)) (hp : cp_132_88 N) (hC : C0 (cf_132_88 N)) : mz_G (d, mz_X0 L xs, none, [], mk_132, 4, Q) 88 mt_132_88 [] [] false (mz_k S R N b t) := by
  unfold cf_132_88 at hC
  unfold cp_132_88 at hp
  exact g_vret rfl (hr _ hC)
theorem cg_132_53 (hd : 1 ≤ d) (hS : mz_extR S 232) (hR : mz_rok R 232)  (v1 : Int32) (v3 : Int32) (N : mz_N) {C0 : (mz_N) → Prop} (hr : ∀ (N2 : mz_N), C0 N2 → Q (.inl none) (mz_k S R N2 b t)) (hp : cp_132_53 v1 v3 N) (hC : C0 (cf_132_53 v1 v3 N)) : mz_G (d, mz_X0 L xs, none, [], mk_132, 4, Q) 53 mt_132_53 [(0, .ref 115), (1, .int v1), (2, .ref 227), (3, .int v3)] [] false (mz_k S R N b t) := by
  unfold cf_132_53 at hC
  unfold cp_132_53 at hp
  refine g_aload_n rfl (g_iload_n rfl (g_iconst mzi_4 (g_iadd (g_iconst mzi_4 (g_aload_n rfl (g_getR (mz_at hS (Nat.le_of_ble_eq_true rfl) mzcS_115) mzcf_2_0 (mz_rb hR (Nat.le_of_ble_eq_true rfl) rfl mzcR_115_0) (g_iconst mzi_4 ?_)))))))
  refine g_aald4 (m := 121) (mz_at hS (Nat.le_of_ble_eq_true rfl) mzcS_116) (mz_ibd (by decide)) (mz_rb hR (Nat.le_of_ble_eq_true rfl) rfl mzcRr_116_4) (g_iload_n rfl ?_)
  obtain ⟨h1, hp⟩ := hp
  refine g_iald hS.1 (mz_at hS (Nat.le_of_ble_eq_true rfl) mzcS_121) h1 (g_i2l ?_)
  obtain ⟨h2, hp⟩ := hp
  refine g_s4n (Nat.le_of_ble_eq_true rfl) (fun _ hq => cs_14 (Nat.le_trans (Nat.le_of_ble_eq_true rfl) hd) (hS.le (Nat.le_of_ble_eq_true rfl)) (mz_rs_of hR (Nat.le_of_ble_eq_true rfl)) 227 448 (mz_at hS (Nat.le_of_ble_eq_true rfl) mzcS_227) (v3 + 4) 4 ((mz_gI N 121 v1).toInt64) N h2 hq) (g_aload_n rfl (g_iload_n rfl (g_bipush mzb_8 (g_iadd (g_iconst mzi_4 (g_aload_n rfl (g_getR (mz_at hS (Nat.le_of_ble_eq_true rfl) mzcS_115) mzcf_2_0 (mz_rb hR (Nat.le_of_ble_eq_true rfl) rfl mzcR_115_0) ?_)))))))
  refine g_iconst mzi_0 (g_aald4 (m := 117) (mz_at hS (Nat.le_of_ble_eq_true rfl) mzcS_116) (mz_ibd (by decide)) (mz_rb hR (Nat.le_of_ble_eq_true rfl) rfl mzcRr_116_0) (g_iload_n rfl ?_))
  obtain ⟨h3, hp⟩ := hp
  refine g_iald hS.1 (mz_at hS (Nat.le_of_ble_eq_true rfl) mzcS_117) h3 (g_i2l ?_)
  obtain ⟨h4, hp⟩ := hp
  refine g_s4n (Nat.le_of_ble_eq_true rfl) (fun _ hq => cs_14 (Nat.le_trans (Nat.le_of_ble_eq_true rfl) hd) (hS.le (Nat.le_of_ble_eq_true rfl)) (mz_rs_of hR (Nat.le_of_ble_eq_true rfl)) 227 448 (mz_at hS (Nat.le_of_ble_eq_true rfl) mzcS_227) (v3 + 8) 4 ((mz_gI (cf_14_0 227 448 (v3 + 4) 4 ((mz_gI N 121 v1).toInt64) N) 117 v1).toInt64) (cf_14_0 227 448 (v3 + 4) 4 ((mz_gI N 121 v1).toInt64) N) h4 hq) ?_
  refine g_weak ?_ (g_cl (cg_132_88 hd hS hR (cf_14_0 227 448 (v3 + 8) 4 ((mz_gI (cf_14_0 227 448 (v3 + 4) 4 ((mz_gI N 121 v1).toInt64) N) 117 v1).toInt64) (cf_14_0 227 448 (v3 + 4) 4 ((mz_gI N 121 v1).toInt64) N)) hr hp hC))
  exact trivial
theorem cg_132_27 (hd : 1 ≤ d) (hS : mz_extR S 232) (hR : mz_rok R 232)  (v1 : Int32) (v3 : Int32) (N : mz_N) {C0 : (mz_N) → Prop} (hr : ∀ (N2 : mz_N), C0 N2 → Q (.inl none) (mz_k S R N2 b t)) (hp : cp_132_27 v1 v3 N) (hC : C0 (cf_132_27 v1 v3 N)) : mz_G (d, mz_X0 L xs, none, [], mk_132, 4, Q) 27 mt_132_27 [(0, .ref 115), (1, .int v1), (2, .ref 227), (3, .int v3)] [] false (mz_k S R N b t) := by
  unfold cf_132_27 at hC
  unfold cp_132_27 at hp
  refine g_aload_n rfl (g_iload_n rfl (g_iconst mzi_2 (g_iadd (g_aload_n rfl (g_getR (mz_at hS (Nat.le_of_ble_eq_true rfl) mzcS_115) mzcf_2_0 (mz_rb hR (Nat.le_of_ble_eq_true rfl) rfl mzcR_115_0) (g_iconst mzi_2 (g_aald4 (m := 119) (mz_at hS (Nat.le_of_ble_eq_true rfl) mzcS_116) (mz_ibd (by decide)) (mz_rb hR (Nat.le_of_ble_eq_true rfl) rfl mzcRr_116_2) ?_)))))))
  refine g_iload_n rfl ?_
  obtain ⟨h1, hp⟩ := hp
  refine g_iald hS.1 (mz_at hS (Nat.le_of_ble_eq_true rfl) mzcS_119) h1 ?_
  obtain ⟨h2, hp⟩ := hp
  refine g_iast (mz_at hS (Nat.le_of_ble_eq_true rfl) mzcS_227) h2 (g_aload_n rfl (g_iload_n rfl (g_iconst mzi_3 (g_iadd (g_aload_n rfl (g_getR (mz_at hS (Nat.le_of_ble_eq_true rfl) mzcS_115) mzcf_2_0 (mz_rb hR (Nat.le_of_ble_eq_true rfl) rfl mzcR_115_0) (g_iconst mzi_3 ?_)))))))
  refine g_aald4 (m := 120) (mz_at hS (Nat.le_of_ble_eq_true rfl) mzcS_116) (mz_ibd (by decide)) (mz_rb hR (Nat.le_of_ble_eq_true rfl) rfl mzcRr_116_3) (g_iload_n rfl ?_)
  obtain ⟨h3, hp⟩ := hp
  refine g_iald hS.1 (mz_at hS (Nat.le_of_ble_eq_true rfl) mzcS_120) h3 ?_
  obtain ⟨h4, hp⟩ := hp
  refine g_iast (mz_at hS (Nat.le_of_ble_eq_true rfl) mzcS_227) h4 ?_
  refine g_weak ?_ (g_cl (cg_132_53 hd hS hR v1 v3 (mz_wI (mz_wI N 227 (v3 + 2) (mz_gI N 119 v1)) 227 (v3 + 3) (mz_gI (mz_wI N 227 (v3 + 2) (mz_gI N 119 v1)) 120 v1)) hr hp hC))
  exact ⟨rfl, rfl, rfl, rfl, trivial⟩
theorem cg_132_0 (hd : 1 ≤ d) (hS : mz_extR S 232) (hR : mz_rok R 232)  (v1 : Int32) (v3 : Int32) (N : mz_N) {C0 : (mz_N) → Prop} (hr : ∀ (N2 : mz_N), C0 N2 → Q (.inl none) (mz_k S R N2 b t)) (hp : cp_132_0 v1 v3 N) (hC : C0 (cf_132_0 v1 v3 N)) : mz_G (d, mz_X0 L xs, none, [], mk_132, 4, Q) 0 mk_132 [(0, .ref 115), (1, .int v1), (2, .ref 227), (3, .int v3)] [] true (mz_k S R N b t) := by
  unfold cf_132_0 at hC
  unfold cp_132_0 at hp
  refine g_aload_n rfl (g_getR (mz_at hS (Nat.le_of_ble_eq_true rfl) mzcS_115) mzcf_2_1 (mz_rb hR (Nat.le_of_ble_eq_true rfl) rfl mzcR_115_1) (g_iload_n rfl ?_))
  obtain ⟨h1, hp⟩ := hp
  refine g_iald hS.1 (mz_at hS (Nat.le_of_ble_eq_true rfl) mzcS_123) h1 ?_
  refine g_ifne (tg := 10) rfl ms_132_10 hC (fun h2 hC => ?_) (fun h2 hC => ?_)
  · have hp := hp.1 h2
    exact g_vret rfl (hr _ hC)
  · have hp := hp.2 h2
    refine g_aload_n rfl (g_iload_n rfl (g_iconst mzi_1 ?_))
    obtain ⟨h3, hp⟩ := hp
    refine g_iast (mz_at hS (Nat.le_of_ble_eq_true rfl) mzcS_227) h3 (g_aload_n rfl (g_iload_n rfl (g_iconst mzi_1 (g_iadd (g_aload_n rfl (g_getR (mz_at hS (Nat.le_of_ble_eq_true rfl) mzcS_115) mzcf_2_0 (mz_rb hR (Nat.le_of_ble_eq_true rfl) rfl mzcR_115_0) (g_iconst mzi_1 ?_)))))))
    refine g_aald4 (m := 118) (mz_at hS (Nat.le_of_ble_eq_true rfl) mzcS_116) (mz_ibd (by decide)) (mz_rb hR (Nat.le_of_ble_eq_true rfl) rfl mzcRr_116_1) (g_iload_n rfl ?_)
    obtain ⟨h4, hp⟩ := hp
    refine g_iald hS.1 (mz_at hS (Nat.le_of_ble_eq_true rfl) mzcS_118) h4 ?_
    obtain ⟨h5, hp⟩ := hp
    refine g_iast (mz_at hS (Nat.le_of_ble_eq_true rfl) mzcS_227) h5 ?_
    refine g_weak ?_ (g_cl (cg_132_27 hd hS hR v1 v3 (mz_wI (mz_wI N 227 v3 1) 227 (v3 + 1) (mz_gI (mz_wI N 227 v3 1) 118 v1)) hr hp hC))
    exact ⟨rfl, rfl, rfl, rfl, trivial⟩
theorem cs_132 (hd : 2 ≤ d) (hS : mz_extR S 232) (hR : mz_rok R 232)  (v1 : Int32) (v3 : Int32) (N : mz_N) (hp : cp_132_0 v1 v3 N) (hq : Q (.inl none) (mz_k S R (cf_132_0 v1 v3 N) b t)) : mz_Ed (mz_X0 L xs) d 132 [.ref 115, .int v1, .ref 227, .int v3] (mz_k S R N b t) Q :=
  by
  refine g_in mzq_132 (Nat.le_of_ble_eq_true rfl) (Nat.le_of_ble_eq_true rfl) (Nat.le_trans (Nat.le_of_ble_eq_true rfl) hd) ?_
  refine g_weak ?_ (cg_132_0 (d := d - 1) (by omega) hS hR v1 v3 N (C0 := fun z => Q (.inl none) (mz_k S R z b t)) (fun _ h => h) hp hq)
  exact ⟨rfl, rfl, rfl, rfl, trivial⟩
/-! 133 KeptHouse$Access.writeDoor (I[II)V -/
theorem ms_133_0 : mz_sf mk_133 0 = mk_133 := mz_sf_zero _
theorem ms_133_20 : mz_sf mk_133 20 = mt_133_20 := mz_sf_add ms_133_0 (t := 20) rfl rfl
set_option maxRecDepth 100000 in
theorem mzq_133 : mz_PG0 133 = some (0, ⟨"KeptHouse$Access", "writeDoor", "(I[II)V"⟩, prog_2_method_17_code, 4, none, [], mk_133, []) := rfl
theorem cg_133_20 (hd : 0 ≤ d) (hS : mz_extR S 232) (hR : mz_rok R 232)  (v1 : Int32) (v3 : Int32) (N : mz_N) {C0 : (mz_N) → Prop} (hr : ∀ (N2 : mz_N), C0 N2 → Q (.inl none) (mz_k S R N2 b t)) (hp : cp_133_20 v1 v3 N) (hC : C0 (cf_133_20 v1 v3 N)) : mz_G (d, mz_X0 L xs, none, [], mk_133, 4, Q) 20 mt_133_20 [(0, .ref 100), (1, .int v1), (2, .ref 227), (3, .int v3)] [] false (mz_k S R N b t) := by
  unfold cf_133_20 at hC
  unfold cp_133_20 at hp
  refine g_aload_n rfl (g_iload_n rfl (g_iconst mzi_2 (g_iadd (g_aload_n rfl (g_getR (mz_at hS (Nat.le_of_ble_eq_true rfl) mzcS_100) mzcf_0_2 (mz_rb hR (Nat.le_of_ble_eq_true rfl) rfl mzcR_100_2) (g_iload_n rfl ?_))))))
  obtain ⟨h1, hp⟩ := hp
  refine g_iald hS.1 (mz_at hS (Nat.le_of_ble_eq_true rfl) mzcS_103) h1 ?_
  have h2 := hp
  refine g_iast (mz_at hS (Nat.le_of_ble_eq_true rfl) mzcS_227) h2 ?_
  exact g_vret rfl (hr _ hC)
theorem cg_133_0 (hd : 0 ≤ d) (hS : mz_extR S 232) (hR : mz_rok R 232)  (v1 : Int32) (v3 : Int32) (N : mz_N) {C0 : (mz_N) → Prop} (hr : ∀ (N2 : mz_N), C0 N2 → Q (.inl none) (mz_k S R N2 b t)) (hp : cp_133_0 v1 v3 N) (hC : C0 (cf_133_0 v1 v3 N)) : mz_G (d, mz_X0 L xs, none, [], mk_133, 4, Q) 0 mk_133 [(0, .ref 100), (1, .int v1), (2, .ref 227), (3, .int v3)] [] true (mz_k S R N b t) := by
  unfold cf_133_0 at hC
  unfold cp_133_0 at hp
  refine g_aload_n rfl (g_iload_n rfl (g_aload_n rfl (g_getR (mz_at hS (Nat.le_of_ble_eq_true rfl) mzcS_100) mzcf_0_0 (mz_rb hR (Nat.le_of_ble_eq_true rfl) rfl mzcR_100_0) (g_iload_n rfl ?_))))
  obtain ⟨h1, hp⟩ := hp
  refine g_iald hS.1 (mz_at hS (Nat.le_of_ble_eq_true rfl) mzcS_101) h1 ?_
  obtain ⟨h2, hp⟩ := hp
  refine g_iast (mz_at hS (Nat.le_of_ble_eq_true rfl) mzcS_227) h2 (g_aload_n rfl (g_iload_n rfl (g_iconst mzi_1 (g_iadd (g_aload_n rfl (g_getR (mz_at hS (Nat.le_of_ble_eq_true rfl) mzcS_100) mzcf_0_1 (mz_rb hR (Nat.le_of_ble_eq_true rfl) rfl mzcR_100_1) (g_iload_n rfl ?_)))))))
  obtain ⟨h3, hp⟩ := hp
  refine g_iald hS.1 (mz_at hS (Nat.le_of_ble_eq_true rfl) mzcS_102) h3 ?_
  obtain ⟨h4, hp⟩ := hp
  refine g_iast (mz_at hS (Nat.le_of_ble_eq_true rfl) mzcS_227) h4 ?_
  refine g_weak ?_ (g_cl (cg_133_20 hd hS hR v1 v3 (mz_wI (mz_wI N 227 v3 (mz_gI N 101 v1)) 227 (v3 + 1) (mz_gI (mz_wI N 227 v3 (mz_gI N 101 v1)) 102 v1)) hr hp hC))
  exact ⟨rfl, rfl, rfl, rfl, trivial⟩
theorem cs_133 (hd : 1 ≤ d) (hS : mz_extR S 232) (hR : mz_rok R 232)  (v1 : Int32) (v3 : Int32) (N : mz_N) (hp : cp_133_0 v1 v3 N) (hq : Q (.inl none) (mz_k S R (cf_133_0 v1 v3 N) b t)) : mz_Ed (mz_X0 L xs) d 133 [.ref 100, .int v1, .ref 227, .int v3] (mz_k S R N b t) Q :=
  by
  refine g_in mzq_133 (Nat.le_of_ble_eq_true rfl) (Nat.le_of_ble_eq_true rfl) (Nat.le_trans (Nat.le_of_ble_eq_true rfl) hd) ?_
  refine g_weak ?_ (cg_133_0 (d := d - 1) (by omega) hS hR v1 v3 N (C0 := fun z => Q (.inl none) (mz_k S R z b t)) (fun _ h => h) hp hq)
  exact ⟨rfl, rfl, rfl, rfl, trivial⟩
/-! 134 KeptHouse$Access.writeCard (I[II)V -/
theorem ms_134_0 : mz_sf mk_134 0 = mk_134 := mz_sf_zero _
theorem ms_134_20 : mz_sf mk_134 20 = mt_134_20 := mz_sf_add ms_134_0 (t := 20) rfl rfl
theorem ms_134_42 : mz_sf mk_134 42 = mt_134_42 := mz_sf_add ms_134_20 (t := 22) rfl rfl
set_option maxRecDepth 100000 in
theorem mzq_134 : mz_PG0 134 = some (0, ⟨"KeptHouse$Access", "writeCard", "(I[II)V"⟩, prog_2_method_19_code, 4, none, [], mk_134, []) := rfl
theorem cg_134_42 (hd : 1 ≤ d) (hS : mz_extR S 232) (hR : mz_rok R 232)  (v1 : Int32) (v3 : Int32) (N : mz_N) {C0 : (mz_N) → Prop} (hr : ∀ (N2 : mz_N), C0 N2 → Q (.inl none) (mz_k S R N2 b t)) (hp : cp_134_42 v1 v3 N) (hC : C0 (cf_134_42 v1 v3 N)) : mz_G (d, mz_X0 L xs, none, [], mk_134, 4, Q) 42 mt_134_42 [(0, .ref 100), (1, .int v1), (2, .ref 227), (3, .int v3)] [] false (mz_k S R N b t) := by
  unfold cf_134_42 at hC
  unfold cp_134_42 at hp
  refine g_aload_n rfl (g_iload_n rfl (g_iconst mzi_4 (g_iadd (g_iconst mzi_4 (g_aload_n rfl (g_getR (mz_at hS (Nat.le_of_ble_eq_true rfl) mzcS_100) mzcf_0_7 (mz_rb hR (Nat.le_of_ble_eq_true rfl) rfl mzcR_100_7) (g_iload_n rfl ?_)))))))
  obtain ⟨h1, hp⟩ := hp
  refine g_iald hS.1 (mz_at hS (Nat.le_of_ble_eq_true rfl) mzcS_108) h1 (g_i2l ?_)
  have h2 := hp
  refine g_s4n (Nat.le_of_ble_eq_true rfl) (fun _ hq => cs_14 (Nat.le_trans (Nat.le_of_ble_eq_true rfl) hd) (hS.le (Nat.le_of_ble_eq_true rfl)) (mz_rs_of hR (Nat.le_of_ble_eq_true rfl)) 227 448 (mz_at hS (Nat.le_of_ble_eq_true rfl) mzcS_227) (v3 + 4) 4 ((mz_gI N 108 v1).toInt64) N h2 hq) ?_
  exact g_vret rfl (hr _ hC)
theorem cg_134_20 (hd : 1 ≤ d) (hS : mz_extR S 232) (hR : mz_rok R 232)  (v1 : Int32) (v3 : Int32) (N : mz_N) {C0 : (mz_N) → Prop} (hr : ∀ (N2 : mz_N), C0 N2 → Q (.inl none) (mz_k S R N2 b t)) (hp : cp_134_20 v1 v3 N) (hC : C0 (cf_134_20 v1 v3 N)) : mz_G (d, mz_X0 L xs, none, [], mk_134, 4, Q) 20 mt_134_20 [(0, .ref 100), (1, .int v1), (2, .ref 227), (3, .int v3)] [] false (mz_k S R N b t) := by
  unfold cf_134_20 at hC
  unfold cp_134_20 at hp
  refine g_aload_n rfl (g_iload_n rfl (g_iconst mzi_2 (g_iadd (g_aload_n rfl (g_getR (mz_at hS (Nat.le_of_ble_eq_true rfl) mzcS_100) mzcf_0_5 (mz_rb hR (Nat.le_of_ble_eq_true rfl) rfl mzcR_100_5) (g_iload_n rfl ?_))))))
  obtain ⟨h1, hp⟩ := hp
  refine g_iald hS.1 (mz_at hS (Nat.le_of_ble_eq_true rfl) mzcS_106) h1 ?_
  obtain ⟨h2, hp⟩ := hp
  refine g_iast (mz_at hS (Nat.le_of_ble_eq_true rfl) mzcS_227) h2 (g_aload_n rfl (g_iload_n rfl (g_iconst mzi_3 (g_iadd (g_aload_n rfl (g_getR (mz_at hS (Nat.le_of_ble_eq_true rfl) mzcS_100) mzcf_0_6 (mz_rb hR (Nat.le_of_ble_eq_true rfl) rfl mzcR_100_6) (g_iload_n rfl ?_)))))))
  obtain ⟨h3, hp⟩ := hp
  refine g_iald hS.1 (mz_at hS (Nat.le_of_ble_eq_true rfl) mzcS_107) h3 ?_
  obtain ⟨h4, hp⟩ := hp
  refine g_iast (mz_at hS (Nat.le_of_ble_eq_true rfl) mzcS_227) h4 ?_
  refine g_weak ?_ (g_cl (cg_134_42 hd hS hR v1 v3 (mz_wI (mz_wI N 227 (v3 + 2) (mz_gI N 106 v1)) 227 (v3 + 3) (mz_gI (mz_wI N 227 (v3 + 2) (mz_gI N 106 v1)) 107 v1)) hr hp hC))
  exact ⟨rfl, rfl, rfl, rfl, trivial⟩
theorem cg_134_0 (hd : 1 ≤ d) (hS : mz_extR S 232) (hR : mz_rok R 232)  (v1 : Int32) (v3 : Int32) (N : mz_N) {C0 : (mz_N) → Prop} (hr : ∀ (N2 : mz_N), C0 N2 → Q (.inl none) (mz_k S R N2 b t)) (hp : cp_134_0 v1 v3 N) (hC : C0 (cf_134_0 v1 v3 N)) : mz_G (d, mz_X0 L xs, none, [], mk_134, 4, Q) 0 mk_134 [(0, .ref 100), (1, .int v1), (2, .ref 227), (3, .int v3)] [] true (mz_k S R N b t) := by
  unfold cf_134_0 at hC
  unfold cp_134_0 at hp
  refine g_aload_n rfl (g_iload_n rfl (g_aload_n rfl (g_getR (mz_at hS (Nat.le_of_ble_eq_true rfl) mzcS_100) mzcf_0_3 (mz_rb hR (Nat.le_of_ble_eq_true rfl) rfl mzcR_100_3) (g_iload_n rfl ?_))))
  obtain ⟨h1, hp⟩ := hp
  refine g_iald hS.1 (mz_at hS (Nat.le_of_ble_eq_true rfl) mzcS_104) h1 ?_
  obtain ⟨h2, hp⟩ := hp
  refine g_iast (mz_at hS (Nat.le_of_ble_eq_true rfl) mzcS_227) h2 (g_aload_n rfl (g_iload_n rfl (g_iconst mzi_1 (g_iadd (g_aload_n rfl (g_getR (mz_at hS (Nat.le_of_ble_eq_true rfl) mzcS_100) mzcf_0_4 (mz_rb hR (Nat.le_of_ble_eq_true rfl) rfl mzcR_100_4) (g_iload_n rfl ?_)))))))
  obtain ⟨h3, hp⟩ := hp
  refine g_iald hS.1 (mz_at hS (Nat.le_of_ble_eq_true rfl) mzcS_105) h3 ?_
  obtain ⟨h4, hp⟩ := hp
  refine g_iast (mz_at hS (Nat.le_of_ble_eq_true rfl) mzcS_227) h4 ?_
  refine g_weak ?_ (g_cl (cg_134_20 hd hS hR v1 v3 (mz_wI (mz_wI N 227 v3 (mz_gI N 104 v1)) 227 (v3 + 1) (mz_gI (mz_wI N 227 v3 (mz_gI N 104 v1)) 105 v1)) hr hp hC))
  exact ⟨rfl, rfl, rfl, rfl, trivial⟩
theorem cs_134 (hd : 2 ≤ d) (hS : mz_extR S 232) (hR : mz_rok R 232)  (v1 : Int32) (v3 : Int32) (N : mz_N) (hp : cp_134_0 v1 v3 N) (hq : Q (.inl none) (mz_k S R (cf_134_0 v1 v3 N) b t)) : mz_Ed (mz_X0 L xs) d 134 [.ref 100, .int v1, .ref 227, .int v3] (mz_k S R N b t) Q :=
  by
  refine g_in mzq_134 (Nat.le_of_ble_eq_true rfl) (Nat.le_of_ble_eq_true rfl) (Nat.le_trans (Nat.le_of_ble_eq_true rfl) hd) ?_
  refine g_weak ?_ (cg_134_0 (d := d - 1) (by omega) hS hR v1 v3 N (C0 := fun z => Q (.inl none) (mz_k S R z b t)) (fun _ h => h) hp hq)
  exact ⟨rfl, rfl, rfl, rfl, trivial⟩
/-! 135 KeptHouse$Watch.writePoint (I[II)V -/
theorem ms_135_0 : mz_sf mk_135 0 = mk_135 := mz_sf_zero _
theorem ms_135_20 : mz_sf mk_135 20 = mt_135_20 := mz_sf_add ms_135_0 (t := 20) rfl rfl
set_option maxRecDepth 100000 in
theorem mzq_135 : mz_PG0 135 = some (10, ⟨"KeptHouse$Watch", "writePoint", "(I[II)V"⟩, prog_12_method_8_code, 4, none, [], mk_135, []) := rfl
theorem cg_135_20 (hd : 0 ≤ d) (hS : mz_extR S 232) (hR : mz_rok R 232)  (v1 : Int32) (v3 : Int32) (N : mz_N) {C0 : (mz_N) → Prop} (hr : ∀ (N2 : mz_N), C0 N2 → Q (.inl none) (mz_k S R N2 b t)) (hp : cp_135_20 v1 v3 N) (hC : C0 (cf_135_20 v1 v3 N)) : mz_G (d, mz_X0 L xs, none, [], mk_135, 4, Q) 20 mt_135_20 [(0, .ref 81), (1, .int v1), (2, .ref 227), (3, .int v3)] [] false (mz_k S R N b t) := by
  unfold cf_135_20 at hC
  unfold cp_135_20 at hp
  refine g_aload_n rfl (g_iload_n rfl (g_iconst mzi_2 (g_iadd (g_aload_n rfl (g_getR (mz_at hS (Nat.le_of_ble_eq_true rfl) mzcS_81) mzcf_10_6 (mz_rb hR (Nat.le_of_ble_eq_true rfl) rfl mzcR_81_6) (g_iload_n rfl ?_))))))
  obtain ⟨h1, hp⟩ := hp
  refine g_iald hS.1 (mz_at hS (Nat.le_of_ble_eq_true rfl) mzcS_89) h1 ?_
  have h2 := hp
  refine g_iast (mz_at hS (Nat.le_of_ble_eq_true rfl) mzcS_227) h2 ?_
  exact g_vret rfl (hr _ hC)
theorem cg_135_0 (hd : 0 ≤ d) (hS : mz_extR S 232) (hR : mz_rok R 232)  (v1 : Int32) (v3 : Int32) (N : mz_N) {C0 : (mz_N) → Prop} (hr : ∀ (N2 : mz_N), C0 N2 → Q (.inl none) (mz_k S R N2 b t)) (hp : cp_135_0 v1 v3 N) (hC : C0 (cf_135_0 v1 v3 N)) : mz_G (d, mz_X0 L xs, none, [], mk_135, 4, Q) 0 mk_135 [(0, .ref 81), (1, .int v1), (2, .ref 227), (3, .int v3)] [] true (mz_k S R N b t) := by
  unfold cf_135_0 at hC
  unfold cp_135_0 at hp
  refine g_aload_n rfl (g_iload_n rfl (g_aload_n rfl (g_getR (mz_at hS (Nat.le_of_ble_eq_true rfl) mzcS_81) mzcf_10_4 (mz_rb hR (Nat.le_of_ble_eq_true rfl) rfl mzcR_81_4) (g_iload_n rfl ?_))))
  obtain ⟨h1, hp⟩ := hp
  refine g_iald hS.1 (mz_at hS (Nat.le_of_ble_eq_true rfl) mzcS_87) h1 ?_
  obtain ⟨h2, hp⟩ := hp
  refine g_iast (mz_at hS (Nat.le_of_ble_eq_true rfl) mzcS_227) h2 (g_aload_n rfl (g_iload_n rfl (g_iconst mzi_1 (g_iadd (g_aload_n rfl (g_getR (mz_at hS (Nat.le_of_ble_eq_true rfl) mzcS_81) mzcf_10_5 (mz_rb hR (Nat.le_of_ble_eq_true rfl) rfl mzcR_81_5) (g_iload_n rfl ?_)))))))
  obtain ⟨h3, hp⟩ := hp
  refine g_iald hS.1 (mz_at hS (Nat.le_of_ble_eq_true rfl) mzcS_88) h3 ?_
  obtain ⟨h4, hp⟩ := hp
  refine g_iast (mz_at hS (Nat.le_of_ble_eq_true rfl) mzcS_227) h4 ?_
  refine g_weak ?_ (g_cl (cg_135_20 hd hS hR v1 v3 (mz_wI (mz_wI N 227 v3 (mz_gI N 87 v1)) 227 (v3 + 1) (mz_gI (mz_wI N 227 v3 (mz_gI N 87 v1)) 88 v1)) hr hp hC))
  exact ⟨rfl, rfl, rfl, rfl, trivial⟩
theorem cs_135 (hd : 1 ≤ d) (hS : mz_extR S 232) (hR : mz_rok R 232)  (v1 : Int32) (v3 : Int32) (N : mz_N) (hp : cp_135_0 v1 v3 N) (hq : Q (.inl none) (mz_k S R (cf_135_0 v1 v3 N) b t)) : mz_Ed (mz_X0 L xs) d 135 [.ref 81, .int v1, .ref 227, .int v3] (mz_k S R N b t) Q :=
  by
  refine g_in mzq_135 (Nat.le_of_ble_eq_true rfl) (Nat.le_of_ble_eq_true rfl) (Nat.le_trans (Nat.le_of_ble_eq_true rfl) hd) ?_
  refine g_weak ?_ (cg_135_0 (d := d - 1) (by omega) hS hR v1 v3 N (C0 := fun z => Q (.inl none) (mz_k S R z b t)) (fun _ h => h) hp hq)
  exact ⟨rfl, rfl, rfl, rfl, trivial⟩
end Fn5
