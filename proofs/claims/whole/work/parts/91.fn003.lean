/-! THE FUNCTIONS: written by program: each method comes to its function. -/
section Fn3
variable {L : Nat} {xs : Nat → Int32} {d : Nat} {S : mz_S} {R : Nat → Nat → Option Nat} {Q : mz_Q} {N : mz_N} {b : Bool} {t : Nat}
/-! 80 KeptHouse$Plan.neighbour (II)I -/
theorem ms_80_0 : mz_sf mk_80 0 = mk_80 := mz_sf_zero _
theorem ms_80_39 : mz_sf mk_80 39 = mt_80_39 := mz_sf_add ms_80_0 (t := 39) rfl rfl
theorem ms_80_42 : mz_sf mk_80 42 = mt_80_42 := mz_sf_add ms_80_39 (t := 3) rfl rfl
theorem ms_80_43 : mz_sf mk_80 43 = mt_80_43 := mz_sf_add ms_80_42 (t := 1) rfl rfl
theorem ms_80_56 : mz_sf mk_80 56 = mt_80_56 := mz_sf_add ms_80_43 (t := 13) rfl rfl
theorem ms_80_59 : mz_sf mk_80 59 = mt_80_59 := mz_sf_add ms_80_56 (t := 3) rfl rfl
theorem ms_80_60 : mz_sf mk_80 60 = mt_80_60 := mz_sf_add ms_80_59 (t := 1) rfl rfl
theorem ms_80_70 : mz_sf mk_80 70 = mt_80_70 := mz_sf_add ms_80_60 (t := 10) rfl rfl
theorem ms_80_74 : mz_sf mk_80 74 = mt_80_74 := mz_sf_add ms_80_70 (t := 4) rfl rfl
theorem ms_80_75 : mz_sf mk_80 75 = mt_80_75 := mz_sf_add ms_80_74 (t := 1) rfl rfl
theorem ms_80_91 : mz_sf mk_80 91 = mt_80_91 := mz_sf_add ms_80_75 (t := 16) rfl rfl
theorem ms_80_92 : mz_sf mk_80 92 = mt_80_92 := mz_sf_add ms_80_91 (t := 1) rfl rfl
set_option maxRecDepth 100000 in
theorem mzq_80 : mz_PG0 80 = some (5, ⟨"KeptHouse$Plan", "neighbour", "(II)I"⟩, prog_7_method_7_code, 2, some .int, [], mk_80, []) := rfl
theorem cg_80_0 (hd : 0 ≤ d) (hS : mz_extR S 232) (hR : mz_rok R 232)  (v0 : Int32) (v1 : Int32) {C0 : (Int32) → Prop} (hr : ∀ (w : Int32), C0 w → Q (.inl (some (.int w))) (mz_k S R N b t)) (hp : cp_80_0 v0 v1) (hC : C0 (cf_80_0 v0 v1)) : mz_G (d, mz_X0 L xs, some .int, [], mk_80, 2, Q) 0 mk_80 [(0, .int v0), (1, .int v1)] [] true (mz_k S R N b t) := by
  unfold cf_80_0 at hC
  unfold cp_80_0 at hp
  refine g_iload_n rfl ?_
  refine mz_cs hC (fun h1 hC => ?_) (fun h1 hC => ?_)
  · refine g_brn (tg := 28) (by rw [h1]; rfl) (by decide) rfl ?_
    refine g_iload_n rfl (g_bipush mzb_8 (g_irem (by decide) ?_))
    refine g_ifne (tg := 39) rfl ms_80_39 hC (fun h7 hC => ?_) (fun h7 hC => ?_)
    · refine g_iconst mzi_m1 (g_goto (tg := 42) rfl ms_80_42 ?_)
      exact g_iret rfl (hr _ hC)
    · refine g_iload_n rfl (g_iconst mzi_1 (g_isub ?_))
      exact g_iret rfl (hr _ hC)
  · refine mz_cs hC (fun h2 hC => ?_) (fun h2 hC => ?_)
    · refine g_br (tg := 43) (by rw [h2]; rfl) ms_80_43 ?_
      refine g_iload_n rfl (g_bipush mzb_8 (g_irem (by decide) (g_bipush mzb_7 ?_)))
      refine g_icne (tg := 56) rfl ms_80_56 hC (fun h6 hC => ?_) (fun h6 hC => ?_)
      · refine g_iconst mzi_m1 (g_goto (tg := 59) rfl ms_80_59 ?_)
        exact g_iret rfl (hr _ hC)
      · refine g_iload_n rfl (g_iconst mzi_1 (g_iadd ?_))
        exact g_iret rfl (hr _ hC)
    · refine mz_cs hC (fun h3 hC => ?_) (fun h3 hC => ?_)
      · refine g_br (tg := 60) (by rw [h3]; rfl) ms_80_60 ?_
        refine g_iload_n rfl (g_bipush mzb_8 ?_)
        refine g_icge (tg := 70) rfl ms_80_70 hC (fun h5 hC => ?_) (fun h5 hC => ?_)
        · refine g_iconst mzi_m1 (g_goto (tg := 74) rfl ms_80_74 ?_)
          exact g_iret rfl (hr _ hC)
        · refine g_iload_n rfl (g_bipush mzb_8 (g_isub ?_))
          exact g_iret rfl (hr _ hC)
      · refine g_br (tg := 75) ((mz_tsw_d (l := [0, 1, 2]) (mz_rng 0 2) ⟨h1, h2, h3, trivial⟩).trans (mz_tg_t rfl)) ms_80_75 ?_
        refine g_iload_n rfl (g_bipush mzb_8 (g_iadd (g_bipush mzb_48 ?_)))
        refine g_icge (tg := 91) rfl ms_80_91 hC (fun h4 hC => ?_) (fun h4 hC => ?_)
        · refine g_iload_n rfl (g_bipush mzb_8 (g_iadd (g_goto (tg := 92) rfl ms_80_92 ?_)))
          exact g_iret rfl (hr _ hC)
        · refine g_iconst mzi_m1 ?_
          exact g_iret rfl (hr _ hC)
theorem cs_80 (hd : 1 ≤ d) (hS : mz_extR S 232) (hR : mz_rok R 232)  (v0 : Int32) (v1 : Int32) (hp : cp_80_0 v0 v1) (hq : Q (.inl (some (.int (cf_80_0 v0 v1)))) (mz_k S R N b t)) : mz_Ed (mz_X0 L xs) d 80 [.int v0, .int v1] (mz_k S R N b t) Q :=
  by
  refine g_in mzq_80 (Nat.le_of_ble_eq_true rfl) (Nat.le_of_ble_eq_true rfl) (Nat.le_trans (Nat.le_of_ble_eq_true rfl) hd) ?_
  refine g_weak ?_ (cg_80_0 (d := d - 1) (by omega) hS hR v0 v1 (C0 := fun z => Q (.inl (some (.int z))) (mz_k S R N b t)) (fun _ h => h) hp hq)
  exact ⟨rfl, rfl, trivial⟩
/-! 81 KeptHouse$Plan.edgeAt (II)I -/
theorem ms_81_0 : mz_sf mk_81 0 = mk_81 := mz_sf_zero _
theorem ms_81_43 : mz_sf mk_81 43 = mt_81_43 := mz_sf_add ms_81_0 (t := 43) rfl rfl
theorem ms_81_52 : mz_sf mk_81 52 = mt_81_52 := mz_sf_add ms_81_43 (t := 9) rfl rfl
theorem ms_81_57 : mz_sf mk_81 57 = mt_81_57 := mz_sf_add ms_81_52 (t := 5) rfl rfl
set_option maxRecDepth 100000 in
theorem mzq_81 : mz_PG0 81 = some (5, ⟨"KeptHouse$Plan", "edgeAt", "(II)I"⟩, prog_7_method_6_code, 4, some .int, [], mk_81, []) := rfl
theorem cg_81_0 (hd : 0 ≤ d) (hS : mz_extR S 232) (hR : mz_rok R 232)  (v0 : Int32) (v1 : Int32) {C0 : (Int32) → Prop} (hr : ∀ (w : Int32), C0 w → Q (.inl (some (.int w))) (mz_k S R N b t)) (hp : cp_81_0 v0 v1) (hC : C0 (cf_81_0 v0 v1)) : mz_G (d, mz_X0 L xs, some .int, [], mk_81, 4, Q) 0 mk_81 [(0, .int v0), (1, .int v1)] [] true (mz_k S R N b t) := by
  unfold cf_81_0 at hC
  unfold cp_81_0 at hp
  refine g_iload_n rfl (g_bipush mzb_8 (g_irem (by decide) (g_istore_n (Nat.le_of_ble_eq_true rfl) rfl (g_iload_n rfl (g_bipush mzb_8 (g_idiv (by decide) (g_istore_n (Nat.le_of_ble_eq_true rfl) rfl ?_)))))))
  refine g_iload_n rfl ?_
  refine mz_cs hC (fun h1 hC => ?_) (fun h1 hC => ?_)
  · refine g_brn (tg := 36) (by rw [h1]; rfl) (by decide) rfl ?_
    refine g_iload_n rfl (g_bipush mzb_9 (g_imul (g_iload_n rfl (g_iadd ?_))))
    exact g_iret rfl (hr _ hC)
  · refine mz_cs hC (fun h2 hC => ?_) (fun h2 hC => ?_)
    · refine g_br (tg := 43) (by rw [h2]; rfl) ms_81_43 ?_
      refine g_iload_n rfl (g_bipush mzb_9 (g_imul (g_iload_n rfl (g_iadd (g_iconst mzi_1 (g_iadd ?_))))))
      exact g_iret rfl (hr _ hC)
    · refine mz_cs hC (fun h3 hC => ?_) (fun h3 hC => ?_)
      · refine g_br (tg := 52) (by rw [h3]; rfl) ms_81_52 ?_
        refine g_bipush mzb_54 (g_iload_n rfl (g_iadd ?_))
        exact g_iret rfl (hr _ hC)
      · refine g_br (tg := 57) ((mz_tsw_d (l := [0, 1, 2]) (mz_rng 0 2) ⟨h1, h2, h3, trivial⟩).trans (mz_tg_t rfl)) ms_81_57 ?_
        refine g_bipush mzb_54 (g_iload_n rfl (g_iadd (g_bipush mzb_8 (g_iadd ?_))))
        exact g_iret rfl (hr _ hC)
theorem cs_81 (hd : 1 ≤ d) (hS : mz_extR S 232) (hR : mz_rok R 232)  (v0 : Int32) (v1 : Int32) (hp : cp_81_0 v0 v1) (hq : Q (.inl (some (.int (cf_81_0 v0 v1)))) (mz_k S R N b t)) : mz_Ed (mz_X0 L xs) d 81 [.int v0, .int v1] (mz_k S R N b t) Q :=
  by
  refine g_in mzq_81 (Nat.le_of_ble_eq_true rfl) (Nat.le_of_ble_eq_true rfl) (Nat.le_trans (Nat.le_of_ble_eq_true rfl) hd) ?_
  refine g_weak ?_ (cg_81_0 (d := d - 1) (by omega) hS hR v0 v1 (C0 := fun z => Q (.inl (some (.int z))) (mz_k S R N b t)) (fun _ h => h) hp hq)
  exact ⟨rfl, rfl, trivial⟩
/-! 79 KeptHouse$Plan.flood ([I[III)V -/
theorem ms_79_0 : mz_sf mk_79 0 = mk_79 := mz_sf_zero _
theorem ms_79_21 : mz_sf mk_79 21 = mt_79_21 := mz_sf_add ms_79_0 (t := 21) rfl rfl
theorem ms_79_27 : mz_sf mk_79 27 = mt_79_27 := mz_sf_add ms_79_21 (t := 6) rfl rfl
theorem ms_79_44 : mz_sf mk_79 44 = mt_79_44 := mz_sf_add ms_79_27 (t := 17) rfl rfl
theorem ms_79_70 : mz_sf mk_79 70 = mt_79_70 := mz_sf_add ms_79_44 (t := 26) rfl rfl
theorem ms_79_91 : mz_sf mk_79 91 = mt_79_91 := mz_sf_add ms_79_70 (t := 21) rfl rfl
theorem ms_79_114 : mz_sf mk_79 114 = mt_79_114 := mz_sf_add ms_79_91 (t := 23) rfl rfl
theorem ms_79_135 : mz_sf mk_79 135 = mt_79_135 := mz_sf_add ms_79_114 (t := 21) rfl rfl
theorem ms_79_138 : mz_sf mk_79 138 = mt_79_138 := mz_sf_add ms_79_135 (t := 3) rfl rfl
theorem ms_79_144 : mz_sf mk_79 144 = mt_79_144 := mz_sf_add ms_79_138 (t := 6) rfl rfl
theorem ms_79_150 : mz_sf mk_79 150 = mt_79_150 := mz_sf_add ms_79_144 (t := 6) rfl rfl
set_option maxRecDepth 100000 in
theorem mzq_79 : mz_PG0 79 = some (5, ⟨"KeptHouse$Plan", "flood", "([I[III)V"⟩, prog_7_method_24_code, 10, none, [], mk_79, []) := rfl
theorem cg_79_138 (hd : 1 ≤ d) (hS : mz_extR S 232) (hR : mz_rok R 232) (a1 : Nat) (a2 : Nat) (hs1 : S[a1]? = some (0, 550, [])) (hs2 : S[a2]? = some (0, 240, [])) (v4 : Int32) (v5 : Int32) (v6 : Int32) (v7 : Int32) (v8 : Int32) (N : mz_N) {C0 : (mz_N) → Prop} (hr : ∀ (N2 : mz_N), C0 N2 → Q (.inl none) (mz_k S R N2 b t)) {C1 : ((Int32 × Int32 × mz_N) ⊕ (mz_N)) → Prop} (hc1 : ∀ s2, C1 (.inl s2) → mz_G (d, mz_X0 L xs, none, [], mk_79, 10, Q) 27 mt_79_27 [(0, .ref 2), (1, .ref a1), (2, .ref a2), (4, .int v4), (5, .int v5), (6, .int s2.1), (7, .int s2.2.1)] [] false (mz_k S R s2.2.2 b t)) (hx1 : ∀ z, C1 (.inr z) → C0 z) {C2 : ((Int32 × Int32 × mz_N) ⊕ ((Int32 × Int32 × mz_N) ⊕ (mz_N))) → Prop} (hc2 : ∀ s2, C2 (.inl s2) → mz_G (d, mz_X0 L xs, none, [], mk_79, 10, Q) 44 mt_79_44 [(0, .ref 2), (1, .ref a1), (2, .ref a2), (4, .int v4), (5, .int v5), (6, .int s2.1), (7, .int v7), (8, .int s2.2.1)] [] false (mz_k S R s2.2.2 b t)) (hx2 : ∀ z, C2 (.inr z) → C1 z) (hp : cp_79_138 a1 a2 v4 v5 v6 v7 v8 N) (hC : C2 (cf_79_138 a1 a2 v4 v5 v6 v7 v8 N)) : mz_G (d, mz_X0 L xs, none, [], mk_79, 10, Q) 138 mt_79_138 [(0, .ref 2), (1, .ref a1), (2, .ref a2), (4, .int v4), (5, .int v5), (6, .int v6), (7, .int v7), (8, .int v8)] [] false (mz_k S R N b t) := by
  unfold cf_79_138 at hC
  unfold cp_79_138 at hp
  refine g_iinc rfl mzi_1 (Nat.le_of_ble_eq_true rfl) rfl (g_goto (tg := 44) rfl ms_79_44 ?_)
  refine g_weak ?_ (g_cl (hc2 (v6, (v8 + 1), N) hC))
  exact ⟨rfl, rfl, rfl, rfl, rfl, rfl, rfl, rfl, trivial⟩
theorem cg_79_135 (hd : 1 ≤ d) (hS : mz_extR S 232) (hR : mz_rok R 232) (a1 : Nat) (a2 : Nat) (hs1 : S[a1]? = some (0, 550, [])) (hs2 : S[a2]? = some (0, 240, [])) (v4 : Int32) (v5 : Int32) (v6 : Int32) (v7 : Int32) (v8 : Int32) (N : mz_N) {C0 : (mz_N) → Prop} (hr : ∀ (N2 : mz_N), C0 N2 → Q (.inl none) (mz_k S R N2 b t)) {C1 : ((Int32 × Int32 × mz_N) ⊕ (mz_N)) → Prop} (hc1 : ∀ s2, C1 (.inl s2) → mz_G (d, mz_X0 L xs, none, [], mk_79, 10, Q) 27 mt_79_27 [(0, .ref 2), (1, .ref a1), (2, .ref a2), (4, .int v4), (5, .int v5), (6, .int s2.1), (7, .int s2.2.1)] [] false (mz_k S R s2.2.2 b t)) (hx1 : ∀ z, C1 (.inr z) → C0 z) {C2 : ((Int32 × Int32 × mz_N) ⊕ ((Int32 × Int32 × mz_N) ⊕ (mz_N))) → Prop} (hc2 : ∀ s2, C2 (.inl s2) → mz_G (d, mz_X0 L xs, none, [], mk_79, 10, Q) 44 mt_79_44 [(0, .ref 2), (1, .ref a1), (2, .ref a2), (4, .int v4), (5, .int v5), (6, .int s2.1), (7, .int v7), (8, .int s2.2.1)] [] false (mz_k S R s2.2.2 b t)) (hx2 : ∀ z, C2 (.inr z) → C1 z) (hp : cp_79_135 a1 a2 v4 v5 v6 v7 v8 N) (hC : C2 (cf_79_135 a1 a2 v4 v5 v6 v7 v8 N)) : mz_G (d, mz_X0 L xs, none, [], mk_79, 10, Q) 135 mt_79_135 [(0, .ref 2), (1, .ref a1), (2, .ref a2), (4, .int v4), (5, .int v5), (6, .int v6), (7, .int v7), (8, .int v8)] [] false (mz_k S R N b t) := by
  unfold cf_79_135 at hC
  unfold cp_79_135 at hp
  refine g_iinc rfl mzi_1 (Nat.le_of_ble_eq_true rfl) rfl ?_
  refine g_weak ?_ (g_cl (cg_79_138 hd hS hR a1 a2 hs1 hs2 v4 v5 (v6 + 1) v7 v8 N hr hc1 hx1 hc2 hx2 hp hC))
  exact ⟨rfl, rfl, rfl, rfl, rfl, rfl, rfl, rfl, trivial⟩
theorem cb_79_44 (hd : 1 ≤ d) (hS : mz_extR S 232) (hR : mz_rok R 232) (a1 : Nat) (a2 : Nat) (hs1 : S[a1]? = some (0, 550, [])) (hs2 : S[a2]? = some (0, 240, [])) (v4 : Int32) (v5 : Int32) (v7 : Int32) (s : Int32 × Int32 × mz_N) {C0 : (mz_N) → Prop} (hr : ∀ (N2 : mz_N), C0 N2 → Q (.inl none) (mz_k S R N2 b t)) {C1 : ((Int32 × Int32 × mz_N) ⊕ (mz_N)) → Prop} (hc1 : ∀ s2, C1 (.inl s2) → mz_G (d, mz_X0 L xs, none, [], mk_79, 10, Q) 27 mt_79_27 [(0, .ref 2), (1, .ref a1), (2, .ref a2), (4, .int v4), (5, .int v5), (6, .int s2.1), (7, .int s2.2.1)] [] false (mz_k S R s2.2.2 b t)) (hx1 : ∀ z, C1 (.inr z) → C0 z) {C2 : ((Int32 × Int32 × mz_N) ⊕ ((Int32 × Int32 × mz_N) ⊕ (mz_N))) → Prop} (hc2 : ∀ s2, C2 (.inl s2) → mz_G (d, mz_X0 L xs, none, [], mk_79, 10, Q) 44 mt_79_44 [(0, .ref 2), (1, .ref a1), (2, .ref a2), (4, .int v4), (5, .int v5), (6, .int s2.1), (7, .int v7), (8, .int s2.2.1)] [] false (mz_k S R s2.2.2 b t)) (hx2 : ∀ z, C2 (.inr z) → C1 z) (hp : cd_79_44 a1 a2 v4 v5 v7 s) (hC : C2 (cq_79_44 a1 a2 v4 v5 v7 s)) : mz_G (d, mz_X0 L xs, none, [], mk_79, 10, Q) 44 mt_79_44 [(0, .ref 2), (1, .ref a1), (2, .ref a2), (4, .int v4), (5, .int v5), (6, .int s.1), (7, .int v7), (8, .int s.2.1)] [] false (mz_k S R s.2.2 b t) := by
  unfold cq_79_44 at hC
  unfold cd_79_44 at hp
  refine g_iload rfl (g_iconst mzi_4 ?_)
  refine g_icge (tg := 144) rfl ms_79_144 hC (fun h1 hC => ?_) (fun h1 hC => ?_)
  · have hp := hp.1 h1
    refine g_aload_n rfl (g_getR (mz_at hS (Nat.le_of_ble_eq_true rfl) mzcS_2) mzcf_5_6 (mz_rb hR (Nat.le_of_ble_eq_true rfl) rfl mzcR_2_6) (g_iload rfl ?_))
    obtain ⟨h2, hp⟩ := hp
    refine g_iald hS.1 (mz_at hS (Nat.le_of_ble_eq_true rfl) mzcS_14) h2 (g_iload rfl ?_)
    refine g_s2v (Nat.le_of_ble_eq_true rfl) (fun _ hq => cs_80 (Nat.le_trans (Nat.le_of_ble_eq_true rfl) hd) (hS.le (Nat.le_of_ble_eq_true rfl)) (hR.le (Nat.le_of_ble_eq_true rfl))  (mz_gI s.2.2 14 v7) s.2.1 trivial hq) (g_istore (Nat.le_of_ble_eq_true rfl) rfl (g_iload rfl (g_iconst mzi_m1 ?_)))
    refine g_iceq (tg := 138) rfl ms_79_138 hC (fun h4 hC => ?_) (fun h4 hC => ?_)
    · have hp := hp.1 h4
      refine g_weak ?_ (g_cl (cg_79_138 hd hS hR a1 a2 hs1 hs2 v4 v5 s.1 v7 s.2.1 s.2.2 hr hc1 hx1 hc2 hx2 hp hC))
      exact ⟨rfl, rfl, rfl, rfl, rfl, rfl, rfl, rfl, trivial⟩
    · have hp := hp.2 h4
      refine g_iload rfl (g_bipush mzb_48 ?_)
      refine g_icge (tg := 138) rfl ms_79_138 hC (fun h5 hC => ?_) (fun h5 hC => ?_)
      · have hp := hp.1 h5
        refine g_aload_n rfl (g_iload rfl (g_bipush mzb_48 (g_imul (g_iload rfl (g_iadd ?_)))))
        obtain ⟨h6, hp⟩ := hp
        refine g_iald hS.1 hs2 h6 (g_iconst mzi_m1 ?_)
        refine g_icne (tg := 138) rfl ms_79_138 hC (fun h7 hC => ?_) (fun h7 hC => ?_)
        · have hp := hp.1 h7
          refine g_aload_n rfl (g_iload rfl (g_bipush mzb_110 (g_imul (g_aload_n rfl (g_getR (mz_at hS (Nat.le_of_ble_eq_true rfl) mzcS_2) mzcf_5_6 (mz_rb hR (Nat.le_of_ble_eq_true rfl) rfl mzcR_2_6) (g_iload rfl ?_))))))
          obtain ⟨h8, hp⟩ := hp
          refine g_iald hS.1 (mz_at hS (Nat.le_of_ble_eq_true rfl) mzcS_14) h8 (g_iload rfl ?_)
          refine g_s2v (Nat.le_of_ble_eq_true rfl) (fun _ hq => cs_81 (Nat.le_trans (Nat.le_of_ble_eq_true rfl) hd) (hS.le (Nat.le_of_ble_eq_true rfl)) (hR.le (Nat.le_of_ble_eq_true rfl))  (mz_gI s.2.2 14 v7) s.2.1 trivial hq) (g_iadd ?_)
          obtain ⟨h10, hp⟩ := hp
          refine g_iald hS.1 hs1 h10 ?_
          refine g_ifne (tg := 138) rfl ms_79_138 hC (fun h11 hC => ?_) (fun h11 hC => ?_)
          · have hp := hp.1 h11
            refine g_aload_n rfl (g_iload rfl (g_bipush mzb_48 (g_imul (g_iload rfl (g_iadd (g_iload rfl ?_))))))
            obtain ⟨h12, hp⟩ := hp
            refine g_iast hs2 h12 (g_aload_n rfl (g_getR (mz_at hS (Nat.le_of_ble_eq_true rfl) mzcS_2) mzcf_5_6 (mz_rb hR (Nat.le_of_ble_eq_true rfl) rfl mzcR_2_6) (g_iload rfl (g_iload rfl ?_))))
            obtain ⟨h13, hp⟩ := hp
            refine g_iast (mz_at hS (Nat.le_of_ble_eq_true rfl) mzcS_14) h13 ?_
            refine g_weak ?_ (g_cl (cg_79_135 hd hS hR a1 a2 hs1 hs2 v4 v5 s.1 v7 s.2.1 (mz_wI (mz_wI s.2.2 a2 ((v5 * 48) + (cf_80_0 (mz_gI s.2.2 14 v7) s.2.1)) v4) 14 s.1 (cf_80_0 (mz_gI s.2.2 14 v7) s.2.1)) hr hc1 hx1 hc2 hx2 hp hC))
            exact ⟨rfl, rfl, rfl, rfl, rfl, rfl, rfl, rfl, trivial⟩
          · have hp := hp.2 h11
            refine g_weak ?_ (g_cl (cg_79_138 hd hS hR a1 a2 hs1 hs2 v4 v5 s.1 v7 s.2.1 s.2.2 hr hc1 hx1 hc2 hx2 hp hC))
            exact ⟨rfl, rfl, rfl, rfl, rfl, rfl, rfl, rfl, trivial⟩
        · have hp := hp.2 h7
          refine g_weak ?_ (g_cl (cg_79_138 hd hS hR a1 a2 hs1 hs2 v4 v5 s.1 v7 s.2.1 s.2.2 hr hc1 hx1 hc2 hx2 hp hC))
          exact ⟨rfl, rfl, rfl, rfl, rfl, rfl, rfl, rfl, trivial⟩
      · have hp := hp.2 h5
        refine g_weak ?_ (g_cl (cg_79_138 hd hS hR a1 a2 hs1 hs2 v4 v5 s.1 v7 s.2.1 s.2.2 hr hc1 hx1 hc2 hx2 hp hC))
        exact ⟨rfl, rfl, rfl, rfl, rfl, rfl, rfl, rfl, trivial⟩
  · have hp := hp.2 h1
    refine g_iinc rfl mzi_1 (Nat.le_of_ble_eq_true rfl) rfl (g_goto (tg := 27) rfl ms_79_27 ?_)
    refine g_weak ?_ (g_cl (hc1 (s.1, (v7 + 1), s.2.2) (hx2 _ hC)))
    exact ⟨rfl, rfl, rfl, rfl, rfl, rfl, rfl, trivial⟩
theorem cg_79_44 (hd : 1 ≤ d) (hS : mz_extR S 232) (hR : mz_rok R 232) (a1 : Nat) (a2 : Nat) (hs1 : S[a1]? = some (0, 550, [])) (hs2 : S[a2]? = some (0, 240, [])) (v4 : Int32) (v5 : Int32) (v6 : Int32) (v7 : Int32) (v8 : Int32) (N : mz_N) {C0 : (mz_N) → Prop} (hr : ∀ (N2 : mz_N), C0 N2 → Q (.inl none) (mz_k S R N2 b t)) {C1 : ((Int32 × Int32 × mz_N) ⊕ (mz_N)) → Prop} (hc1 : ∀ s2, C1 (.inl s2) → mz_G (d, mz_X0 L xs, none, [], mk_79, 10, Q) 27 mt_79_27 [(0, .ref 2), (1, .ref a1), (2, .ref a2), (4, .int v4), (5, .int v5), (6, .int s2.1), (7, .int s2.2.1)] [] false (mz_k S R s2.2.2 b t)) (hx1 : ∀ z, C1 (.inr z) → C0 z) (hp : cp_79_44 a1 a2 v4 v5 v6 v7 v8 N) (hC : C1 (cf_79_44 a1 a2 v4 v5 v6 v7 v8 N)) : mz_G (d, mz_X0 L xs, none, [], mk_79, 10, Q) 44 mt_79_44 [(0, .ref 2), (1, .ref a1), (2, .ref a2), (4, .int v4), (5, .int v5), (6, .int v6), (7, .int v7), (8, .int v8)] [] false (mz_k S R N b t) := by
  obtain ⟨n, hn⟩ := hp
  exact g_loop (G := fun s => mz_G (d, mz_X0 L xs, none, [], mk_79, 10, Q) 44 mt_79_44 [(0, .ref 2), (1, .ref a1), (2, .ref a2), (4, .int v4), (5, .int v5), (6, .int s.1), (7, .int v7), (8, .int s.2.1)] [] false (mz_k S R s.2.2 b t)) (C := C1) (fun C2 hc hx s hP hC => cb_79_44 hd hS hR a1 a2 hs1 hs2 v4 v5 v7 s hr hc1 hx1 hc hx hP hC) n (v6, v8, N) hn hC
theorem cb_79_27 (hd : 1 ≤ d) (hS : mz_extR S 232) (hR : mz_rok R 232) (a1 : Nat) (a2 : Nat) (hs1 : S[a1]? = some (0, 550, [])) (hs2 : S[a2]? = some (0, 240, [])) (v4 : Int32) (v5 : Int32) (s : Int32 × Int32 × mz_N) {C0 : (mz_N) → Prop} (hr : ∀ (N2 : mz_N), C0 N2 → Q (.inl none) (mz_k S R N2 b t)) {C1 : ((Int32 × Int32 × mz_N) ⊕ (mz_N)) → Prop} (hc1 : ∀ s2, C1 (.inl s2) → mz_G (d, mz_X0 L xs, none, [], mk_79, 10, Q) 27 mt_79_27 [(0, .ref 2), (1, .ref a1), (2, .ref a2), (4, .int v4), (5, .int v5), (6, .int s2.1), (7, .int s2.2.1)] [] false (mz_k S R s2.2.2 b t)) (hx1 : ∀ z, C1 (.inr z) → C0 z) (hp : cd_79_27 a1 a2 v4 v5 s) (hC : C1 (cq_79_27 a1 a2 v4 v5 s)) : mz_G (d, mz_X0 L xs, none, [], mk_79, 10, Q) 27 mt_79_27 [(0, .ref 2), (1, .ref a1), (2, .ref a2), (4, .int v4), (5, .int v5), (6, .int s.1), (7, .int s.2.1)] [] false (mz_k S R s.2.2 b t) := by
  unfold cq_79_27 at hC
  unfold cd_79_27 at hp
  refine g_iload rfl (g_iload rfl ?_)
  refine g_icge (tg := 150) rfl ms_79_150 hC (fun h1 hC => ?_) (fun h1 hC => ?_)
  · have hp := hp.1 h1
    refine g_iload rfl (g_bipush mzb_48 ?_)
    refine g_icge (tg := 150) rfl ms_79_150 hC (fun h2 hC => ?_) (fun h2 hC => ?_)
    · have hp := hp.1 h2
      refine g_iconst mzi_0 (g_istore (Nat.le_of_ble_eq_true rfl) rfl ?_)
      refine g_weak ?_ (g_cl (cg_79_44 hd hS hR a1 a2 hs1 hs2 v4 v5 s.1 s.2.1 0 s.2.2 hr hc1 hx1 hp hC))
      exact ⟨rfl, rfl, rfl, rfl, rfl, rfl, rfl, rfl, trivial⟩
    · have hp := hp.2 h2
      exact g_vret rfl (hr _ (hx1 _ hC))
  · have hp := hp.2 h1
    exact g_vret rfl (hr _ (hx1 _ hC))
theorem cg_79_27 (hd : 1 ≤ d) (hS : mz_extR S 232) (hR : mz_rok R 232) (a1 : Nat) (a2 : Nat) (hs1 : S[a1]? = some (0, 550, [])) (hs2 : S[a2]? = some (0, 240, [])) (v4 : Int32) (v5 : Int32) (v6 : Int32) (v7 : Int32) (N : mz_N) {C0 : (mz_N) → Prop} (hr : ∀ (N2 : mz_N), C0 N2 → Q (.inl none) (mz_k S R N2 b t)) (hp : cp_79_27 a1 a2 v4 v5 v6 v7 N) (hC : C0 (cf_79_27 a1 a2 v4 v5 v6 v7 N)) : mz_G (d, mz_X0 L xs, none, [], mk_79, 10, Q) 27 mt_79_27 [(0, .ref 2), (1, .ref a1), (2, .ref a2), (4, .int v4), (5, .int v5), (6, .int v6), (7, .int v7)] [] false (mz_k S R N b t) := by
  obtain ⟨n, hn⟩ := hp
  exact g_loop (G := fun s => mz_G (d, mz_X0 L xs, none, [], mk_79, 10, Q) 27 mt_79_27 [(0, .ref 2), (1, .ref a1), (2, .ref a2), (4, .int v4), (5, .int v5), (6, .int s.1), (7, .int s.2.1)] [] false (mz_k S R s.2.2 b t)) (C := C0) (fun C2 hc hx s hP hC => cb_79_27 hd hS hR a1 a2 hs1 hs2 v4 v5 s hr hc hx hP hC) n (v6, v7, N) hn hC
theorem cg_79_0 (hd : 1 ≤ d) (hS : mz_extR S 232) (hR : mz_rok R 232) (a1 : Nat) (a2 : Nat) (hs1 : S[a1]? = some (0, 550, [])) (hs2 : S[a2]? = some (0, 240, [])) (v3 : Int32) (v4 : Int32) (N : mz_N) {C0 : (mz_N) → Prop} (hr : ∀ (N2 : mz_N), C0 N2 → Q (.inl none) (mz_k S R N2 b t)) (hp : cp_79_0 a1 a2 v3 v4 N) (hC : C0 (cf_79_0 a1 a2 v3 v4 N)) : mz_G (d, mz_X0 L xs, none, [], mk_79, 10, Q) 0 mk_79 [(0, .ref 2), (1, .ref a1), (2, .ref a2), (3, .int v3), (4, .int v4)] [] true (mz_k S R N b t) := by
  unfold cf_79_0 at hC
  unfold cp_79_0 at hp
  refine g_iload_n rfl (g_bipush mzb_48 (g_idiv (by decide) (g_istore (Nat.le_of_ble_eq_true rfl) rfl (g_aload_n rfl (g_iload_n rfl (g_iload rfl ?_))))))
  obtain ⟨h1, hp⟩ := hp
  refine g_iast hs2 h1 (g_aload_n rfl (g_getR (mz_at hS (Nat.le_of_ble_eq_true rfl) mzcS_2) mzcf_5_6 (mz_rb hR (Nat.le_of_ble_eq_true rfl) rfl mzcR_2_6) (g_iconst mzi_0 (g_iload_n rfl (g_bipush mzb_48 (g_irem (by decide) (g_iast (mz_at hS (Nat.le_of_ble_eq_true rfl) mzcS_14) (mz_ibd (by decide)) ?_)))))))
  refine g_iconst mzi_1 (g_istore (Nat.le_of_ble_eq_true rfl) rfl (g_iconst mzi_0 (g_istore (Nat.le_of_ble_eq_true rfl) rfl ?_)))
  refine g_weak ?_ (g_cl (cg_79_27 hd hS hR a1 a2 hs1 hs2 v4 (v3 / 48) 1 0 (mz_wI (mz_wI N a2 v3 v4) 14 0 (mz_irem v3 48)) hr hp hC))
  exact ⟨rfl, rfl, rfl, rfl, rfl, rfl, rfl, trivial⟩
theorem cs_79 (hd : 2 ≤ d) (hS : mz_extR S 232) (hR : mz_rok R 232) (a1 : Nat) (a2 : Nat) (hs1 : S[a1]? = some (0, 550, [])) (hs2 : S[a2]? = some (0, 240, [])) (v3 : Int32) (v4 : Int32) (N : mz_N) (hp : cp_79_0 a1 a2 v3 v4 N) (hq : Q (.inl none) (mz_k S R (cf_79_0 a1 a2 v3 v4 N) b t)) : mz_Ed (mz_X0 L xs) d 79 [.ref 2, .ref a1, .ref a2, .int v3, .int v4] (mz_k S R N b t) Q :=
  by
  refine g_in mzq_79 (Nat.le_of_ble_eq_true rfl) (Nat.le_of_ble_eq_true rfl) (Nat.le_trans (Nat.le_of_ble_eq_true rfl) hd) ?_
  refine g_weak ?_ (cg_79_0 (d := d - 1) (by omega) hS hR a1 a2 hs1 hs2 v3 v4 N (C0 := fun z => Q (.inl none) (mz_k S R z b t)) (fun _ h => h) hp hq)
  exact ⟨rfl, rfl, rfl, rfl, rfl, trivial⟩
/-! 78 KeptHouse$Plan.divide ([I[I)I -/
theorem ms_78_0 : mz_sf mk_78 0 = mk_78 := mz_sf_zero _
theorem ms_78_10 : mz_sf mk_78 10 = mt_78_10 := mz_sf_add ms_78_0 (t := 10) rfl rfl
theorem ms_78_35 : mz_sf mk_78 35 = mt_78_35 := mz_sf_add ms_78_10 (t := 25) rfl rfl
theorem ms_78_38 : mz_sf mk_78 38 = mt_78_38 := mz_sf_add ms_78_35 (t := 3) rfl rfl
theorem ms_78_44 : mz_sf mk_78 44 = mt_78_44 := mz_sf_add ms_78_38 (t := 6) rfl rfl
set_option maxRecDepth 100000 in
theorem mzq_78 : mz_PG0 78 = some (5, ⟨"KeptHouse$Plan", "divide", "([I[I)I"⟩, prog_7_method_23_code, 5, some .int, [], mk_78, []) := rfl
theorem cg_78_38 (hd : 2 ≤ d) (hS : mz_extR S 232) (hR : mz_rok R 232) (a1 : Nat) (a2 : Nat) (hs1 : S[a1]? = some (0, 550, [])) (hs2 : S[a2]? = some (0, 240, [])) (v3 : Int32) (v4 : Int32) (N : mz_N) {C0 : (Int32 × mz_N) → Prop} (hr : ∀ (w : Int32) (N2 : mz_N), C0 (w, N2) → Q (.inl (some (.int w))) (mz_k S R N2 b t)) {C1 : ((Int32 × Int32 × mz_N) ⊕ (Int32 × mz_N)) → Prop} (hc1 : ∀ s2, C1 (.inl s2) → mz_G (d, mz_X0 L xs, some .int, [], mk_78, 5, Q) 10 mt_78_10 [(0, .ref 2), (1, .ref a1), (2, .ref a2), (3, .int s2.1), (4, .int s2.2.1)] [] false (mz_k S R s2.2.2 b t)) (hx1 : ∀ z, C1 (.inr z) → C0 z) (hp : cp_78_38 a1 a2 v3 v4 N) (hC : C1 (cf_78_38 a1 a2 v3 v4 N)) : mz_G (d, mz_X0 L xs, some .int, [], mk_78, 5, Q) 38 mt_78_38 [(0, .ref 2), (1, .ref a1), (2, .ref a2), (3, .int v3), (4, .int v4)] [] false (mz_k S R N b t) := by
  unfold cf_78_38 at hC
  unfold cp_78_38 at hp
  refine g_iinc rfl mzi_1 (Nat.le_of_ble_eq_true rfl) rfl (g_goto (tg := 10) rfl ms_78_10 ?_)
  refine g_weak ?_ (g_cl (hc1 (v3, (v4 + 1), N) hC))
  exact ⟨rfl, rfl, rfl, rfl, rfl, trivial⟩
theorem cb_78_10 (hd : 2 ≤ d) (hS : mz_extR S 232) (hR : mz_rok R 232) (a1 : Nat) (a2 : Nat) (hs1 : S[a1]? = some (0, 550, [])) (hs2 : S[a2]? = some (0, 240, []))  (s : Int32 × Int32 × mz_N) {C0 : (Int32 × mz_N) → Prop} (hr : ∀ (w : Int32) (N2 : mz_N), C0 (w, N2) → Q (.inl (some (.int w))) (mz_k S R N2 b t)) {C1 : ((Int32 × Int32 × mz_N) ⊕ (Int32 × mz_N)) → Prop} (hc1 : ∀ s2, C1 (.inl s2) → mz_G (d, mz_X0 L xs, some .int, [], mk_78, 5, Q) 10 mt_78_10 [(0, .ref 2), (1, .ref a1), (2, .ref a2), (3, .int s2.1), (4, .int s2.2.1)] [] false (mz_k S R s2.2.2 b t)) (hx1 : ∀ z, C1 (.inr z) → C0 z) (hp : cd_78_10 a1 a2 s) (hC : C1 (cq_78_10 a1 a2 s)) : mz_G (d, mz_X0 L xs, some .int, [], mk_78, 5, Q) 10 mt_78_10 [(0, .ref 2), (1, .ref a1), (2, .ref a2), (3, .int s.1), (4, .int s.2.1)] [] false (mz_k S R s.2.2 b t) := by
  unfold cq_78_10 at hC
  unfold cd_78_10 at hp
  refine g_iload rfl (g_sipush mzs_240 ?_)
  refine g_icge (tg := 44) rfl ms_78_44 hC (fun h1 hC => ?_) (fun h1 hC => ?_)
  · have hp := hp.1 h1
    refine g_aload_n rfl (g_iload rfl ?_)
    obtain ⟨h2, hp⟩ := hp
    refine g_iald hS.1 hs2 h2 (g_iconst mzi_m1 ?_)
    refine g_icne (tg := 38) rfl ms_78_38 hC (fun h3 hC => ?_) (fun h3 hC => ?_)
    · have hp := hp.1 h3
      refine g_aload_n rfl (g_aload_n rfl (g_aload_n rfl (g_iload rfl (g_iload_n rfl ?_))))
      obtain ⟨h4, hp⟩ := hp
      refine g_v5n (Nat.le_of_ble_eq_true rfl) (mz_at hS (Nat.le_of_ble_eq_true rfl) mzcS_2) (fun _ hq => cs_79 (Nat.le_trans (Nat.le_of_ble_eq_true rfl) hd) (hS.le (Nat.le_of_ble_eq_true rfl)) (hR.le (Nat.le_of_ble_eq_true rfl)) a1 a2 hs1 hs2 s.2.1 s.1 s.2.2 h4 hq) (g_iinc rfl mzi_1 (Nat.le_of_ble_eq_true rfl) rfl ?_)
      refine g_weak ?_ (g_cl (cg_78_38 hd hS hR a1 a2 hs1 hs2 (s.1 + 1) s.2.1 (cf_79_0 a1 a2 s.2.1 s.1 s.2.2) hr hc1 hx1 hp hC))
      exact ⟨rfl, rfl, rfl, rfl, rfl, trivial⟩
    · have hp := hp.2 h3
      refine g_weak ?_ (g_cl (cg_78_38 hd hS hR a1 a2 hs1 hs2 s.1 s.2.1 s.2.2 hr hc1 hx1 hp hC))
      exact ⟨rfl, rfl, rfl, rfl, rfl, trivial⟩
  · have hp := hp.2 h1
    refine g_iload_n rfl ?_
    exact g_iret rfl (hr _ _ (hx1 _ hC))
theorem cg_78_10 (hd : 2 ≤ d) (hS : mz_extR S 232) (hR : mz_rok R 232) (a1 : Nat) (a2 : Nat) (hs1 : S[a1]? = some (0, 550, [])) (hs2 : S[a2]? = some (0, 240, [])) (v3 : Int32) (v4 : Int32) (N : mz_N) {C0 : (Int32 × mz_N) → Prop} (hr : ∀ (w : Int32) (N2 : mz_N), C0 (w, N2) → Q (.inl (some (.int w))) (mz_k S R N2 b t)) (hp : cp_78_10 a1 a2 v3 v4 N) (hC : C0 (cf_78_10 a1 a2 v3 v4 N)) : mz_G (d, mz_X0 L xs, some .int, [], mk_78, 5, Q) 10 mt_78_10 [(0, .ref 2), (1, .ref a1), (2, .ref a2), (3, .int v3), (4, .int v4)] [] false (mz_k S R N b t) := by
  obtain ⟨n, hn⟩ := hp
  exact g_loop (G := fun s => mz_G (d, mz_X0 L xs, some .int, [], mk_78, 5, Q) 10 mt_78_10 [(0, .ref 2), (1, .ref a1), (2, .ref a2), (3, .int s.1), (4, .int s.2.1)] [] false (mz_k S R s.2.2 b t)) (C := C0) (fun C2 hc hx s hP hC => cb_78_10 hd hS hR a1 a2 hs1 hs2 s hr hc hx hP hC) n (v3, v4, N) hn hC
theorem cg_78_0 (hd : 2 ≤ d) (hS : mz_extR S 232) (hR : mz_rok R 232) (a1 : Nat) (a2 : Nat) (hs1 : S[a1]? = some (0, 550, [])) (hs2 : S[a2]? = some (0, 240, [])) (N : mz_N) {C0 : (Int32 × mz_N) → Prop} (hr : ∀ (w : Int32) (N2 : mz_N), C0 (w, N2) → Q (.inl (some (.int w))) (mz_k S R N2 b t)) (hp : cp_78_0 a1 a2 N) (hC : C0 (cf_78_0 a1 a2 N)) : mz_G (d, mz_X0 L xs, some .int, [], mk_78, 5, Q) 0 mk_78 [(0, .ref 2), (1, .ref a1), (2, .ref a2)] [] true (mz_k S R N b t) := by
  unfold cf_78_0 at hC
  unfold cp_78_0 at hp
  refine g_aload_n rfl (g_iconst mzi_m1 ?_)
  obtain ⟨h1, hp⟩ := hp
  refine g_s2n (Nat.le_of_ble_eq_true rfl) (fun _ hq => cs_13 (Nat.le_trans (Nat.le_of_ble_eq_true rfl) hd) (hS.le (Nat.le_of_ble_eq_true rfl)) (hR.le (Nat.le_of_ble_eq_true rfl)) a2 240 hs2 (-1) N h1 hq) (g_iconst mzi_0 (g_istore_n (Nat.le_of_ble_eq_true rfl) rfl (g_iconst mzi_0 (g_istore (Nat.le_of_ble_eq_true rfl) rfl ?_))))
  refine g_weak ?_ (g_cl (cg_78_10 hd hS hR a1 a2 hs1 hs2 0 0 (cf_13_0 a2 240 (-1) N) hr hp hC))
  exact ⟨rfl, rfl, rfl, rfl, rfl, trivial⟩
theorem cs_78 (hd : 3 ≤ d) (hS : mz_extR S 232) (hR : mz_rok R 232) (a1 : Nat) (a2 : Nat) (hs1 : S[a1]? = some (0, 550, [])) (hs2 : S[a2]? = some (0, 240, [])) (N : mz_N) (hp : cp_78_0 a1 a2 N) (hq : Q (.inl (some (.int ((cf_78_0 a1 a2 N).1)))) (mz_k S R ((cf_78_0 a1 a2 N).2) b t)) : mz_Ed (mz_X0 L xs) d 78 [.ref 2, .ref a1, .ref a2] (mz_k S R N b t) Q :=
  by
  refine g_in mzq_78 (Nat.le_of_ble_eq_true rfl) (Nat.le_of_ble_eq_true rfl) (Nat.le_trans (Nat.le_of_ble_eq_true rfl) hd) ?_
  refine g_weak ?_ (cg_78_0 (d := d - 1) (by omega) hS hR a1 a2 hs1 hs2 N (C0 := fun z => Q (.inl (some (.int z.1))) (mz_k S R z.2 b t)) (fun _ _ h => h) hp hq)
  exact ⟨rfl, rfl, rfl, trivial⟩
/-! 82 KeptHouse$Plan.listCells ()V -/
theorem ms_82_0 : mz_sf mk_82 0 = mk_82 := mz_sf_zero _
theorem ms_82_2 : mz_sf mk_82 2 = mt_82_2 := mz_sf_add ms_82_0 (t := 2) rfl rfl
theorem ms_82_26 : mz_sf mk_82 26 = mt_82_26 := mz_sf_add ms_82_2 (t := 24) rfl rfl
theorem ms_82_44 : mz_sf mk_82 44 = mt_82_44 := mz_sf_add ms_82_26 (t := 18) rfl rfl
theorem ms_82_68 : mz_sf mk_82 68 = mt_82_68 := mz_sf_add ms_82_44 (t := 24) rfl rfl
theorem ms_82_82 : mz_sf mk_82 82 = mt_82_82 := mz_sf_add ms_82_68 (t := 14) rfl rfl
theorem ms_82_100 : mz_sf mk_82 100 = mt_82_100 := mz_sf_add ms_82_82 (t := 18) rfl rfl
theorem ms_82_104 : mz_sf mk_82 104 = mt_82_104 := mz_sf_add ms_82_100 (t := 4) rfl rfl
theorem ms_82_133 : mz_sf mk_82 133 = mt_82_133 := mz_sf_add ms_82_104 (t := 29) rfl rfl
theorem ms_82_139 : mz_sf mk_82 139 = mt_82_139 := mz_sf_add ms_82_133 (t := 6) rfl rfl
theorem ms_82_141 : mz_sf mk_82 141 = mt_82_141 := mz_sf_add ms_82_139 (t := 2) rfl rfl
theorem ms_82_180 : mz_sf mk_82 180 = mt_82_180 := mz_sf_add ms_82_141 (t := 39) rfl rfl
theorem ms_82_199 : mz_sf mk_82 199 = mt_82_199 := mz_sf_add ms_82_180 (t := 19) rfl rfl
set_option maxRecDepth 100000 in
theorem mzq_82 : mz_PG0 82 = some (5, ⟨"KeptHouse$Plan", "listCells", "()V"⟩, prog_7_method_26_code, 4, none, [], mk_82, []) := rfl
theorem cg_82_180 (hd : 0 ≤ d) (hS : mz_extR S 232) (hR : mz_rok R 232)  (v2 : Int32) (v3 : Int32) (N : mz_N) {C0 : (mz_N) → Prop} (hr : ∀ (N2 : mz_N), C0 N2 → Q (.inl none) (mz_k S R N2 b t)) {C1 : ((Int32 × mz_N) ⊕ (mz_N)) → Prop} (hc1 : ∀ s2, C1 (.inl s2) → mz_G (d, mz_X0 L xs, none, [], mk_82, 4, Q) 141 mt_82_141 [(0, .ref 2), (2, .int s2.1)] [] false (mz_k S R s2.2 b t)) (hx1 : ∀ z, C1 (.inr z) → C0 z) (hp : cp_82_180 v2 v3 N) (hC : C1 (cf_82_180 v2 v3 N)) : mz_G (d, mz_X0 L xs, none, [], mk_82, 4, Q) 180 mt_82_180 [(0, .ref 2), (2, .int v2), (3, .int v3)] [] false (mz_k S R N b t) := by
  unfold cf_82_180 at hC
  unfold cp_82_180 at hp
  refine g_aload_n rfl (g_getR (mz_at hS (Nat.le_of_ble_eq_true rfl) mzcS_2) mzcf_5_9 (mz_rb hR (Nat.le_of_ble_eq_true rfl) rfl mzcR_2_9) (g_bipush mzb_12 (g_aald4 (m := 29) (mz_at hS (Nat.le_of_ble_eq_true rfl) mzcS_16) (mz_ibd (by decide)) (mz_rb hR (Nat.le_of_ble_eq_true rfl) rfl mzcRr_16_12) (g_iload_n rfl (g_dup2 rfl rfl ?_)))))
  obtain ⟨h1, hp⟩ := hp
  refine g_iald hS.1 (mz_at hS (Nat.le_of_ble_eq_true rfl) mzcS_29) h1 (g_iconst mzi_1 (g_iadd ?_))
  have h2 := hp
  refine g_iast (mz_at hS (Nat.le_of_ble_eq_true rfl) mzcS_29) h2 (g_iinc rfl mzi_1 (Nat.le_of_ble_eq_true rfl) rfl (g_goto (tg := 141) rfl ms_82_141 ?_))
  refine g_weak ?_ (g_cl (hc1 ((v2 + 1), mz_wI N 29 v3 ((mz_gI N 29 v3) + 1)) hC))
  exact ⟨rfl, rfl, trivial⟩
theorem cb_82_141 (hd : 0 ≤ d) (hS : mz_extR S 232) (hR : mz_rok R 232)   (s : Int32 × mz_N) {C0 : (mz_N) → Prop} (hr : ∀ (N2 : mz_N), C0 N2 → Q (.inl none) (mz_k S R N2 b t)) {C1 : ((Int32 × mz_N) ⊕ (mz_N)) → Prop} (hc1 : ∀ s2, C1 (.inl s2) → mz_G (d, mz_X0 L xs, none, [], mk_82, 4, Q) 141 mt_82_141 [(0, .ref 2), (2, .int s2.1)] [] false (mz_k S R s2.2 b t)) (hx1 : ∀ z, C1 (.inr z) → C0 z) (hp : cd_82_141  s) (hC : C1 (cq_82_141  s)) : mz_G (d, mz_X0 L xs, none, [], mk_82, 4, Q) 141 mt_82_141 [(0, .ref 2), (2, .int s.1)] [] false (mz_k S R s.2 b t) := by
  unfold cq_82_141 at hC
  unfold cd_82_141 at hp
  refine g_iload_n rfl (g_sipush mzs_240 ?_)
  refine g_icge (tg := 199) rfl ms_82_199 hC (fun h1 hC => ?_) (fun h1 hC => ?_)
  · have hp := hp.1 h1
    refine g_aload_n rfl (g_getR (mz_at hS (Nat.le_of_ble_eq_true rfl) mzcS_2) mzcf_5_8 (mz_rb hR (Nat.le_of_ble_eq_true rfl) rfl mzcR_2_8) (g_iload_n rfl ?_))
    obtain ⟨h2, hp⟩ := hp
    refine g_iald hS.1 (mz_at hS (Nat.le_of_ble_eq_true rfl) mzcS_15) h2 (g_istore_n (Nat.le_of_ble_eq_true rfl) rfl (g_aload_n rfl (g_getR (mz_at hS (Nat.le_of_ble_eq_true rfl) mzcS_2) mzcf_5_10 (mz_rb hR (Nat.le_of_ble_eq_true rfl) rfl mzcR_2_10) (g_aload_n rfl (g_getR (mz_at hS (Nat.le_of_ble_eq_true rfl) mzcS_2) mzcf_5_9 (mz_rb hR (Nat.le_of_ble_eq_true rfl) rfl mzcR_2_9) (g_bipush mzb_11 (g_aald4 (m := 28) (mz_at hS (Nat.le_of_ble_eq_true rfl) mzcS_16) (mz_ibd (by decide)) (mz_rb hR (Nat.le_of_ble_eq_true rfl) rfl mzcRr_16_11) ?_)))))))
    refine g_iload_n rfl ?_
    obtain ⟨h3, hp⟩ := hp
    refine g_iald hS.1 (mz_at hS (Nat.le_of_ble_eq_true rfl) mzcS_28) h3 (g_aload_n rfl (g_getR (mz_at hS (Nat.le_of_ble_eq_true rfl) mzcS_2) mzcf_5_9 (mz_rb hR (Nat.le_of_ble_eq_true rfl) rfl mzcR_2_9) (g_bipush mzb_12 (g_aald4 (m := 29) (mz_at hS (Nat.le_of_ble_eq_true rfl) mzcS_16) (mz_ibd (by decide)) (mz_rb hR (Nat.le_of_ble_eq_true rfl) rfl mzcRr_16_12) (g_iload_n rfl ?_)))))
    obtain ⟨h4, hp⟩ := hp
    refine g_iald hS.1 (mz_at hS (Nat.le_of_ble_eq_true rfl) mzcS_29) h4 (g_iadd (g_iload_n rfl ?_))
    obtain ⟨h5, hp⟩ := hp
    refine g_iast (mz_at hS (Nat.le_of_ble_eq_true rfl) mzcS_30) h5 ?_
    refine g_weak ?_ (g_cl (cg_82_180 hd hS hR s.1 (mz_gI s.2 15 s.1) (mz_wI s.2 30 ((mz_gI s.2 28 (mz_gI s.2 15 s.1)) + (mz_gI s.2 29 (mz_gI s.2 15 s.1))) s.1) hr hc1 hx1 hp hC))
    exact ⟨rfl, rfl, rfl, trivial⟩
  · have hp := hp.2 h1
    exact g_vret rfl (hr _ (hx1 _ hC))
theorem cg_82_141 (hd : 0 ≤ d) (hS : mz_extR S 232) (hR : mz_rok R 232)  (v2 : Int32) (N : mz_N) {C0 : (mz_N) → Prop} (hr : ∀ (N2 : mz_N), C0 N2 → Q (.inl none) (mz_k S R N2 b t)) (hp : cp_82_141 v2 N) (hC : C0 (cf_82_141 v2 N)) : mz_G (d, mz_X0 L xs, none, [], mk_82, 4, Q) 141 mt_82_141 [(0, .ref 2), (2, .int v2)] [] false (mz_k S R N b t) := by
  obtain ⟨n, hn⟩ := hp
  exact g_loop (G := fun s => mz_G (d, mz_X0 L xs, none, [], mk_82, 4, Q) 141 mt_82_141 [(0, .ref 2), (2, .int s.1)] [] false (mz_k S R s.2 b t)) (C := C0) (fun C2 hc hx s hP hC => cb_82_141 hd hS hR  s hr hc hx hP hC) n (v2, N) hn hC
theorem cb_82_104 (hd : 0 ≤ d) (hS : mz_extR S 232) (hR : mz_rok R 232)   (s : Int32 × Int32 × mz_N) {C0 : (mz_N) → Prop} (hr : ∀ (N2 : mz_N), C0 N2 → Q (.inl none) (mz_k S R N2 b t)) {C1 : ((Int32 × Int32 × mz_N) ⊕ (mz_N)) → Prop} (hc1 : ∀ s2, C1 (.inl s2) → mz_G (d, mz_X0 L xs, none, [], mk_82, 4, Q) 104 mt_82_104 [(0, .ref 2), (1, .int s2.1), (2, .int s2.2.1)] [] false (mz_k S R s2.2.2 b t)) (hx1 : ∀ z, C1 (.inr z) → C0 z) (hp : cd_82_104  s) (hC : C1 (cq_82_104  s)) : mz_G (d, mz_X0 L xs, none, [], mk_82, 4, Q) 104 mt_82_104 [(0, .ref 2), (1, .int s.1), (2, .int s.2.1)] [] false (mz_k S R s.2.2 b t) := by
  unfold cq_82_104 at hC
  unfold cd_82_104 at hp
  refine g_iload_n rfl (g_aload_n rfl (g_getI (mz_at hS (Nat.le_of_ble_eq_true rfl) mzcS_2) mzcf_5_7 ?_))
  refine g_icge (tg := 139) rfl ms_82_139 hC (fun h1 hC => ?_) (fun h1 hC => ?_)
  · have hp := hp.1 h1
    refine g_aload_n rfl (g_getR (mz_at hS (Nat.le_of_ble_eq_true rfl) mzcS_2) mzcf_5_9 (mz_rb hR (Nat.le_of_ble_eq_true rfl) rfl mzcR_2_9) (g_bipush mzb_11 (g_aald4 (m := 28) (mz_at hS (Nat.le_of_ble_eq_true rfl) mzcS_16) (mz_ibd (by decide)) (mz_rb hR (Nat.le_of_ble_eq_true rfl) rfl mzcRr_16_11) (g_iload_n rfl (g_iload_n rfl ?_)))))
    obtain ⟨h2, hp⟩ := hp
    refine g_iast (mz_at hS (Nat.le_of_ble_eq_true rfl) mzcS_28) h2 (g_iload_n rfl (g_aload_n rfl (g_getR (mz_at hS (Nat.le_of_ble_eq_true rfl) mzcS_2) mzcf_5_9 (mz_rb hR (Nat.le_of_ble_eq_true rfl) rfl mzcR_2_9) (g_iconst mzi_2 (g_aald4 (m := 19) (mz_at hS (Nat.le_of_ble_eq_true rfl) mzcS_16) (mz_ibd (by decide)) (mz_rb hR (Nat.le_of_ble_eq_true rfl) rfl mzcRr_16_2) (g_iload_n rfl ?_))))))
    have h3 := hp
    refine g_iald hS.1 (mz_at hS (Nat.le_of_ble_eq_true rfl) mzcS_19) h3 (g_iadd (g_istore_n (Nat.le_of_ble_eq_true rfl) rfl (g_iinc rfl mzi_1 (Nat.le_of_ble_eq_true rfl) rfl (g_goto (tg := 104) rfl ms_82_104 ?_))))
    refine g_weak ?_ (g_cl (hc1 ((s.1 + (mz_gI (mz_wI s.2.2 28 s.2.1 s.1) 19 s.2.1)), (s.2.1 + 1), mz_wI s.2.2 28 s.2.1 s.1) hC))
    exact ⟨rfl, rfl, rfl, trivial⟩
  · have hp := hp.2 h1
    refine g_iconst mzi_0 (g_istore_n (Nat.le_of_ble_eq_true rfl) rfl ?_)
    refine g_weak ?_ (g_cl (cg_82_141 hd hS hR 0 s.2.2 hr hp (hx1 _ hC)))
    exact ⟨rfl, rfl, trivial⟩
theorem cg_82_104 (hd : 0 ≤ d) (hS : mz_extR S 232) (hR : mz_rok R 232)  (v1 : Int32) (v2 : Int32) (N : mz_N) {C0 : (mz_N) → Prop} (hr : ∀ (N2 : mz_N), C0 N2 → Q (.inl none) (mz_k S R N2 b t)) (hp : cp_82_104 v1 v2 N) (hC : C0 (cf_82_104 v1 v2 N)) : mz_G (d, mz_X0 L xs, none, [], mk_82, 4, Q) 104 mt_82_104 [(0, .ref 2), (1, .int v1), (2, .int v2)] [] false (mz_k S R N b t) := by
  obtain ⟨n, hn⟩ := hp
  exact g_loop (G := fun s => mz_G (d, mz_X0 L xs, none, [], mk_82, 4, Q) 104 mt_82_104 [(0, .ref 2), (1, .int s.1), (2, .int s.2.1)] [] false (mz_k S R s.2.2 b t)) (C := C0) (fun C2 hc hx s hP hC => cb_82_104 hd hS hR  s hr hc hx hP hC) n (v1, v2, N) hn hC
theorem cg_82_82 (hd : 0 ≤ d) (hS : mz_extR S 232) (hR : mz_rok R 232)  (v1 : Int32) (v2 : Int32) (N : mz_N) {C0 : (mz_N) → Prop} (hr : ∀ (N2 : mz_N), C0 N2 → Q (.inl none) (mz_k S R N2 b t)) {C1 : ((Int32 × mz_N) ⊕ (mz_N)) → Prop} (hc1 : ∀ s2, C1 (.inl s2) → mz_G (d, mz_X0 L xs, none, [], mk_82, 4, Q) 2 mt_82_2 [(0, .ref 2), (1, .int s2.1)] [] false (mz_k S R s2.2 b t)) (hx1 : ∀ z, C1 (.inr z) → C0 z) (hp : cp_82_82 v1 v2 N) (hC : C1 (cf_82_82 v1 v2 N)) : mz_G (d, mz_X0 L xs, none, [], mk_82, 4, Q) 82 mt_82_82 [(0, .ref 2), (1, .int v1), (2, .int v2)] [] false (mz_k S R N b t) := by
  unfold cf_82_82 at hC
  unfold cp_82_82 at hp
  refine g_aload_n rfl (g_getR (mz_at hS (Nat.le_of_ble_eq_true rfl) mzcS_2) mzcf_5_9 (mz_rb hR (Nat.le_of_ble_eq_true rfl) rfl mzcR_2_9) (g_iconst mzi_2 (g_aald4 (m := 19) (mz_at hS (Nat.le_of_ble_eq_true rfl) mzcS_16) (mz_ibd (by decide)) (mz_rb hR (Nat.le_of_ble_eq_true rfl) rfl mzcRr_16_2) (g_iload_n rfl (g_dup2 rfl rfl ?_)))))
  obtain ⟨h1, hp⟩ := hp
  refine g_iald hS.1 (mz_at hS (Nat.le_of_ble_eq_true rfl) mzcS_19) h1 (g_iconst mzi_1 (g_iadd ?_))
  have h2 := hp
  refine g_iast (mz_at hS (Nat.le_of_ble_eq_true rfl) mzcS_19) h2 (g_iinc rfl mzi_1 (Nat.le_of_ble_eq_true rfl) rfl (g_goto (tg := 2) rfl ms_82_2 ?_))
  refine g_weak ?_ (g_cl (hc1 ((v1 + 1), mz_wI N 19 v2 ((mz_gI N 19 v2) + 1)) hC))
  exact ⟨rfl, rfl, trivial⟩
theorem cg_82_68 (hd : 0 ≤ d) (hS : mz_extR S 232) (hR : mz_rok R 232)  (v1 : Int32) (v2 : Int32) (N : mz_N) {C0 : (mz_N) → Prop} (hr : ∀ (N2 : mz_N), C0 N2 → Q (.inl none) (mz_k S R N2 b t)) {C1 : ((Int32 × mz_N) ⊕ (mz_N)) → Prop} (hc1 : ∀ s2, C1 (.inl s2) → mz_G (d, mz_X0 L xs, none, [], mk_82, 4, Q) 2 mt_82_2 [(0, .ref 2), (1, .int s2.1)] [] false (mz_k S R s2.2 b t)) (hx1 : ∀ z, C1 (.inr z) → C0 z) (hp : cp_82_68 v1 v2 N) (hC : C1 (cf_82_68 v1 v2 N)) : mz_G (d, mz_X0 L xs, none, [], mk_82, 4, Q) 68 mt_82_68 [(0, .ref 2), (1, .int v1), (2, .int v2)] [] false (mz_k S R N b t) := by
  unfold cf_82_68 at hC
  unfold cp_82_68 at hp
  refine g_aload_n rfl (g_getR (mz_at hS (Nat.le_of_ble_eq_true rfl) mzcS_2) mzcf_5_9 (mz_rb hR (Nat.le_of_ble_eq_true rfl) rfl mzcR_2_9) (g_iconst mzi_3 (g_aald4 (m := 20) (mz_at hS (Nat.le_of_ble_eq_true rfl) mzcS_16) (mz_ibd (by decide)) (mz_rb hR (Nat.le_of_ble_eq_true rfl) rfl mzcRr_16_3) (g_iload_n rfl (g_aload_n rfl (g_getR (mz_at hS (Nat.le_of_ble_eq_true rfl) mzcS_2) mzcf_5_15 (mz_rb hR (Nat.le_of_ble_eq_true rfl) rfl mzcR_2_15) (g_iload_n rfl ?_)))))))
  obtain ⟨h1, hp⟩ := hp
  refine g_iald hS.1 (mz_at hS (Nat.le_of_ble_eq_true rfl) mzcS_37) h1 ?_
  obtain ⟨h2, hp⟩ := hp
  refine g_iast (mz_at hS (Nat.le_of_ble_eq_true rfl) mzcS_20) h2 ?_
  refine g_weak ?_ (g_cl (cg_82_82 hd hS hR v1 v2 (mz_wI N 20 v2 (mz_gI N 37 v1)) hr hc1 hx1 hp hC))
  exact ⟨rfl, rfl, rfl, trivial⟩
theorem cb_82_2 (hd : 0 ≤ d) (hS : mz_extR S 232) (hR : mz_rok R 232)   (s : Int32 × mz_N) {C0 : (mz_N) → Prop} (hr : ∀ (N2 : mz_N), C0 N2 → Q (.inl none) (mz_k S R N2 b t)) {C1 : ((Int32 × mz_N) ⊕ (mz_N)) → Prop} (hc1 : ∀ s2, C1 (.inl s2) → mz_G (d, mz_X0 L xs, none, [], mk_82, 4, Q) 2 mt_82_2 [(0, .ref 2), (1, .int s2.1)] [] false (mz_k S R s2.2 b t)) (hx1 : ∀ z, C1 (.inr z) → C0 z) (hp : cd_82_2  s) (hC : C1 (cq_82_2  s)) : mz_G (d, mz_X0 L xs, none, [], mk_82, 4, Q) 2 mt_82_2 [(0, .ref 2), (1, .int s.1)] [] false (mz_k S R s.2 b t) := by
  unfold cq_82_2 at hC
  unfold cd_82_2 at hp
  refine g_iload_n rfl (g_sipush mzs_240 ?_)
  refine g_icge (tg := 100) rfl ms_82_100 hC (fun h1 hC => ?_) (fun h1 hC => ?_)
  · have hp := hp.1 h1
    refine g_aload_n rfl (g_getR (mz_at hS (Nat.le_of_ble_eq_true rfl) mzcS_2) mzcf_5_8 (mz_rb hR (Nat.le_of_ble_eq_true rfl) rfl mzcR_2_8) (g_iload_n rfl (g_aload_n rfl (g_getR (mz_at hS (Nat.le_of_ble_eq_true rfl) mzcS_2) mzcf_5_8 (mz_rb hR (Nat.le_of_ble_eq_true rfl) rfl mzcR_2_8) (g_iload_n rfl ?_)))))
    obtain ⟨h2, hp⟩ := hp
    refine g_iald hS.1 (mz_at hS (Nat.le_of_ble_eq_true rfl) mzcS_15) h2 (g_bipush mzb_39 (g_imin (Nat.le_of_ble_eq_true rfl) ?_))
    obtain ⟨h3, hp⟩ := hp
    refine g_iast (mz_at hS (Nat.le_of_ble_eq_true rfl) mzcS_15) h3 (g_aload_n rfl (g_getR (mz_at hS (Nat.le_of_ble_eq_true rfl) mzcS_2) mzcf_5_8 (mz_rb hR (Nat.le_of_ble_eq_true rfl) rfl mzcR_2_8) (g_iload_n rfl ?_)))
    obtain ⟨h4, hp⟩ := hp
    refine g_iald hS.1 (mz_at hS (Nat.le_of_ble_eq_true rfl) mzcS_15) h4 (g_istore_n (Nat.le_of_ble_eq_true rfl) rfl (g_aload_n rfl (g_getR (mz_at hS (Nat.le_of_ble_eq_true rfl) mzcS_2) mzcf_5_9 (mz_rb hR (Nat.le_of_ble_eq_true rfl) rfl mzcR_2_9) (g_iconst mzi_2 (g_aald4 (m := 19) (mz_at hS (Nat.le_of_ble_eq_true rfl) mzcS_16) (mz_ibd (by decide)) (mz_rb hR (Nat.le_of_ble_eq_true rfl) rfl mzcRr_16_2) (g_iload_n rfl ?_))))))
    obtain ⟨h5, hp⟩ := hp
    refine g_iald hS.1 (mz_at hS (Nat.le_of_ble_eq_true rfl) mzcS_19) h5 ?_
    refine g_ifne (tg := 82) rfl ms_82_82 hC (fun h6 hC => ?_) (fun h6 hC => ?_)
    · have hp := hp.1 h6
      refine g_aload_n rfl (g_getR (mz_at hS (Nat.le_of_ble_eq_true rfl) mzcS_2) mzcf_5_9 (mz_rb hR (Nat.le_of_ble_eq_true rfl) rfl mzcR_2_9) (g_iconst mzi_0 (g_aald4 (m := 17) (mz_at hS (Nat.le_of_ble_eq_true rfl) mzcS_16) (mz_ibd (by decide)) (mz_rb hR (Nat.le_of_ble_eq_true rfl) rfl mzcRr_16_0) (g_iload_n rfl (g_iload_n rfl (g_bipush mzb_48 (g_idiv (by decide) ?_)))))))
      obtain ⟨h7, hp⟩ := hp
      refine g_iast (mz_at hS (Nat.le_of_ble_eq_true rfl) mzcS_17) h7 (g_aload_n rfl (g_getR (mz_at hS (Nat.le_of_ble_eq_true rfl) mzcS_2) mzcf_5_9 (mz_rb hR (Nat.le_of_ble_eq_true rfl) rfl mzcR_2_9) (g_iconst mzi_1 (g_aald4 (m := 18) (mz_at hS (Nat.le_of_ble_eq_true rfl) mzcS_16) (mz_ibd (by decide)) (mz_rb hR (Nat.le_of_ble_eq_true rfl) rfl mzcRr_16_1) (g_iload_n rfl (g_iload_n rfl (g_bipush mzb_48 ?_)))))))
      refine g_irem (by decide) ?_
      obtain ⟨h8, hp⟩ := hp
      refine g_iast (mz_at hS (Nat.le_of_ble_eq_true rfl) mzcS_18) h8 ?_
      refine g_weak ?_ (g_cl (cg_82_68 hd hS hR s.1 (mz_gI (mz_wI s.2 15 s.1 (mz_imin (mz_gI s.2 15 s.1) 39)) 15 s.1) (mz_wI (mz_wI (mz_wI s.2 15 s.1 (mz_imin (mz_gI s.2 15 s.1) 39)) 17 (mz_gI (mz_wI s.2 15 s.1 (mz_imin (mz_gI s.2 15 s.1) 39)) 15 s.1) (s.1 / 48)) 18 (mz_gI (mz_wI s.2 15 s.1 (mz_imin (mz_gI s.2 15 s.1) 39)) 15 s.1) (mz_irem s.1 48)) hr hc1 hx1 hp hC))
      exact ⟨rfl, rfl, rfl, trivial⟩
    · have hp := hp.2 h6
      refine g_weak ?_ (g_cl (cg_82_82 hd hS hR s.1 (mz_gI (mz_wI s.2 15 s.1 (mz_imin (mz_gI s.2 15 s.1) 39)) 15 s.1) (mz_wI s.2 15 s.1 (mz_imin (mz_gI s.2 15 s.1) 39)) hr hc1 hx1 hp hC))
      exact ⟨rfl, rfl, rfl, trivial⟩
  · have hp := hp.2 h1
    refine g_iconst mzi_0 (g_istore_n (Nat.le_of_ble_eq_true rfl) rfl (g_iconst mzi_0 (g_istore_n (Nat.le_of_ble_eq_true rfl) rfl ?_)))
    refine g_weak ?_ (g_cl (cg_82_104 hd hS hR 0 0 s.2 hr hp (hx1 _ hC)))
    exact ⟨rfl, rfl, rfl, trivial⟩
theorem cg_82_2 (hd : 0 ≤ d) (hS : mz_extR S 232) (hR : mz_rok R 232)  (v1 : Int32) (N : mz_N) {C0 : (mz_N) → Prop} (hr : ∀ (N2 : mz_N), C0 N2 → Q (.inl none) (mz_k S R N2 b t)) (hp : cp_82_2 v1 N) (hC : C0 (cf_82_2 v1 N)) : mz_G (d, mz_X0 L xs, none, [], mk_82, 4, Q) 2 mt_82_2 [(0, .ref 2), (1, .int v1)] [] false (mz_k S R N b t) := by
  obtain ⟨n, hn⟩ := hp
  exact g_loop (G := fun s => mz_G (d, mz_X0 L xs, none, [], mk_82, 4, Q) 2 mt_82_2 [(0, .ref 2), (1, .int s.1)] [] false (mz_k S R s.2 b t)) (C := C0) (fun C2 hc hx s hP hC => cb_82_2 hd hS hR  s hr hc hx hP hC) n (v1, N) hn hC
theorem cg_82_0 (hd : 0 ≤ d) (hS : mz_extR S 232) (hR : mz_rok R 232)  (N : mz_N) {C0 : (mz_N) → Prop} (hr : ∀ (N2 : mz_N), C0 N2 → Q (.inl none) (mz_k S R N2 b t)) (hp : cp_82_0 N) (hC : C0 (cf_82_0 N)) : mz_G (d, mz_X0 L xs, none, [], mk_82, 4, Q) 0 mk_82 [(0, .ref 2)] [] true (mz_k S R N b t) := by
  unfold cf_82_0 at hC
  unfold cp_82_0 at hp
  refine g_iconst mzi_0 (g_istore_n (Nat.le_of_ble_eq_true rfl) rfl ?_)
  refine g_weak ?_ (g_cl (cg_82_2 hd hS hR 0 N hr hp hC))
  exact ⟨rfl, rfl, trivial⟩
theorem cs_82 (hd : 1 ≤ d) (hS : mz_extR S 232) (hR : mz_rok R 232)  (N : mz_N) (hp : cp_82_0 N) (hq : Q (.inl none) (mz_k S R (cf_82_0 N) b t)) : mz_Ed (mz_X0 L xs) d 82 [.ref 2] (mz_k S R N b t) Q :=
  by
  refine g_in mzq_82 (Nat.le_of_ble_eq_true rfl) (Nat.le_of_ble_eq_true rfl) (Nat.le_trans (Nat.le_of_ble_eq_true rfl) hd) ?_
  refine g_weak ?_ (cg_82_0 (d := d - 1) (by omega) hS hR N (C0 := fun z => Q (.inl none) (mz_k S R z b t)) (fun _ h => h) hp hq)
  exact ⟨rfl, trivial⟩
/-! 84 KeptHouse$Plan.cellBefore (I)I -/
theorem ms_84_0 : mz_sf mk_84 0 = mk_84 := mz_sf_zero _
theorem ms_84_17 : mz_sf mk_84 17 = mt_84_17 := mz_sf_add ms_84_0 (t := 17) rfl rfl
theorem ms_84_31 : mz_sf mk_84 31 = mt_84_31 := mz_sf_add ms_84_17 (t := 14) rfl rfl
theorem ms_84_32 : mz_sf mk_84 32 = mt_84_32 := mz_sf_add ms_84_31 (t := 1) rfl rfl
theorem ms_84_42 : mz_sf mk_84 42 = mt_84_42 := mz_sf_add ms_84_32 (t := 10) rfl rfl
theorem ms_84_49 : mz_sf mk_84 49 = mt_84_49 := mz_sf_add ms_84_42 (t := 7) rfl rfl
set_option maxRecDepth 100000 in
theorem mzq_84 : mz_PG0 84 = some (5, ⟨"KeptHouse$Plan", "cellBefore", "(I)I"⟩, prog_7_method_4_code, 1, some .int, [], mk_84, []) := rfl
theorem cg_84_0 (hd : 0 ≤ d) (hS : mz_extR S 232) (hR : mz_rok R 232)  (v0 : Int32) {C0 : (Int32) → Prop} (hr : ∀ (w : Int32), C0 w → Q (.inl (some (.int w))) (mz_k S R N b t)) (hp : cp_84_0 v0) (hC : C0 (cf_84_0 v0)) : mz_G (d, mz_X0 L xs, some .int, [], mk_84, 1, Q) 0 mk_84 [(0, .int v0)] [] true (mz_k S R N b t) := by
  unfold cf_84_0 at hC
  unfold cp_84_0 at hp
  refine g_iload_n rfl (g_bipush mzb_54 ?_)
  refine g_icge (tg := 32) rfl ms_84_32 hC (fun h1 hC => ?_) (fun h1 hC => ?_)
  · refine g_iload_n rfl (g_bipush mzb_9 (g_irem (by decide) ?_))
    refine g_ifne (tg := 17) rfl ms_84_17 hC (fun h2 hC => ?_) (fun h2 hC => ?_)
    · refine g_iconst mzi_m1 (g_goto (tg := 31) rfl ms_84_31 ?_)
      exact g_iret rfl (hr _ hC)
    · refine g_iload_n rfl (g_bipush mzb_9 (g_idiv (by decide) (g_bipush mzb_8 (g_imul (g_iload_n rfl (g_bipush mzb_9 (g_irem (by decide) ?_)))))))
      refine g_iadd (g_iconst mzi_1 (g_isub ?_))
      exact g_iret rfl (hr _ hC)
  · refine g_iload_n rfl (g_bipush mzb_62 ?_)
    refine g_icge (tg := 42) rfl ms_84_42 hC (fun h3 hC => ?_) (fun h3 hC => ?_)
    · refine g_iconst mzi_m1 (g_goto (tg := 49) rfl ms_84_49 ?_)
      exact g_iret rfl (hr _ hC)
    · refine g_iload_n rfl (g_bipush mzb_54 (g_isub (g_bipush mzb_8 (g_isub ?_))))
      exact g_iret rfl (hr _ hC)
theorem cs_84 (hd : 1 ≤ d) (hS : mz_extR S 232) (hR : mz_rok R 232)  (v0 : Int32) (hp : cp_84_0 v0) (hq : Q (.inl (some (.int (cf_84_0 v0)))) (mz_k S R N b t)) : mz_Ed (mz_X0 L xs) d 84 [.int v0] (mz_k S R N b t) Q :=
  by
  refine g_in mzq_84 (Nat.le_of_ble_eq_true rfl) (Nat.le_of_ble_eq_true rfl) (Nat.le_trans (Nat.le_of_ble_eq_true rfl) hd) ?_
  refine g_weak ?_ (cg_84_0 (d := d - 1) (by omega) hS hR v0 (C0 := fun z => Q (.inl (some (.int z))) (mz_k S R N b t)) (fun _ h => h) hp hq)
  exact ⟨rfl, trivial⟩
/-! 85 KeptHouse$Plan.cellBehind (I)I -/
theorem ms_85_0 : mz_sf mk_85 0 = mk_85 := mz_sf_zero _
theorem ms_85_19 : mz_sf mk_85 19 = mt_85_19 := mz_sf_add ms_85_0 (t := 19) rfl rfl
theorem ms_85_31 : mz_sf mk_85 31 = mt_85_31 := mz_sf_add ms_85_19 (t := 12) rfl rfl
theorem ms_85_32 : mz_sf mk_85 32 = mt_85_32 := mz_sf_add ms_85_31 (t := 1) rfl rfl
theorem ms_85_42 : mz_sf mk_85 42 = mt_85_42 := mz_sf_add ms_85_32 (t := 10) rfl rfl
theorem ms_85_46 : mz_sf mk_85 46 = mt_85_46 := mz_sf_add ms_85_42 (t := 4) rfl rfl
set_option maxRecDepth 100000 in
theorem mzq_85 : mz_PG0 85 = some (5, ⟨"KeptHouse$Plan", "cellBehind", "(I)I"⟩, prog_7_method_5_code, 1, some .int, [], mk_85, []) := rfl
theorem cg_85_0 (hd : 0 ≤ d) (hS : mz_extR S 232) (hR : mz_rok R 232)  (v0 : Int32) {C0 : (Int32) → Prop} (hr : ∀ (w : Int32), C0 w → Q (.inl (some (.int w))) (mz_k S R N b t)) (hp : cp_85_0 v0) (hC : C0 (cf_85_0 v0)) : mz_G (d, mz_X0 L xs, some .int, [], mk_85, 1, Q) 0 mk_85 [(0, .int v0)] [] true (mz_k S R N b t) := by
  unfold cf_85_0 at hC
  unfold cp_85_0 at hp
  refine g_iload_n rfl (g_bipush mzb_54 ?_)
  refine g_icge (tg := 32) rfl ms_85_32 hC (fun h1 hC => ?_) (fun h1 hC => ?_)
  · refine g_iload_n rfl (g_bipush mzb_9 (g_irem (by decide) (g_bipush mzb_8 ?_)))
    refine g_icne (tg := 19) rfl ms_85_19 hC (fun h2 hC => ?_) (fun h2 hC => ?_)
    · refine g_iconst mzi_m1 (g_goto (tg := 31) rfl ms_85_31 ?_)
      exact g_iret rfl (hr _ hC)
    · refine g_iload_n rfl (g_bipush mzb_9 (g_idiv (by decide) (g_bipush mzb_8 (g_imul (g_iload_n rfl (g_bipush mzb_9 (g_irem (by decide) ?_)))))))
      refine g_iadd ?_
      exact g_iret rfl (hr _ hC)
  · refine g_iload_n rfl (g_bipush mzb_102 ?_)
    refine g_iclt (tg := 42) rfl ms_85_42 hC (fun h3 hC => ?_) (fun h3 hC => ?_)
    · refine g_iload_n rfl (g_bipush mzb_54 (g_isub ?_))
      exact g_iret rfl (hr _ hC)
    · refine g_iconst mzi_m1 (g_goto (tg := 46) rfl ms_85_46 ?_)
      exact g_iret rfl (hr _ hC)
theorem cs_85 (hd : 1 ≤ d) (hS : mz_extR S 232) (hR : mz_rok R 232)  (v0 : Int32) (hp : cp_85_0 v0) (hq : Q (.inl (some (.int (cf_85_0 v0)))) (mz_k S R N b t)) : mz_Ed (mz_X0 L xs) d 85 [.int v0] (mz_k S R N b t) Q :=
  by
  refine g_in mzq_85 (Nat.le_of_ble_eq_true rfl) (Nat.le_of_ble_eq_true rfl) (Nat.le_trans (Nat.le_of_ble_eq_true rfl) hd) ?_
  refine g_weak ?_ (cg_85_0 (d := d - 1) (by omega) hS hR v0 (C0 := fun z => Q (.inl (some (.int z))) (mz_k S R N b t)) (fun _ h => h) hp hq)
  exact ⟨rfl, trivial⟩
/-! 83 KeptHouse$Plan.weighInner (I)V -/
theorem ms_83_0 : mz_sf mk_83 0 = mk_83 := mz_sf_zero _
theorem ms_83_23 : mz_sf mk_83 23 = mt_83_23 := mz_sf_add ms_83_0 (t := 23) rfl rfl
theorem ms_83_45 : mz_sf mk_83 45 = mt_83_45 := mz_sf_add ms_83_23 (t := 22) rfl rfl
theorem ms_83_59 : mz_sf mk_83 59 = mt_83_59 := mz_sf_add ms_83_45 (t := 14) rfl rfl
theorem ms_83_73 : mz_sf mk_83 73 = mt_83_73 := mz_sf_add ms_83_59 (t := 14) rfl rfl
theorem ms_83_74 : mz_sf mk_83 74 = mt_83_74 := mz_sf_add ms_83_73 (t := 1) rfl rfl
theorem ms_83_102 : mz_sf mk_83 102 = mt_83_102 := mz_sf_add ms_83_74 (t := 28) rfl rfl
set_option maxRecDepth 100000 in
theorem mzq_83 : mz_PG0 83 = some (5, ⟨"KeptHouse$Plan", "weighInner", "(I)V"⟩, prog_7_method_27_code, 6, none, [], mk_83, []) := rfl
theorem cg_83_102 (hd : 1 ≤ d) (hS : mz_extR S 232) (hR : mz_rok R 232)  (N : mz_N) {C0 : (mz_N) → Prop} (hr : ∀ (N2 : mz_N), C0 N2 → Q (.inl none) (mz_k S R N2 b t)) (hp : cp_83_102 N) (hC : C0 (cf_83_102 N)) : mz_G (d, mz_X0 L xs, none, [], mk_83, 6, Q) 102 mt_83_102 [] [] false (mz_k S R N b t) := by
  unfold cf_83_102 at hC
  unfold cp_83_102 at hp
  exact g_vret rfl (hr _ hC)
theorem cg_83_74 (hd : 1 ≤ d) (hS : mz_extR S 232) (hR : mz_rok R 232)  (s0 : Int32) (v3 : Int32) (v4 : Int32) (N : mz_N) {C0 : (mz_N) → Prop} (hr : ∀ (N2 : mz_N), C0 N2 → Q (.inl none) (mz_k S R N2 b t)) (hp : cp_83_74 s0 v3 v4 N) (hC : C0 (cf_83_74 s0 v3 v4 N)) : mz_G (d, mz_X0 L xs, none, [], mk_83, 6, Q) 74 mt_83_74 [(0, .ref 2), (3, .int v3), (4, .int v4)] [.int s0] false (mz_k S R N b t) := by
  unfold cf_83_74 at hC
  unfold cp_83_74 at hp
  refine g_istore (Nat.le_of_ble_eq_true rfl) rfl (g_aload_n rfl (g_getR (mz_at hS (Nat.le_of_ble_eq_true rfl) mzcS_2) mzcf_5_11 (mz_rb hR (Nat.le_of_ble_eq_true rfl) rfl mzcR_2_11) (g_iload_n rfl (g_iload rfl (g_imin (Nat.le_of_ble_eq_true rfl) (g_bipush mzb_40 (g_imul ?_)))))))
  refine g_iload_n rfl (g_iload rfl (g_imax (Nat.le_of_ble_eq_true rfl) (g_iadd (g_dup2 rfl rfl ?_))))
  obtain ⟨h1, hp⟩ := hp
  refine g_iald hS.1 (mz_at hS (Nat.le_of_ble_eq_true rfl) mzcS_31) h1 (g_iload rfl (g_iadd ?_))
  obtain ⟨h2, hp⟩ := hp
  refine g_iast (mz_at hS (Nat.le_of_ble_eq_true rfl) mzcS_31) h2 ?_
  refine g_weak ?_ (g_cl (cg_83_102 hd hS hR (mz_wI N 31 (((mz_imin v3 v4) * 40) + (mz_imax v3 v4)) ((mz_gI N 31 (((mz_imin v3 v4) * 40) + (mz_imax v3 v4))) + s0)) hr hp hC))
  exact trivial
theorem cg_83_0 (hd : 1 ≤ d) (hS : mz_extR S 232) (hR : mz_rok R 232)  (v1 : Int32) (N : mz_N) {C0 : (mz_N) → Prop} (hr : ∀ (N2 : mz_N), C0 N2 → Q (.inl none) (mz_k S R N2 b t)) (hp : cp_83_0 v1 N) (hC : C0 (cf_83_0 v1 N)) : mz_G (d, mz_X0 L xs, none, [], mk_83, 6, Q) 0 mk_83 [(0, .ref 2), (1, .int v1)] [] true (mz_k S R N b t) := by
  unfold cf_83_0 at hC
  unfold cp_83_0 at hp
  refine g_iload_n rfl (g_bipush mzb_110 (g_idiv (by decide) (g_bipush mzb_48 (g_imul (g_istore_n (Nat.le_of_ble_eq_true rfl) rfl (g_aload_n rfl (g_getR (mz_at hS (Nat.le_of_ble_eq_true rfl) mzcS_2) mzcf_5_8 (mz_rb hR (Nat.le_of_ble_eq_true rfl) rfl mzcR_2_8) ?_)))))))
  refine g_iload_n rfl (g_iload_n rfl (g_bipush mzb_110 (g_irem (by decide) ?_)))
  refine g_s1v (Nat.le_of_ble_eq_true rfl) (fun _ hq => cs_84 (Nat.le_trans (Nat.le_of_ble_eq_true rfl) hd) (hS.le (Nat.le_of_ble_eq_true rfl)) (hR.le (Nat.le_of_ble_eq_true rfl))  (mz_irem v1 110) trivial hq) (g_iadd ?_)
  obtain ⟨h2, hp⟩ := hp
  refine g_iald hS.1 (mz_at hS (Nat.le_of_ble_eq_true rfl) mzcS_15) h2 (g_istore_n (Nat.le_of_ble_eq_true rfl) rfl (g_aload_n rfl (g_getR (mz_at hS (Nat.le_of_ble_eq_true rfl) mzcS_2) mzcf_5_8 (mz_rb hR (Nat.le_of_ble_eq_true rfl) rfl mzcR_2_8) (g_iload_n rfl (g_iload_n rfl (g_bipush mzb_110 (g_irem (by decide) ?_)))))))
  refine g_s1v (Nat.le_of_ble_eq_true rfl) (fun _ hq => cs_85 (Nat.le_trans (Nat.le_of_ble_eq_true rfl) hd) (hS.le (Nat.le_of_ble_eq_true rfl)) (hR.le (Nat.le_of_ble_eq_true rfl))  (mz_irem v1 110) trivial hq) (g_iadd ?_)
  obtain ⟨h4, hp⟩ := hp
  refine g_iald hS.1 (mz_at hS (Nat.le_of_ble_eq_true rfl) mzcS_15) h4 (g_istore (Nat.le_of_ble_eq_true rfl) rfl (g_iload_n rfl (g_iload rfl ?_)))
  refine g_iceq (tg := 102) rfl ms_83_102 hC (fun h5 hC => ?_) (fun h5 hC => ?_)
  · have hp := hp.1 h5
    exact g_vret rfl (hr _ hC)
  · have hp := hp.2 h5
    refine g_aload_n rfl (g_getR (mz_at hS (Nat.le_of_ble_eq_true rfl) mzcS_2) mzcf_5_0 (mz_rb hR (Nat.le_of_ble_eq_true rfl) rfl mzcR_2_0) (g_iload_n rfl ?_))
    obtain ⟨h6, hp⟩ := hp
    refine g_iald hS.1 (mz_at hS (Nat.le_of_ble_eq_true rfl) mzcS_3) h6 (g_iconst mzi_1 ?_)
    refine g_icne (tg := 59) rfl ms_83_59 hC (fun h7 hC => ?_) (fun h7 hC => ?_)
    · have hp := hp.1 h7
      refine g_iconst mzi_3 (g_goto (tg := 74) rfl ms_83_74 ?_)
      refine g_weak ?_ (g_cl (cg_83_74 hd hS hR 3 (mz_gI N 15 (((v1 / 110) * 48) + (cf_84_0 (mz_irem v1 110)))) (mz_gI N 15 (((v1 / 110) * 48) + (cf_85_0 (mz_irem v1 110)))) N hr hp hC))
      exact ⟨rfl, rfl, rfl, trivial⟩
    · have hp := hp.2 h7
      refine g_aload_n rfl (g_getR (mz_at hS (Nat.le_of_ble_eq_true rfl) mzcS_2) mzcf_5_0 (mz_rb hR (Nat.le_of_ble_eq_true rfl) rfl mzcR_2_0) (g_iload_n rfl ?_))
      obtain ⟨h8, hp⟩ := hp
      refine g_iald hS.1 (mz_at hS (Nat.le_of_ble_eq_true rfl) mzcS_3) h8 (g_iconst mzi_3 ?_)
      refine g_icne (tg := 73) rfl ms_83_73 hC (fun h9 hC => ?_) (fun h9 hC => ?_)
      · have hp := hp.1 h9
        refine g_iconst mzi_5 (g_goto (tg := 74) rfl ms_83_74 ?_)
        refine g_weak ?_ (g_cl (cg_83_74 hd hS hR 5 (mz_gI N 15 (((v1 / 110) * 48) + (cf_84_0 (mz_irem v1 110)))) (mz_gI N 15 (((v1 / 110) * 48) + (cf_85_0 (mz_irem v1 110)))) N hr hp hC))
        exact ⟨rfl, rfl, rfl, trivial⟩
      · have hp := hp.2 h9
        refine g_iconst mzi_1 ?_
        refine g_weak ?_ (g_cl (cg_83_74 hd hS hR 1 (mz_gI N 15 (((v1 / 110) * 48) + (cf_84_0 (mz_irem v1 110)))) (mz_gI N 15 (((v1 / 110) * 48) + (cf_85_0 (mz_irem v1 110)))) N hr hp hC))
        exact ⟨rfl, rfl, rfl, trivial⟩
theorem cs_83 (hd : 2 ≤ d) (hS : mz_extR S 232) (hR : mz_rok R 232)  (v1 : Int32) (N : mz_N) (hp : cp_83_0 v1 N) (hq : Q (.inl none) (mz_k S R (cf_83_0 v1 N) b t)) : mz_Ed (mz_X0 L xs) d 83 [.ref 2, .int v1] (mz_k S R N b t) Q :=
  by
  refine g_in mzq_83 (Nat.le_of_ble_eq_true rfl) (Nat.le_of_ble_eq_true rfl) (Nat.le_trans (Nat.le_of_ble_eq_true rfl) hd) ?_
  refine g_weak ?_ (cg_83_0 (d := d - 1) (by omega) hS hR v1 N (C0 := fun z => Q (.inl none) (mz_k S R z b t)) (fun _ h => h) hp hq)
  exact ⟨rfl, rfl, trivial⟩
/-! 86 KeptHouse$Plan.weighBorder (II)V -/
theorem ms_86_0 : mz_sf mk_86 0 = mk_86 := mz_sf_zero _
theorem ms_86_26 : mz_sf mk_86 26 = mt_86_26 := mz_sf_add ms_86_0 (t := 26) rfl rfl
theorem ms_86_58 : mz_sf mk_86 58 = mt_86_58 := mz_sf_add ms_86_26 (t := 32) rfl rfl
theorem ms_86_74 : mz_sf mk_86 74 = mt_86_74 := mz_sf_add ms_86_58 (t := 16) rfl rfl
theorem ms_86_91 : mz_sf mk_86 91 = mt_86_91 := mz_sf_add ms_86_74 (t := 17) rfl rfl
theorem ms_86_118 : mz_sf mk_86 118 = mt_86_118 := mz_sf_add ms_86_91 (t := 27) rfl rfl
theorem ms_86_126 : mz_sf mk_86 126 = mt_86_126 := mz_sf_add ms_86_118 (t := 8) rfl rfl
set_option maxRecDepth 100000 in
theorem mzq_86 : mz_PG0 86 = some (5, ⟨"KeptHouse$Plan", "weighBorder", "(II)V"⟩, prog_7_method_28_code, 6, none, [], mk_86, []) := rfl
theorem cg_86_74 (hd : 1 ≤ d) (hS : mz_extR S 232) (hR : mz_rok R 232)  (v5 : Int32) (N : mz_N) {C0 : (mz_N) → Prop} (hr : ∀ (N2 : mz_N), C0 N2 → Q (.inl none) (mz_k S R N2 b t)) (hp : cp_86_74 v5 N) (hC : C0 (cf_86_74 v5 N)) : mz_G (d, mz_X0 L xs, none, [], mk_86, 6, Q) 74 mt_86_74 [(0, .ref 2), (5, .int v5)] [] false (mz_k S R N b t) := by
  unfold cf_86_74 at hC
  unfold cp_86_74 at hp
  refine g_aload_n rfl (g_getR (mz_at hS (Nat.le_of_ble_eq_true rfl) mzcS_2) mzcf_5_9 (mz_rb hR (Nat.le_of_ble_eq_true rfl) rfl mzcR_2_9) (g_bipush mzb_10 (g_aald4 (m := 27) (mz_at hS (Nat.le_of_ble_eq_true rfl) mzcS_16) (mz_ibd (by decide)) (mz_rb hR (Nat.le_of_ble_eq_true rfl) rfl mzcRr_16_10) (g_iload rfl (g_dup2 rfl rfl ?_)))))
  obtain ⟨h1, hp⟩ := hp
  refine g_iald hS.1 (mz_at hS (Nat.le_of_ble_eq_true rfl) mzcS_27) h1 (g_iconst mzi_4 (g_iadd ?_))
  have h2 := hp
  refine g_iast (mz_at hS (Nat.le_of_ble_eq_true rfl) mzcS_27) h2 (g_goto (tg := 126) rfl ms_86_126 ?_)
  exact g_vret rfl (hr _ hC)
theorem cg_86_58 (hd : 1 ≤ d) (hS : mz_extR S 232) (hR : mz_rok R 232)  (v2 : Int32) (v5 : Int32) (N : mz_N) {C0 : (mz_N) → Prop} (hr : ∀ (N2 : mz_N), C0 N2 → Q (.inl none) (mz_k S R N2 b t)) (hp : cp_86_58 v2 v5 N) (hC : C0 (cf_86_58 v2 v5 N)) : mz_G (d, mz_X0 L xs, none, [], mk_86, 6, Q) 58 mt_86_58 [(0, .ref 2), (2, .int v2), (5, .int v5)] [] false (mz_k S R N b t) := by
  unfold cf_86_58 at hC
  unfold cp_86_58 at hp
  refine g_aload_n rfl (g_getR (mz_at hS (Nat.le_of_ble_eq_true rfl) mzcS_2) mzcf_5_9 (mz_rb hR (Nat.le_of_ble_eq_true rfl) rfl mzcR_2_9) (g_bipush mzb_6 (g_iload_n rfl (g_iadd ?_))))
  obtain ⟨h1, hp⟩ := hp
  refine g_aald4 (mz_at hS (Nat.le_of_ble_eq_true rfl) mzcS_16) h1 (mz_rb hR (Nat.le_of_ble_eq_true rfl) rfl (mzcR2_16 h1)) (g_iload rfl (g_dup2 rfl rfl ?_))
  obtain ⟨h2, hp⟩ := hp
  refine g_iald hS.1 (mz_at hS (mzcL2_16 h1 (Nat.le_of_ble_eq_true rfl)) (mzcS2_16 h1)) h2 (g_iconst mzi_1 (g_iadd ?_))
  obtain ⟨h3, hp⟩ := hp
  refine g_iast (mz_at hS (mzcL2_16 h1 (Nat.le_of_ble_eq_true rfl)) (mzcS2_16 h1)) h3 ?_
  refine g_weak ?_ (g_cl (cg_86_74 hd hS hR v5 (mz_wI N (17 + (6 + v2).toNatClampNeg) v5 ((mz_gI N (17 + (6 + v2).toNatClampNeg) v5) + 1)) hr hp hC))
  exact ⟨rfl, rfl, trivial⟩
theorem cg_86_118 (hd : 1 ≤ d) (hS : mz_extR S 232) (hR : mz_rok R 232)  (v4 : Int32) (N : mz_N) {C0 : (mz_N) → Prop} (hr : ∀ (N2 : mz_N), C0 N2 → Q (.inl none) (mz_k S R N2 b t)) (hp : cp_86_118 v4 N) (hC : C0 (cf_86_118 v4 N)) : mz_G (d, mz_X0 L xs, none, [], mk_86, 6, Q) 118 mt_86_118 [(0, .ref 2), (4, .int v4)] [] false (mz_k S R N b t) := by
  unfold cf_86_118 at hC
  unfold cp_86_118 at hp
  refine g_aload_n rfl (g_getR (mz_at hS (Nat.le_of_ble_eq_true rfl) mzcS_2) mzcf_5_14 (mz_rb hR (Nat.le_of_ble_eq_true rfl) rfl mzcR_2_14) (g_iload rfl (g_iconst mzi_1 ?_)))
  have h1 := hp
  refine g_iast (mz_at hS (Nat.le_of_ble_eq_true rfl) mzcS_36) h1 ?_
  exact g_vret rfl (hr _ hC)
theorem cg_86_0 (hd : 1 ≤ d) (hS : mz_extR S 232) (hR : mz_rok R 232)  (v1 : Int32) (v2 : Int32) (N : mz_N) {C0 : (mz_N) → Prop} (hr : ∀ (N2 : mz_N), C0 N2 → Q (.inl none) (mz_k S R N2 b t)) (hp : cp_86_0 v1 v2 N) (hC : C0 (cf_86_0 v1 v2 N)) : mz_G (d, mz_X0 L xs, none, [], mk_86, 6, Q) 0 mk_86 [(0, .ref 2), (1, .int v1), (2, .int v2)] [] true (mz_k S R N b t) := by
  unfold cf_86_0 at hC
  unfold cp_86_0 at hp
  refine g_iload_n rfl (g_bipush mzb_110 (g_irem (by decide) (g_istore_n (Nat.le_of_ble_eq_true rfl) rfl (g_iload_n rfl (g_bipush mzb_110 (g_idiv (by decide) (g_bipush mzb_48 ?_)))))))
  refine g_imul (g_iload_n rfl ?_)
  refine g_s1v (Nat.le_of_ble_eq_true rfl) (fun _ hq => cs_84 (Nat.le_trans (Nat.le_of_ble_eq_true rfl) hd) (hS.le (Nat.le_of_ble_eq_true rfl)) (hR.le (Nat.le_of_ble_eq_true rfl))  (mz_irem v1 110) trivial hq) (g_iload_n rfl ?_)
  refine g_s1v (Nat.le_of_ble_eq_true rfl) (fun _ hq => cs_85 (Nat.le_trans (Nat.le_of_ble_eq_true rfl) hd) (hS.le (Nat.le_of_ble_eq_true rfl)) (hR.le (Nat.le_of_ble_eq_true rfl))  (mz_irem v1 110) trivial hq) (g_imax (Nat.le_of_ble_eq_true rfl) (g_iadd (g_istore (Nat.le_of_ble_eq_true rfl) rfl (g_aload_n rfl (g_getR (mz_at hS (Nat.le_of_ble_eq_true rfl) mzcS_2) mzcf_5_8 (mz_rb hR (Nat.le_of_ble_eq_true rfl) rfl mzcR_2_8) (g_iload rfl ?_))))))
  obtain ⟨h3, hp⟩ := hp
  refine g_iald hS.1 (mz_at hS (Nat.le_of_ble_eq_true rfl) mzcS_15) h3 (g_istore (Nat.le_of_ble_eq_true rfl) rfl (g_aload_n rfl (g_getR (mz_at hS (Nat.le_of_ble_eq_true rfl) mzcS_2) mzcf_5_0 (mz_rb hR (Nat.le_of_ble_eq_true rfl) rfl mzcR_2_0) (g_iload_n rfl ?_))))
  obtain ⟨h4, hp⟩ := hp
  refine g_iald hS.1 (mz_at hS (Nat.le_of_ble_eq_true rfl) mzcS_3) h4 (g_iconst mzi_3 ?_)
  refine g_icne (tg := 91) rfl ms_86_91 hC (fun h5 hC => ?_) (fun h5 hC => ?_)
  · have hp := hp.1 h5
    refine g_aload_n rfl (g_getR (mz_at hS (Nat.le_of_ble_eq_true rfl) mzcS_2) mzcf_5_9 (mz_rb hR (Nat.le_of_ble_eq_true rfl) rfl mzcR_2_9) (g_iconst mzi_5 (g_aald4 (m := 22) (mz_at hS (Nat.le_of_ble_eq_true rfl) mzcS_16) (mz_ibd (by decide)) (mz_rb hR (Nat.le_of_ble_eq_true rfl) rfl mzcRr_16_5) (g_iload rfl (g_dup2 rfl rfl ?_)))))
    obtain ⟨h6, hp⟩ := hp
    refine g_iald hS.1 (mz_at hS (Nat.le_of_ble_eq_true rfl) mzcS_22) h6 (g_iconst mzi_1 (g_iadd ?_))
    obtain ⟨h7, hp⟩ := hp
    refine g_iast (mz_at hS (Nat.le_of_ble_eq_true rfl) mzcS_22) h7 ?_
    refine g_weak ?_ (g_cl (cg_86_58 hd hS hR v2 (mz_gI N 15 (((v1 / 110) * 48) + (mz_imax (cf_84_0 (mz_irem v1 110)) (cf_85_0 (mz_irem v1 110))))) (mz_wI N 22 (mz_gI N 15 (((v1 / 110) * 48) + (mz_imax (cf_84_0 (mz_irem v1 110)) (cf_85_0 (mz_irem v1 110))))) ((mz_gI N 22 (mz_gI N 15 (((v1 / 110) * 48) + (mz_imax (cf_84_0 (mz_irem v1 110)) (cf_85_0 (mz_irem v1 110)))))) + 1)) hr hp hC))
    exact ⟨rfl, rfl, rfl, trivial⟩
  · have hp := hp.2 h5
    refine g_aload_n rfl (g_getR (mz_at hS (Nat.le_of_ble_eq_true rfl) mzcS_2) mzcf_5_9 (mz_rb hR (Nat.le_of_ble_eq_true rfl) rfl mzcR_2_9) (g_iconst mzi_4 (g_aald4 (m := 21) (mz_at hS (Nat.le_of_ble_eq_true rfl) mzcS_16) (mz_ibd (by decide)) (mz_rb hR (Nat.le_of_ble_eq_true rfl) rfl mzcRr_16_4) (g_iload rfl (g_dup2 rfl rfl ?_)))))
    obtain ⟨h8, hp⟩ := hp
    refine g_iald hS.1 (mz_at hS (Nat.le_of_ble_eq_true rfl) mzcS_21) h8 (g_iconst mzi_1 (g_iadd ?_))
    obtain ⟨h9, hp⟩ := hp
    refine g_iast (mz_at hS (Nat.le_of_ble_eq_true rfl) mzcS_21) h9 (g_aload_n rfl (g_getR (mz_at hS (Nat.le_of_ble_eq_true rfl) mzcS_2) mzcf_5_9 (mz_rb hR (Nat.le_of_ble_eq_true rfl) rfl mzcR_2_9) (g_bipush mzb_10 (g_aald4 (m := 27) (mz_at hS (Nat.le_of_ble_eq_true rfl) mzcS_16) (mz_ibd (by decide)) (mz_rb hR (Nat.le_of_ble_eq_true rfl) rfl mzcRr_16_10) (g_iload rfl (g_dup2 rfl rfl ?_))))))
    obtain ⟨h10, hp⟩ := hp
    refine g_iald hS.1 (mz_at hS (Nat.le_of_ble_eq_true rfl) mzcS_27) h10 (g_iconst mzi_1 (g_iadd ?_))
    obtain ⟨h11, hp⟩ := hp
    refine g_iast (mz_at hS (Nat.le_of_ble_eq_true rfl) mzcS_27) h11 ?_
    refine g_weak ?_ (g_cl (cg_86_118 hd hS hR (((v1 / 110) * 48) + (mz_imax (cf_84_0 (mz_irem v1 110)) (cf_85_0 (mz_irem v1 110)))) (mz_wI (mz_wI N 21 (mz_gI N 15 (((v1 / 110) * 48) + (mz_imax (cf_84_0 (mz_irem v1 110)) (cf_85_0 (mz_irem v1 110))))) ((mz_gI N 21 (mz_gI N 15 (((v1 / 110) * 48) + (mz_imax (cf_84_0 (mz_irem v1 110)) (cf_85_0 (mz_irem v1 110)))))) + 1)) 27 (mz_gI N 15 (((v1 / 110) * 48) + (mz_imax (cf_84_0 (mz_irem v1 110)) (cf_85_0 (mz_irem v1 110))))) ((mz_gI (mz_wI N 21 (mz_gI N 15 (((v1 / 110) * 48) + (mz_imax (cf_84_0 (mz_irem v1 110)) (cf_85_0 (mz_irem v1 110))))) ((mz_gI N 21 (mz_gI N 15 (((v1 / 110) * 48) + (mz_imax (cf_84_0 (mz_irem v1 110)) (cf_85_0 (mz_irem v1 110)))))) + 1)) 27 (mz_gI N 15 (((v1 / 110) * 48) + (mz_imax (cf_84_0 (mz_irem v1 110)) (cf_85_0 (mz_irem v1 110)))))) + 1)) hr hp hC))
    exact ⟨rfl, rfl, trivial⟩
theorem cs_86 (hd : 2 ≤ d) (hS : mz_extR S 232) (hR : mz_rok R 232)  (v1 : Int32) (v2 : Int32) (N : mz_N) (hp : cp_86_0 v1 v2 N) (hq : Q (.inl none) (mz_k S R (cf_86_0 v1 v2 N) b t)) : mz_Ed (mz_X0 L xs) d 86 [.ref 2, .int v1, .int v2] (mz_k S R N b t) Q :=
  by
  refine g_in mzq_86 (Nat.le_of_ble_eq_true rfl) (Nat.le_of_ble_eq_true rfl) (Nat.le_trans (Nat.le_of_ble_eq_true rfl) hd) ?_
  refine g_weak ?_ (cg_86_0 (d := d - 1) (by omega) hS hR v1 v2 N (C0 := fun z => Q (.inl none) (mz_k S R z b t)) (fun _ h => h) hp hq)
  exact ⟨rfl, rfl, rfl, trivial⟩
/-! 87 KeptHouse$Plan.weighCeilings ()V -/
theorem ms_87_0 : mz_sf mk_87 0 = mk_87 := mz_sf_zero _
theorem ms_87_2 : mz_sf mk_87 2 = mt_87_2 := mz_sf_add ms_87_0 (t := 2) rfl rfl
theorem ms_87_47 : mz_sf mk_87 47 = mt_87_47 := mz_sf_add ms_87_2 (t := 45) rfl rfl
theorem ms_87_50 : mz_sf mk_87 50 = mt_87_50 := mz_sf_add ms_87_47 (t := 3) rfl rfl
theorem ms_87_68 : mz_sf mk_87 68 = mt_87_68 := mz_sf_add ms_87_50 (t := 18) rfl rfl
theorem ms_87_74 : mz_sf mk_87 74 = mt_87_74 := mz_sf_add ms_87_68 (t := 6) rfl rfl
set_option maxRecDepth 100000 in
theorem mzq_87 : mz_PG0 87 = some (5, ⟨"KeptHouse$Plan", "weighCeilings", "()V"⟩, prog_7_method_29_code, 2, none, [], mk_87, []) := rfl
theorem cg_87_68 (hd : 0 ≤ d) (hS : mz_extR S 232) (hR : mz_rok R 232)  (v1 : Int32) (N : mz_N) {C0 : (mz_N) → Prop} (hr : ∀ (N2 : mz_N), C0 N2 → Q (.inl none) (mz_k S R N2 b t)) {C1 : ((Int32 × mz_N) ⊕ (mz_N)) → Prop} (hc1 : ∀ s2, C1 (.inl s2) → mz_G (d, mz_X0 L xs, none, [], mk_87, 2, Q) 2 mt_87_2 [(0, .ref 2), (1, .int s2.1)] [] false (mz_k S R s2.2 b t)) (hx1 : ∀ z, C1 (.inr z) → C0 z) (hp : cp_87_68 v1 N) (hC : C1 (cf_87_68 v1 N)) : mz_G (d, mz_X0 L xs, none, [], mk_87, 2, Q) 68 mt_87_68 [(0, .ref 2), (1, .int v1)] [] false (mz_k S R N b t) := by
  unfold cf_87_68 at hC
  unfold cp_87_68 at hp
  refine g_iinc rfl mzi_1 (Nat.le_of_ble_eq_true rfl) rfl (g_goto (tg := 2) rfl ms_87_2 ?_)
  refine g_weak ?_ (g_cl (hc1 ((v1 + 1), N) hC))
  exact ⟨rfl, rfl, trivial⟩
theorem cg_87_47 (hd : 0 ≤ d) (hS : mz_extR S 232) (hR : mz_rok R 232)  (v1 : Int32) (N : mz_N) {C0 : (mz_N) → Prop} (hr : ∀ (N2 : mz_N), C0 N2 → Q (.inl none) (mz_k S R N2 b t)) {C1 : ((Int32 × mz_N) ⊕ (mz_N)) → Prop} (hc1 : ∀ s2, C1 (.inl s2) → mz_G (d, mz_X0 L xs, none, [], mk_87, 2, Q) 2 mt_87_2 [(0, .ref 2), (1, .int s2.1)] [] false (mz_k S R s2.2 b t)) (hx1 : ∀ z, C1 (.inr z) → C0 z) (hp : cp_87_47 v1 N) (hC : C1 (cf_87_47 v1 N)) : mz_G (d, mz_X0 L xs, none, [], mk_87, 2, Q) 47 mt_87_47 [(0, .ref 2), (1, .int v1)] [] false (mz_k S R N b t) := by
  unfold cf_87_47 at hC
  unfold cp_87_47 at hp
  refine g_goto (tg := 68) rfl ms_87_68 ?_
  refine g_weak ?_ (g_cl (cg_87_68 hd hS hR v1 N hr hc1 hx1 hp hC))
  exact ⟨rfl, rfl, trivial⟩
theorem cb_87_2 (hd : 0 ≤ d) (hS : mz_extR S 232) (hR : mz_rok R 232)   (s : Int32 × mz_N) {C0 : (mz_N) → Prop} (hr : ∀ (N2 : mz_N), C0 N2 → Q (.inl none) (mz_k S R N2 b t)) {C1 : ((Int32 × mz_N) ⊕ (mz_N)) → Prop} (hc1 : ∀ s2, C1 (.inl s2) → mz_G (d, mz_X0 L xs, none, [], mk_87, 2, Q) 2 mt_87_2 [(0, .ref 2), (1, .int s2.1)] [] false (mz_k S R s2.2 b t)) (hx1 : ∀ z, C1 (.inr z) → C0 z) (hp : cd_87_2  s) (hC : C1 (cq_87_2  s)) : mz_G (d, mz_X0 L xs, none, [], mk_87, 2, Q) 2 mt_87_2 [(0, .ref 2), (1, .int s.1)] [] false (mz_k S R s.2 b t) := by
  unfold cq_87_2 at hC
  unfold cd_87_2 at hp
  refine g_iload_n rfl (g_sipush mzs_240 ?_)
  refine g_icge (tg := 74) rfl ms_87_74 hC (fun h1 hC => ?_) (fun h1 hC => ?_)
  · have hp := hp.1 h1
    refine g_iload_n rfl (g_bipush mzb_48 (g_iadd (g_sipush mzs_240 ?_)))
    refine g_icge (tg := 50) rfl ms_87_50 hC (fun h2 hC => ?_) (fun h2 hC => ?_)
    · have hp := hp.1 h2
      refine g_aload_n rfl (g_getR (mz_at hS (Nat.le_of_ble_eq_true rfl) mzcS_2) mzcf_5_11 (mz_rb hR (Nat.le_of_ble_eq_true rfl) rfl mzcR_2_11) (g_aload_n rfl (g_getR (mz_at hS (Nat.le_of_ble_eq_true rfl) mzcS_2) mzcf_5_8 (mz_rb hR (Nat.le_of_ble_eq_true rfl) rfl mzcR_2_8) (g_iload_n rfl ?_))))
      obtain ⟨h3, hp⟩ := hp
      refine g_iald hS.1 (mz_at hS (Nat.le_of_ble_eq_true rfl) mzcS_15) h3 (g_bipush mzb_40 (g_imul (g_aload_n rfl (g_getR (mz_at hS (Nat.le_of_ble_eq_true rfl) mzcS_2) mzcf_5_8 (mz_rb hR (Nat.le_of_ble_eq_true rfl) rfl mzcR_2_8) (g_iload_n rfl (g_bipush mzb_48 (g_iadd ?_)))))))
      obtain ⟨h4, hp⟩ := hp
      refine g_iald hS.1 (mz_at hS (Nat.le_of_ble_eq_true rfl) mzcS_15) h4 (g_iadd (g_dup2 rfl rfl ?_))
      obtain ⟨h5, hp⟩ := hp
      refine g_iald hS.1 (mz_at hS (Nat.le_of_ble_eq_true rfl) mzcS_31) h5 (g_iconst mzi_1 (g_iadd ?_))
      obtain ⟨h6, hp⟩ := hp
      refine g_iast (mz_at hS (Nat.le_of_ble_eq_true rfl) mzcS_31) h6 ?_
      refine g_weak ?_ (g_cl (cg_87_47 hd hS hR s.1 (mz_wI s.2 31 (((mz_gI s.2 15 s.1) * 40) + (mz_gI s.2 15 (s.1 + 48))) ((mz_gI s.2 31 (((mz_gI s.2 15 s.1) * 40) + (mz_gI s.2 15 (s.1 + 48)))) + 1)) hr hc1 hx1 hp hC))
      exact ⟨rfl, rfl, trivial⟩
    · have hp := hp.2 h2
      refine g_aload_n rfl (g_getR (mz_at hS (Nat.le_of_ble_eq_true rfl) mzcS_2) mzcf_5_9 (mz_rb hR (Nat.le_of_ble_eq_true rfl) rfl mzcR_2_9) (g_bipush mzb_10 (g_aald4 (m := 27) (mz_at hS (Nat.le_of_ble_eq_true rfl) mzcS_16) (mz_ibd (by decide)) (mz_rb hR (Nat.le_of_ble_eq_true rfl) rfl mzcRr_16_10) (g_aload_n rfl (g_getR (mz_at hS (Nat.le_of_ble_eq_true rfl) mzcS_2) mzcf_5_8 (mz_rb hR (Nat.le_of_ble_eq_true rfl) rfl mzcR_2_8) (g_iload_n rfl ?_))))))
      obtain ⟨h7, hp⟩ := hp
      refine g_iald hS.1 (mz_at hS (Nat.le_of_ble_eq_true rfl) mzcS_15) h7 (g_dup2 rfl rfl ?_)
      obtain ⟨h8, hp⟩ := hp
      refine g_iald hS.1 (mz_at hS (Nat.le_of_ble_eq_true rfl) mzcS_27) h8 (g_iconst mzi_1 (g_iadd ?_))
      obtain ⟨h9, hp⟩ := hp
      refine g_iast (mz_at hS (Nat.le_of_ble_eq_true rfl) mzcS_27) h9 ?_
      refine g_weak ?_ (g_cl (cg_87_68 hd hS hR s.1 (mz_wI s.2 27 (mz_gI s.2 15 s.1) ((mz_gI s.2 27 (mz_gI s.2 15 s.1)) + 1)) hr hc1 hx1 hp hC))
      exact ⟨rfl, rfl, trivial⟩
  · have hp := hp.2 h1
    exact g_vret rfl (hr _ (hx1 _ hC))
theorem cg_87_2 (hd : 0 ≤ d) (hS : mz_extR S 232) (hR : mz_rok R 232)  (v1 : Int32) (N : mz_N) {C0 : (mz_N) → Prop} (hr : ∀ (N2 : mz_N), C0 N2 → Q (.inl none) (mz_k S R N2 b t)) (hp : cp_87_2 v1 N) (hC : C0 (cf_87_2 v1 N)) : mz_G (d, mz_X0 L xs, none, [], mk_87, 2, Q) 2 mt_87_2 [(0, .ref 2), (1, .int v1)] [] false (mz_k S R N b t) := by
  obtain ⟨n, hn⟩ := hp
  exact g_loop (G := fun s => mz_G (d, mz_X0 L xs, none, [], mk_87, 2, Q) 2 mt_87_2 [(0, .ref 2), (1, .int s.1)] [] false (mz_k S R s.2 b t)) (C := C0) (fun C2 hc hx s hP hC => cb_87_2 hd hS hR  s hr hc hx hP hC) n (v1, N) hn hC
theorem cg_87_0 (hd : 0 ≤ d) (hS : mz_extR S 232) (hR : mz_rok R 232)  (N : mz_N) {C0 : (mz_N) → Prop} (hr : ∀ (N2 : mz_N), C0 N2 → Q (.inl none) (mz_k S R N2 b t)) (hp : cp_87_0 N) (hC : C0 (cf_87_0 N)) : mz_G (d, mz_X0 L xs, none, [], mk_87, 2, Q) 0 mk_87 [(0, .ref 2)] [] true (mz_k S R N b t) := by
  unfold cf_87_0 at hC
  unfold cp_87_0 at hp
  refine g_iconst mzi_0 (g_istore_n (Nat.le_of_ble_eq_true rfl) rfl ?_)
  refine g_weak ?_ (g_cl (cg_87_2 hd hS hR 0 N hr hp hC))
  exact ⟨rfl, rfl, trivial⟩
theorem cs_87 (hd : 1 ≤ d) (hS : mz_extR S 232) (hR : mz_rok R 232)  (N : mz_N) (hp : cp_87_0 N) (hq : Q (.inl none) (mz_k S R (cf_87_0 N) b t)) : mz_Ed (mz_X0 L xs) d 87 [.ref 2] (mz_k S R N b t) Q :=
  by
  refine g_in mzq_87 (Nat.le_of_ble_eq_true rfl) (Nat.le_of_ble_eq_true rfl) (Nat.le_trans (Nat.le_of_ble_eq_true rfl) hd) ?_
  refine g_weak ?_ (cg_87_0 (d := d - 1) (by omega) hS hR N (C0 := fun z => Q (.inl none) (mz_k S R z b t)) (fun _ h => h) hp hq)
  exact ⟨rfl, trivial⟩
/-! 88 KeptHouse$Plan.listPairs ()V -/
theorem ms_88_0 : mz_sf mk_88 0 = mk_88 := mz_sf_zero _
theorem ms_88_7 : mz_sf mk_88 7 = mt_88_7 := mz_sf_add ms_88_0 (t := 7) rfl rfl
theorem ms_88_19 : mz_sf mk_88 19 = mt_88_19 := mz_sf_add ms_88_7 (t := 12) rfl rfl
theorem ms_88_39 : mz_sf mk_88 39 = mt_88_39 := mz_sf_add ms_88_19 (t := 20) rfl rfl
theorem ms_88_67 : mz_sf mk_88 67 = mt_88_67 := mz_sf_add ms_88_39 (t := 28) rfl rfl
theorem ms_88_89 : mz_sf mk_88 89 = mt_88_89 := mz_sf_add ms_88_67 (t := 22) rfl rfl
theorem ms_88_95 : mz_sf mk_88 95 = mt_88_95 := mz_sf_add ms_88_89 (t := 6) rfl rfl
theorem ms_88_101 : mz_sf mk_88 101 = mt_88_101 := mz_sf_add ms_88_95 (t := 6) rfl rfl
set_option maxRecDepth 100000 in
theorem mzq_88 : mz_PG0 88 = some (5, ⟨"KeptHouse$Plan", "listPairs", "()V"⟩, prog_7_method_30_code, 4, none, [], mk_88, []) := rfl
theorem cg_88_89 (hd : 0 ≤ d) (hS : mz_extR S 232) (hR : mz_rok R 232)  (v1 : Int32) (v2 : Int32) (N : mz_N) {C0 : (mz_N) → Prop} (hr : ∀ (N2 : mz_N), C0 N2 → Q (.inl none) (mz_k S R N2 b t)) {C1 : ((Int32 × mz_N) ⊕ (mz_N)) → Prop} (hc1 : ∀ s2, C1 (.inl s2) → mz_G (d, mz_X0 L xs, none, [], mk_88, 4, Q) 7 mt_88_7 [(0, .ref 2), (1, .int s2.1)] [] false (mz_k S R s2.2 b t)) (hx1 : ∀ z, C1 (.inr z) → C0 z) {C2 : ((Int32 × mz_N) ⊕ ((Int32 × mz_N) ⊕ (mz_N))) → Prop} (hc2 : ∀ s2, C2 (.inl s2) → mz_G (d, mz_X0 L xs, none, [], mk_88, 4, Q) 19 mt_88_19 [(0, .ref 2), (1, .int v1), (2, .int s2.1)] [] false (mz_k S R s2.2 b t)) (hx2 : ∀ z, C2 (.inr z) → C1 z) (hp : cp_88_89 v1 v2 N) (hC : C2 (cf_88_89 v1 v2 N)) : mz_G (d, mz_X0 L xs, none, [], mk_88, 4, Q) 89 mt_88_89 [(0, .ref 2), (1, .int v1), (2, .int v2)] [] false (mz_k S R N b t) := by
  unfold cf_88_89 at hC
  unfold cp_88_89 at hp
  refine g_iinc rfl mzi_1 (Nat.le_of_ble_eq_true rfl) rfl (g_goto (tg := 19) rfl ms_88_19 ?_)
  refine g_weak ?_ (g_cl (hc2 ((v2 + 1), N) hC))
  exact ⟨rfl, rfl, rfl, trivial⟩
theorem cg_88_67 (hd : 0 ≤ d) (hS : mz_extR S 232) (hR : mz_rok R 232)  (v1 : Int32) (v2 : Int32) (v3 : Int32) (N : mz_N) {C0 : (mz_N) → Prop} (hr : ∀ (N2 : mz_N), C0 N2 → Q (.inl none) (mz_k S R N2 b t)) {C1 : ((Int32 × mz_N) ⊕ (mz_N)) → Prop} (hc1 : ∀ s2, C1 (.inl s2) → mz_G (d, mz_X0 L xs, none, [], mk_88, 4, Q) 7 mt_88_7 [(0, .ref 2), (1, .int s2.1)] [] false (mz_k S R s2.2 b t)) (hx1 : ∀ z, C1 (.inr z) → C0 z) {C2 : ((Int32 × mz_N) ⊕ ((Int32 × mz_N) ⊕ (mz_N))) → Prop} (hc2 : ∀ s2, C2 (.inl s2) → mz_G (d, mz_X0 L xs, none, [], mk_88, 4, Q) 19 mt_88_19 [(0, .ref 2), (1, .int v1), (2, .int s2.1)] [] false (mz_k S R s2.2 b t)) (hx2 : ∀ z, C2 (.inr z) → C1 z) (hp : cp_88_67 v1 v2 v3 N) (hC : C2 (cf_88_67 v1 v2 v3 N)) : mz_G (d, mz_X0 L xs, none, [], mk_88, 4, Q) 67 mt_88_67 [(0, .ref 2), (1, .int v1), (2, .int v2), (3, .int v3)] [] false (mz_k S R N b t) := by
  unfold cf_88_67 at hC
  unfold cp_88_67 at hp
  refine g_aload_n rfl (g_getR (mz_at hS (Nat.le_of_ble_eq_true rfl) mzcS_2) mzcf_5_12 (mz_rb hR (Nat.le_of_ble_eq_true rfl) rfl mzcR_2_12) (g_iconst mzi_2 (g_aald4 (m := 35) (mz_at hS (Nat.le_of_ble_eq_true rfl) mzcS_32) (mz_ibd (by decide)) (mz_rb hR (Nat.le_of_ble_eq_true rfl) rfl mzcRr_32_2) (g_aload_n rfl (g_getI (mz_at hS (Nat.le_of_ble_eq_true rfl) mzcS_2) mzcf_5_13 (g_iload_n rfl ?_))))))
  obtain ⟨h1, hp⟩ := hp
  refine g_iast (mz_at hS (Nat.le_of_ble_eq_true rfl) mzcS_35) h1 (g_aload_n rfl (g_dup rfl (g_getI (mz_at hS (Nat.le_of_ble_eq_true rfl) mzcS_2) mzcf_5_13 (g_iconst mzi_1 (g_iadd (g_putI (mz_at hS (Nat.le_of_ble_eq_true rfl) mzcS_2) mzcf_5_13 ?_))))))
  refine g_weak ?_ (g_cl (cg_88_89 hd hS hR v1 v2 (mz_pI (mz_wI N 35 (N.1 2 13) v3) 2 13 (((mz_wI N 35 (N.1 2 13) v3).1 2 13) + 1)) hr hc1 hx1 hc2 hx2 hp hC))
  exact ⟨rfl, rfl, rfl, trivial⟩
theorem cb_88_19 (hd : 0 ≤ d) (hS : mz_extR S 232) (hR : mz_rok R 232)  (v1 : Int32) (s : Int32 × mz_N) {C0 : (mz_N) → Prop} (hr : ∀ (N2 : mz_N), C0 N2 → Q (.inl none) (mz_k S R N2 b t)) {C1 : ((Int32 × mz_N) ⊕ (mz_N)) → Prop} (hc1 : ∀ s2, C1 (.inl s2) → mz_G (d, mz_X0 L xs, none, [], mk_88, 4, Q) 7 mt_88_7 [(0, .ref 2), (1, .int s2.1)] [] false (mz_k S R s2.2 b t)) (hx1 : ∀ z, C1 (.inr z) → C0 z) {C2 : ((Int32 × mz_N) ⊕ ((Int32 × mz_N) ⊕ (mz_N))) → Prop} (hc2 : ∀ s2, C2 (.inl s2) → mz_G (d, mz_X0 L xs, none, [], mk_88, 4, Q) 19 mt_88_19 [(0, .ref 2), (1, .int v1), (2, .int s2.1)] [] false (mz_k S R s2.2 b t)) (hx2 : ∀ z, C2 (.inr z) → C1 z) (hp : cd_88_19 v1 s) (hC : C2 (cq_88_19 v1 s)) : mz_G (d, mz_X0 L xs, none, [], mk_88, 4, Q) 19 mt_88_19 [(0, .ref 2), (1, .int v1), (2, .int s.1)] [] false (mz_k S R s.2 b t) := by
  unfold cq_88_19 at hC
  unfold cd_88_19 at hp
  refine g_iload_n rfl (g_aload_n rfl (g_getI (mz_at hS (Nat.le_of_ble_eq_true rfl) mzcS_2) mzcf_5_7 ?_))
  refine g_icge (tg := 95) rfl ms_88_95 hC (fun h1 hC => ?_) (fun h1 hC => ?_)
  · have hp := hp.1 h1
    refine g_aload_n rfl (g_getR (mz_at hS (Nat.le_of_ble_eq_true rfl) mzcS_2) mzcf_5_11 (mz_rb hR (Nat.le_of_ble_eq_true rfl) rfl mzcR_2_11) (g_iload_n rfl (g_bipush mzb_40 (g_imul (g_iload_n rfl (g_iadd ?_))))))
    obtain ⟨h2, hp⟩ := hp
    refine g_iald hS.1 (mz_at hS (Nat.le_of_ble_eq_true rfl) mzcS_31) h2 (g_istore_n (Nat.le_of_ble_eq_true rfl) rfl (g_iload_n rfl ?_))
    refine g_ifle (tg := 89) rfl ms_88_89 hC (fun h3 hC => ?_) (fun h3 hC => ?_)
    · have hp := hp.1 h3
      refine g_aload_n rfl (g_getR (mz_at hS (Nat.le_of_ble_eq_true rfl) mzcS_2) mzcf_5_12 (mz_rb hR (Nat.le_of_ble_eq_true rfl) rfl mzcR_2_12) (g_iconst mzi_0 (g_aald4 (m := 33) (mz_at hS (Nat.le_of_ble_eq_true rfl) mzcS_32) (mz_ibd (by decide)) (mz_rb hR (Nat.le_of_ble_eq_true rfl) rfl mzcRr_32_0) (g_aload_n rfl (g_getI (mz_at hS (Nat.le_of_ble_eq_true rfl) mzcS_2) mzcf_5_13 (g_iload_n rfl ?_))))))
      obtain ⟨h4, hp⟩ := hp
      refine g_iast (mz_at hS (Nat.le_of_ble_eq_true rfl) mzcS_33) h4 (g_aload_n rfl (g_getR (mz_at hS (Nat.le_of_ble_eq_true rfl) mzcS_2) mzcf_5_12 (mz_rb hR (Nat.le_of_ble_eq_true rfl) rfl mzcR_2_12) (g_iconst mzi_1 (g_aald4 (m := 34) (mz_at hS (Nat.le_of_ble_eq_true rfl) mzcS_32) (mz_ibd (by decide)) (mz_rb hR (Nat.le_of_ble_eq_true rfl) rfl mzcRr_32_1) (g_aload_n rfl (g_getI (mz_at hS (Nat.le_of_ble_eq_true rfl) mzcS_2) mzcf_5_13 (g_iload_n rfl ?_)))))))
      obtain ⟨h5, hp⟩ := hp
      refine g_iast (mz_at hS (Nat.le_of_ble_eq_true rfl) mzcS_34) h5 ?_
      refine g_weak ?_ (g_cl (cg_88_67 hd hS hR v1 s.1 (mz_gI s.2 31 ((v1 * 40) + s.1)) (mz_wI (mz_wI s.2 33 (s.2.1 2 13) v1) 34 ((mz_wI s.2 33 (s.2.1 2 13) v1).1 2 13) s.1) hr hc1 hx1 hc2 hx2 hp hC))
      exact ⟨rfl, rfl, rfl, rfl, trivial⟩
    · have hp := hp.2 h3
      refine g_weak ?_ (g_cl (cg_88_89 hd hS hR v1 s.1 s.2 hr hc1 hx1 hc2 hx2 hp hC))
      exact ⟨rfl, rfl, rfl, trivial⟩
  · have hp := hp.2 h1
    refine g_iinc rfl mzi_1 (Nat.le_of_ble_eq_true rfl) rfl (g_goto (tg := 7) rfl ms_88_7 ?_)
    refine g_weak ?_ (g_cl (hc1 ((v1 + 1), s.2) (hx2 _ hC)))
    exact ⟨rfl, rfl, trivial⟩
theorem cg_88_19 (hd : 0 ≤ d) (hS : mz_extR S 232) (hR : mz_rok R 232)  (v1 : Int32) (v2 : Int32) (N : mz_N) {C0 : (mz_N) → Prop} (hr : ∀ (N2 : mz_N), C0 N2 → Q (.inl none) (mz_k S R N2 b t)) {C1 : ((Int32 × mz_N) ⊕ (mz_N)) → Prop} (hc1 : ∀ s2, C1 (.inl s2) → mz_G (d, mz_X0 L xs, none, [], mk_88, 4, Q) 7 mt_88_7 [(0, .ref 2), (1, .int s2.1)] [] false (mz_k S R s2.2 b t)) (hx1 : ∀ z, C1 (.inr z) → C0 z) (hp : cp_88_19 v1 v2 N) (hC : C1 (cf_88_19 v1 v2 N)) : mz_G (d, mz_X0 L xs, none, [], mk_88, 4, Q) 19 mt_88_19 [(0, .ref 2), (1, .int v1), (2, .int v2)] [] false (mz_k S R N b t) := by
  obtain ⟨n, hn⟩ := hp
  exact g_loop (G := fun s => mz_G (d, mz_X0 L xs, none, [], mk_88, 4, Q) 19 mt_88_19 [(0, .ref 2), (1, .int v1), (2, .int s.1)] [] false (mz_k S R s.2 b t)) (C := C1) (fun C2 hc hx s hP hC => cb_88_19 hd hS hR v1 s hr hc1 hx1 hc hx hP hC) n (v2, N) hn hC
theorem cb_88_7 (hd : 0 ≤ d) (hS : mz_extR S 232) (hR : mz_rok R 232)   (s : Int32 × mz_N) {C0 : (mz_N) → Prop} (hr : ∀ (N2 : mz_N), C0 N2 → Q (.inl none) (mz_k S R N2 b t)) {C1 : ((Int32 × mz_N) ⊕ (mz_N)) → Prop} (hc1 : ∀ s2, C1 (.inl s2) → mz_G (d, mz_X0 L xs, none, [], mk_88, 4, Q) 7 mt_88_7 [(0, .ref 2), (1, .int s2.1)] [] false (mz_k S R s2.2 b t)) (hx1 : ∀ z, C1 (.inr z) → C0 z) (hp : cd_88_7  s) (hC : C1 (cq_88_7  s)) : mz_G (d, mz_X0 L xs, none, [], mk_88, 4, Q) 7 mt_88_7 [(0, .ref 2), (1, .int s.1)] [] false (mz_k S R s.2 b t) := by
  unfold cq_88_7 at hC
  unfold cd_88_7 at hp
  refine g_iload_n rfl (g_aload_n rfl (g_getI (mz_at hS (Nat.le_of_ble_eq_true rfl) mzcS_2) mzcf_5_7 ?_))
  refine g_icge (tg := 101) rfl ms_88_101 hC (fun h1 hC => ?_) (fun h1 hC => ?_)
  · have hp := hp.1 h1
    refine g_iload_n rfl (g_iconst mzi_1 (g_iadd (g_istore_n (Nat.le_of_ble_eq_true rfl) rfl ?_)))
    refine g_weak ?_ (g_cl (cg_88_19 hd hS hR s.1 (s.1 + 1) s.2 hr hc1 hx1 hp hC))
    exact ⟨rfl, rfl, rfl, trivial⟩
  · have hp := hp.2 h1
    exact g_vret rfl (hr _ (hx1 _ hC))
theorem cg_88_7 (hd : 0 ≤ d) (hS : mz_extR S 232) (hR : mz_rok R 232)  (v1 : Int32) (N : mz_N) {C0 : (mz_N) → Prop} (hr : ∀ (N2 : mz_N), C0 N2 → Q (.inl none) (mz_k S R N2 b t)) (hp : cp_88_7 v1 N) (hC : C0 (cf_88_7 v1 N)) : mz_G (d, mz_X0 L xs, none, [], mk_88, 4, Q) 7 mt_88_7 [(0, .ref 2), (1, .int v1)] [] false (mz_k S R N b t) := by
  obtain ⟨n, hn⟩ := hp
  exact g_loop (G := fun s => mz_G (d, mz_X0 L xs, none, [], mk_88, 4, Q) 7 mt_88_7 [(0, .ref 2), (1, .int s.1)] [] false (mz_k S R s.2 b t)) (C := C0) (fun C2 hc hx s hP hC => cb_88_7 hd hS hR  s hr hc hx hP hC) n (v1, N) hn hC
theorem cg_88_0 (hd : 0 ≤ d) (hS : mz_extR S 232) (hR : mz_rok R 232)  (N : mz_N) {C0 : (mz_N) → Prop} (hr : ∀ (N2 : mz_N), C0 N2 → Q (.inl none) (mz_k S R N2 b t)) (hp : cp_88_0 N) (hC : C0 (cf_88_0 N)) : mz_G (d, mz_X0 L xs, none, [], mk_88, 4, Q) 0 mk_88 [(0, .ref 2)] [] true (mz_k S R N b t) := by
  unfold cf_88_0 at hC
  unfold cp_88_0 at hp
  refine g_aload_n rfl (g_iconst mzi_0 (g_putI (mz_at hS (Nat.le_of_ble_eq_true rfl) mzcS_2) mzcf_5_13 (g_iconst mzi_0 (g_istore_n (Nat.le_of_ble_eq_true rfl) rfl ?_))))
  refine g_weak ?_ (g_cl (cg_88_7 hd hS hR 0 (mz_pI N 2 13 0) hr hp hC))
  exact ⟨rfl, rfl, trivial⟩
theorem cs_88 (hd : 1 ≤ d) (hS : mz_extR S 232) (hR : mz_rok R 232)  (N : mz_N) (hp : cp_88_0 N) (hq : Q (.inl none) (mz_k S R (cf_88_0 N) b t)) : mz_Ed (mz_X0 L xs) d 88 [.ref 2] (mz_k S R N b t) Q :=
  by
  refine g_in mzq_88 (Nat.le_of_ble_eq_true rfl) (Nat.le_of_ble_eq_true rfl) (Nat.le_trans (Nat.le_of_ble_eq_true rfl) hd) ?_
  refine g_weak ?_ (cg_88_0 (d := d - 1) (by omega) hS hR N (C0 := fun z => Q (.inl none) (mz_k S R z b t)) (fun _ h => h) hp hq)
  exact ⟨rfl, trivial⟩
/-! 89 KeptHouse$Plan.findHearts ()V -/
theorem ms_89_0 : mz_sf mk_89 0 = mk_89 := mz_sf_zero _
theorem ms_89_18 : mz_sf mk_89 18 = mt_89_18 := mz_sf_add ms_89_0 (t := 18) rfl rfl
theorem ms_89_41 : mz_sf mk_89 41 = mt_89_41 := mz_sf_add ms_89_18 (t := 23) rfl rfl
theorem ms_89_58 : mz_sf mk_89 58 = mt_89_58 := mz_sf_add ms_89_41 (t := 17) rfl rfl
theorem ms_89_75 : mz_sf mk_89 75 = mt_89_75 := mz_sf_add ms_89_58 (t := 17) rfl rfl
theorem ms_89_81 : mz_sf mk_89 81 = mt_89_81 := mz_sf_add ms_89_75 (t := 6) rfl rfl
set_option maxRecDepth 100000 in
theorem mzq_89 : mz_PG0 89 = some (5, ⟨"KeptHouse$Plan", "findHearts", "()V"⟩, prog_7_method_31_code, 3, none, [], mk_89, []) := rfl
theorem cg_89_75 (hd : 1 ≤ d) (hS : mz_extR S 232) (hR : mz_rok R 232)  (v1 : Int32) (N : mz_N) {C0 : (mz_N) → Prop} (hr : ∀ (N2 : mz_N), C0 N2 → Q (.inl none) (mz_k S R N2 b t)) {C1 : ((Int32 × mz_N) ⊕ (mz_N)) → Prop} (hc1 : ∀ s2, C1 (.inl s2) → mz_G (d, mz_X0 L xs, none, [], mk_89, 3, Q) 18 mt_89_18 [(0, .ref 2), (1, .int s2.1)] [] false (mz_k S R s2.2 b t)) (hx1 : ∀ z, C1 (.inr z) → C0 z) (hp : cp_89_75 v1 N) (hC : C1 (cf_89_75 v1 N)) : mz_G (d, mz_X0 L xs, none, [], mk_89, 3, Q) 75 mt_89_75 [(0, .ref 2), (1, .int v1)] [] false (mz_k S R N b t) := by
  unfold cf_89_75 at hC
  unfold cp_89_75 at hp
  refine g_iinc rfl mzi_1 (Nat.le_of_ble_eq_true rfl) rfl (g_goto (tg := 18) rfl ms_89_18 ?_)
  refine g_weak ?_ (g_cl (hc1 ((v1 + 1), N) hC))
  exact ⟨rfl, rfl, trivial⟩
theorem cg_89_58 (hd : 1 ≤ d) (hS : mz_extR S 232) (hR : mz_rok R 232)  (v1 : Int32) (v2 : Int32) (N : mz_N) {C0 : (mz_N) → Prop} (hr : ∀ (N2 : mz_N), C0 N2 → Q (.inl none) (mz_k S R N2 b t)) {C1 : ((Int32 × mz_N) ⊕ (mz_N)) → Prop} (hc1 : ∀ s2, C1 (.inl s2) → mz_G (d, mz_X0 L xs, none, [], mk_89, 3, Q) 18 mt_89_18 [(0, .ref 2), (1, .int s2.1)] [] false (mz_k S R s2.2 b t)) (hx1 : ∀ z, C1 (.inr z) → C0 z) (hp : cp_89_58 v1 v2 N) (hC : C1 (cf_89_58 v1 v2 N)) : mz_G (d, mz_X0 L xs, none, [], mk_89, 3, Q) 58 mt_89_58 [(0, .ref 2), (1, .int v1), (2, .int v2)] [] false (mz_k S R N b t) := by
  unfold cf_89_58 at hC
  unfold cp_89_58 at hp
  refine g_aload_n rfl (g_getR (mz_at hS (Nat.le_of_ble_eq_true rfl) mzcS_2) mzcf_5_16 (mz_rb hR (Nat.le_of_ble_eq_true rfl) rfl mzcR_2_16) (g_iload_n rfl ?_))
  obtain ⟨h1, hp⟩ := hp
  refine g_iald hS.1 (mz_at hS (Nat.le_of_ble_eq_true rfl) mzcS_38) h1 (g_iconst mzi_m1 ?_)
  refine g_icne (tg := 75) rfl ms_89_75 hC (fun h2 hC => ?_) (fun h2 hC => ?_)
  · have hp := hp.1 h2
    refine g_aload_n rfl (g_getR (mz_at hS (Nat.le_of_ble_eq_true rfl) mzcS_2) mzcf_5_16 (mz_rb hR (Nat.le_of_ble_eq_true rfl) rfl mzcR_2_16) (g_iload_n rfl (g_iload_n rfl ?_)))
    obtain ⟨h3, hp⟩ := hp
    refine g_iast (mz_at hS (Nat.le_of_ble_eq_true rfl) mzcS_38) h3 ?_
    refine g_weak ?_ (g_cl (cg_89_75 hd hS hR v1 (mz_wI N 38 v2 v1) hr hc1 hx1 hp hC))
    exact ⟨rfl, rfl, trivial⟩
  · have hp := hp.2 h2
    refine g_weak ?_ (g_cl (cg_89_75 hd hS hR v1 N hr hc1 hx1 hp hC))
    exact ⟨rfl, rfl, trivial⟩
theorem cb_89_18 (hd : 1 ≤ d) (hS : mz_extR S 232) (hR : mz_rok R 232)   (s : Int32 × mz_N) {C0 : (mz_N) → Prop} (hr : ∀ (N2 : mz_N), C0 N2 → Q (.inl none) (mz_k S R N2 b t)) {C1 : ((Int32 × mz_N) ⊕ (mz_N)) → Prop} (hc1 : ∀ s2, C1 (.inl s2) → mz_G (d, mz_X0 L xs, none, [], mk_89, 3, Q) 18 mt_89_18 [(0, .ref 2), (1, .int s2.1)] [] false (mz_k S R s2.2 b t)) (hx1 : ∀ z, C1 (.inr z) → C0 z) (hp : cd_89_18  s) (hC : C1 (cq_89_18  s)) : mz_G (d, mz_X0 L xs, none, [], mk_89, 3, Q) 18 mt_89_18 [(0, .ref 2), (1, .int s.1)] [] false (mz_k S R s.2 b t) := by
  unfold cq_89_18 at hC
  unfold cd_89_18 at hp
  refine g_iload_n rfl (g_aload_n rfl (g_getI (mz_at hS (Nat.le_of_ble_eq_true rfl) mzcS_2) mzcf_5_7 ?_))
  refine g_icge (tg := 81) rfl ms_89_81 hC (fun h1 hC => ?_) (fun h1 hC => ?_)
  · have hp := hp.1 h1
    refine g_aload_n rfl (g_getR (mz_at hS (Nat.le_of_ble_eq_true rfl) mzcS_2) mzcf_5_9 (mz_rb hR (Nat.le_of_ble_eq_true rfl) rfl mzcR_2_9) (g_iconst mzi_3 (g_aald4 (m := 20) (mz_at hS (Nat.le_of_ble_eq_true rfl) mzcS_16) (mz_ibd (by decide)) (mz_rb hR (Nat.le_of_ble_eq_true rfl) rfl mzcRr_16_3) (g_iload_n rfl ?_))))
    obtain ⟨h2, hp⟩ := hp
    refine g_iald hS.1 (mz_at hS (Nat.le_of_ble_eq_true rfl) mzcS_20) h2 (g_istore_n (Nat.le_of_ble_eq_true rfl) rfl (g_iload_n rfl (g_bipush mzb_10 ?_)))
    refine g_icge (tg := 75) rfl ms_89_75 hC (fun h3 hC => ?_) (fun h3 hC => ?_)
    · have hp := hp.1 h3
      refine g_aload_n rfl (g_getR (mz_at hS (Nat.le_of_ble_eq_true rfl) mzcS_2) mzcf_5_17 (mz_rb hR (Nat.le_of_ble_eq_true rfl) rfl mzcR_2_17) (g_iload_n rfl (g_dup2 rfl rfl ?_)))
      obtain ⟨h4, hp⟩ := hp
      refine g_iald hS.1 (mz_at hS (Nat.le_of_ble_eq_true rfl) mzcS_39) h4 (g_aload_n rfl (g_getR (mz_at hS (Nat.le_of_ble_eq_true rfl) mzcS_2) mzcf_5_9 (mz_rb hR (Nat.le_of_ble_eq_true rfl) rfl mzcR_2_9) (g_iconst mzi_2 (g_aald4 (m := 19) (mz_at hS (Nat.le_of_ble_eq_true rfl) mzcS_16) (mz_ibd (by decide)) (mz_rb hR (Nat.le_of_ble_eq_true rfl) rfl mzcRr_16_2) (g_iload_n rfl ?_)))))
      obtain ⟨h5, hp⟩ := hp
      refine g_iald hS.1 (mz_at hS (Nat.le_of_ble_eq_true rfl) mzcS_19) h5 (g_iadd ?_)
      obtain ⟨h6, hp⟩ := hp
      refine g_iast (mz_at hS (Nat.le_of_ble_eq_true rfl) mzcS_39) h6 ?_
      refine g_weak ?_ (g_cl (cg_89_58 hd hS hR s.1 (mz_gI s.2 20 s.1) (mz_wI s.2 39 (mz_gI s.2 20 s.1) ((mz_gI s.2 39 (mz_gI s.2 20 s.1)) + (mz_gI s.2 19 s.1))) hr hc1 hx1 hp hC))
      exact ⟨rfl, rfl, rfl, trivial⟩
    · have hp := hp.2 h3
      refine g_weak ?_ (g_cl (cg_89_75 hd hS hR s.1 s.2 hr hc1 hx1 hp hC))
      exact ⟨rfl, rfl, trivial⟩
  · have hp := hp.2 h1
    exact g_vret rfl (hr _ (hx1 _ hC))
theorem cg_89_18 (hd : 1 ≤ d) (hS : mz_extR S 232) (hR : mz_rok R 232)  (v1 : Int32) (N : mz_N) {C0 : (mz_N) → Prop} (hr : ∀ (N2 : mz_N), C0 N2 → Q (.inl none) (mz_k S R N2 b t)) (hp : cp_89_18 v1 N) (hC : C0 (cf_89_18 v1 N)) : mz_G (d, mz_X0 L xs, none, [], mk_89, 3, Q) 18 mt_89_18 [(0, .ref 2), (1, .int v1)] [] false (mz_k S R N b t) := by
  obtain ⟨n, hn⟩ := hp
  exact g_loop (G := fun s => mz_G (d, mz_X0 L xs, none, [], mk_89, 3, Q) 18 mt_89_18 [(0, .ref 2), (1, .int s.1)] [] false (mz_k S R s.2 b t)) (C := C0) (fun C2 hc hx s hP hC => cb_89_18 hd hS hR  s hr hc hx hP hC) n (v1, N) hn hC
theorem cg_89_0 (hd : 1 ≤ d) (hS : mz_extR S 232) (hR : mz_rok R 232)  (N : mz_N) {C0 : (mz_N) → Prop} (hr : ∀ (N2 : mz_N), C0 N2 → Q (.inl none) (mz_k S R N2 b t)) (hp : cp_89_0 N) (hC : C0 (cf_89_0 N)) : mz_G (d, mz_X0 L xs, none, [], mk_89, 3, Q) 0 mk_89 [(0, .ref 2)] [] true (mz_k S R N b t) := by
  unfold cf_89_0 at hC
  unfold cp_89_0 at hp
  refine g_aload_n rfl (g_getR (mz_at hS (Nat.le_of_ble_eq_true rfl) mzcS_2) mzcf_5_16 (mz_rb hR (Nat.le_of_ble_eq_true rfl) rfl mzcR_2_16) (g_iconst mzi_m1 ?_))
  obtain ⟨h1, hp⟩ := hp
  refine g_s2n (Nat.le_of_ble_eq_true rfl) (fun _ hq => cs_13 (Nat.le_trans (Nat.le_of_ble_eq_true rfl) hd) (hS.le (Nat.le_of_ble_eq_true rfl)) (hR.le (Nat.le_of_ble_eq_true rfl)) 38 10 (mz_at hS (Nat.le_of_ble_eq_true rfl) mzcS_38) (-1) N h1 hq) (g_aload_n rfl (g_getR (mz_at hS (Nat.le_of_ble_eq_true rfl) mzcS_2) mzcf_5_17 (mz_rb hR (Nat.le_of_ble_eq_true rfl) rfl mzcR_2_17) (g_iconst mzi_0 ?_)))
  obtain ⟨h2, hp⟩ := hp
  refine g_s2n (Nat.le_of_ble_eq_true rfl) (fun _ hq => cs_13 (Nat.le_trans (Nat.le_of_ble_eq_true rfl) hd) (hS.le (Nat.le_of_ble_eq_true rfl)) (hR.le (Nat.le_of_ble_eq_true rfl)) 39 10 (mz_at hS (Nat.le_of_ble_eq_true rfl) mzcS_39) 0 (cf_13_0 38 10 (-1) N) h2 hq) (g_iconst mzi_0 (g_istore_n (Nat.le_of_ble_eq_true rfl) rfl ?_))
  refine g_weak ?_ (g_cl (cg_89_18 hd hS hR 0 (cf_13_0 39 10 0 (cf_13_0 38 10 (-1) N)) hr hp hC))
  exact ⟨rfl, rfl, trivial⟩
theorem cs_89 (hd : 2 ≤ d) (hS : mz_extR S 232) (hR : mz_rok R 232)  (N : mz_N) (hp : cp_89_0 N) (hq : Q (.inl none) (mz_k S R (cf_89_0 N) b t)) : mz_Ed (mz_X0 L xs) d 89 [.ref 2] (mz_k S R N b t) Q :=
  by
  refine g_in mzq_89 (Nat.le_of_ble_eq_true rfl) (Nat.le_of_ble_eq_true rfl) (Nat.le_trans (Nat.le_of_ble_eq_true rfl) hd) ?_
  refine g_weak ?_ (cg_89_0 (d := d - 1) (by omega) hS hR N (C0 := fun z => Q (.inl none) (mz_k S R z b t)) (fun _ h => h) hp hq)
  exact ⟨rfl, trivial⟩
/-! 77 KeptHouse$Plan.survey ()V -/
theorem ms_77_0 : mz_sf mk_77 0 = mk_77 := mz_sf_zero _
theorem ms_77_23 : mz_sf mk_77 23 = mt_77_23 := mz_sf_add ms_77_0 (t := 23) rfl rfl
theorem ms_77_45 : mz_sf mk_77 45 = mt_77_45 := mz_sf_add ms_77_23 (t := 22) rfl rfl
theorem ms_77_67 : mz_sf mk_77 67 = mt_77_67 := mz_sf_add ms_77_45 (t := 22) rfl rfl
theorem ms_77_92 : mz_sf mk_77 92 = mt_77_92 := mz_sf_add ms_77_67 (t := 25) rfl rfl
theorem ms_77_95 : mz_sf mk_77 95 = mt_77_95 := mz_sf_add ms_77_92 (t := 3) rfl rfl
theorem ms_77_101 : mz_sf mk_77 101 = mt_77_101 := mz_sf_add ms_77_95 (t := 6) rfl rfl
theorem ms_77_107 : mz_sf mk_77 107 = mt_77_107 := mz_sf_add ms_77_101 (t := 6) rfl rfl
set_option maxRecDepth 100000 in
theorem mzq_77 : mz_PG0 77 = some (5, ⟨"KeptHouse$Plan", "survey", "()V"⟩, prog_7_method_25_code, 3, none, [], mk_77, []) := rfl
theorem cg_77_101 (hd : 3 ≤ d) (hS : mz_extR S 232) (hR : mz_rok R 232)  (v1 : Int32) (N : mz_N) {C0 : (mz_N) → Prop} (hr : ∀ (N2 : mz_N), C0 N2 → Q (.inl none) (mz_k S R N2 b t)) {C1 : ((Int32 × mz_N) ⊕ (mz_N)) → Prop} (hc1 : ∀ s2, C1 (.inl s2) → mz_G (d, mz_X0 L xs, none, [], mk_77, 3, Q) 67 mt_77_67 [(0, .ref 2), (1, .int s2.1)] [] false (mz_k S R s2.2 b t)) (hx1 : ∀ z, C1 (.inr z) → C0 z) (hp : cp_77_101 v1 N) (hC : C1 (cf_77_101 v1 N)) : mz_G (d, mz_X0 L xs, none, [], mk_77, 3, Q) 101 mt_77_101 [(0, .ref 2), (1, .int v1)] [] false (mz_k S R N b t) := by
  unfold cf_77_101 at hC
  unfold cp_77_101 at hp
  refine g_iinc rfl mzi_1 (Nat.le_of_ble_eq_true rfl) rfl (g_goto (tg := 67) rfl ms_77_67 ?_)
  refine g_weak ?_ (g_cl (hc1 ((v1 + 1), N) hC))
  exact ⟨rfl, rfl, trivial⟩
theorem cb_77_67 (hd : 3 ≤ d) (hS : mz_extR S 232) (hR : mz_rok R 232)   (s : Int32 × mz_N) {C0 : (mz_N) → Prop} (hr : ∀ (N2 : mz_N), C0 N2 → Q (.inl none) (mz_k S R N2 b t)) {C1 : ((Int32 × mz_N) ⊕ (mz_N)) → Prop} (hc1 : ∀ s2, C1 (.inl s2) → mz_G (d, mz_X0 L xs, none, [], mk_77, 3, Q) 67 mt_77_67 [(0, .ref 2), (1, .int s2.1)] [] false (mz_k S R s2.2 b t)) (hx1 : ∀ z, C1 (.inr z) → C0 z) (hp : cd_77_67  s) (hC : C1 (cq_77_67  s)) : mz_G (d, mz_X0 L xs, none, [], mk_77, 3, Q) 67 mt_77_67 [(0, .ref 2), (1, .int s.1)] [] false (mz_k S R s.2 b t) := by
  unfold cq_77_67 at hC
  unfold cd_77_67 at hp
  refine g_iload_n rfl (g_sipush mzs_550 ?_)
  refine g_icge (tg := 107) rfl ms_77_107 hC (fun h1 hC => ?_) (fun h1 hC => ?_)
  · have hp := hp.1 h1
    refine g_iload_n rfl (g_bipush mzb_110 (g_irem (by decide) ?_))
    refine g_s1v (Nat.le_of_ble_eq_true rfl) (fun _ hq => cs_21 (Nat.le_trans (Nat.le_of_ble_eq_true rfl) hd) (hS.le (Nat.le_of_ble_eq_true rfl)) (hR.le (Nat.le_of_ble_eq_true rfl))  (mz_irem s.1 110) trivial hq) (g_istore_n (Nat.le_of_ble_eq_true rfl) rfl (g_iload_n rfl (g_iconst mzi_m1 ?_)))
    refine g_icne (tg := 95) rfl ms_77_95 hC (fun h3 hC => ?_) (fun h3 hC => ?_)
    · have hp := hp.1 h3
      refine g_aload_n rfl (g_iload_n rfl ?_)
      obtain ⟨h4, hp⟩ := hp
      refine g_v2n (Nat.le_of_ble_eq_true rfl) (mz_at hS (Nat.le_of_ble_eq_true rfl) mzcS_2) (fun _ hq => cs_83 (Nat.le_trans (Nat.le_of_ble_eq_true rfl) hd) (hS.le (Nat.le_of_ble_eq_true rfl)) (hR.le (Nat.le_of_ble_eq_true rfl))  s.1 s.2 h4 hq) (g_goto (tg := 101) rfl ms_77_101 ?_)
      refine g_weak ?_ (g_cl (cg_77_101 hd hS hR s.1 (cf_83_0 s.1 s.2) hr hc1 hx1 hp hC))
      exact ⟨rfl, rfl, trivial⟩
    · have hp := hp.2 h3
      refine g_aload_n rfl (g_iload_n rfl (g_iload_n rfl ?_))
      obtain ⟨h5, hp⟩ := hp
      refine g_v3n (Nat.le_of_ble_eq_true rfl) (mz_at hS (Nat.le_of_ble_eq_true rfl) mzcS_2) (fun _ hq => cs_86 (Nat.le_trans (Nat.le_of_ble_eq_true rfl) hd) (hS.le (Nat.le_of_ble_eq_true rfl)) (hR.le (Nat.le_of_ble_eq_true rfl))  s.1 (cf_21_0 (mz_irem s.1 110)) s.2 h5 hq) ?_
      refine g_weak ?_ (g_cl (cg_77_101 hd hS hR s.1 (cf_86_0 s.1 (cf_21_0 (mz_irem s.1 110)) s.2) hr hc1 hx1 hp hC))
      exact ⟨rfl, rfl, trivial⟩
  · have hp := hp.2 h1
    refine g_aload_n rfl ?_
    obtain ⟨h6, hp⟩ := hp
    refine g_v1n (Nat.le_of_ble_eq_true rfl) (mz_at hS (Nat.le_of_ble_eq_true rfl) mzcS_2) (fun _ hq => cs_87 (Nat.le_trans (Nat.le_of_ble_eq_true rfl) hd) (hS.le (Nat.le_of_ble_eq_true rfl)) (hR.le (Nat.le_of_ble_eq_true rfl))  s.2 h6 hq) (g_aload_n rfl ?_)
    obtain ⟨h7, hp⟩ := hp
    refine g_v1n (Nat.le_of_ble_eq_true rfl) (mz_at hS (Nat.le_of_ble_eq_true rfl) mzcS_2) (fun _ hq => cs_88 (Nat.le_trans (Nat.le_of_ble_eq_true rfl) hd) (hS.le (Nat.le_of_ble_eq_true rfl)) (hR.le (Nat.le_of_ble_eq_true rfl))  (cf_87_0 s.2) h7 hq) (g_aload_n rfl ?_)
    have h8 := hp
    refine g_v1n (Nat.le_of_ble_eq_true rfl) (mz_at hS (Nat.le_of_ble_eq_true rfl) mzcS_2) (fun _ hq => cs_89 (Nat.le_trans (Nat.le_of_ble_eq_true rfl) hd) (hS.le (Nat.le_of_ble_eq_true rfl)) (hR.le (Nat.le_of_ble_eq_true rfl))  (cf_88_0 (cf_87_0 s.2)) h8 hq) ?_
    exact g_vret rfl (hr _ (hx1 _ hC))
theorem cg_77_67 (hd : 3 ≤ d) (hS : mz_extR S 232) (hR : mz_rok R 232)  (v1 : Int32) (N : mz_N) {C0 : (mz_N) → Prop} (hr : ∀ (N2 : mz_N), C0 N2 → Q (.inl none) (mz_k S R N2 b t)) (hp : cp_77_67 v1 N) (hC : C0 (cf_77_67 v1 N)) : mz_G (d, mz_X0 L xs, none, [], mk_77, 3, Q) 67 mt_77_67 [(0, .ref 2), (1, .int v1)] [] false (mz_k S R N b t) := by
  obtain ⟨n, hn⟩ := hp
  exact g_loop (G := fun s => mz_G (d, mz_X0 L xs, none, [], mk_77, 3, Q) 67 mt_77_67 [(0, .ref 2), (1, .int s.1)] [] false (mz_k S R s.2 b t)) (C := C0) (fun C2 hc hx s hP hC => cb_77_67 hd hS hR  s hr hc hx hP hC) n (v1, N) hn hC
theorem cb_77_23 (hd : 3 ≤ d) (hS : mz_extR S 232) (hR : mz_rok R 232)   (s : Int32 × mz_N) {C0 : (mz_N) → Prop} (hr : ∀ (N2 : mz_N), C0 N2 → Q (.inl none) (mz_k S R N2 b t)) {C1 : ((Int32 × mz_N) ⊕ (mz_N)) → Prop} (hc1 : ∀ s2, C1 (.inl s2) → mz_G (d, mz_X0 L xs, none, [], mk_77, 3, Q) 23 mt_77_23 [(0, .ref 2), (1, .int s2.1)] [] false (mz_k S R s2.2 b t)) (hx1 : ∀ z, C1 (.inr z) → C0 z) (hp : cd_77_23  s) (hC : C1 (cq_77_23  s)) : mz_G (d, mz_X0 L xs, none, [], mk_77, 3, Q) 23 mt_77_23 [(0, .ref 2), (1, .int s.1)] [] false (mz_k S R s.2 b t) := by
  unfold cq_77_23 at hC
  unfold cd_77_23 at hp
  refine g_iload_n rfl (g_bipush mzb_13 ?_)
  refine g_icge (tg := 45) rfl ms_77_45 hC (fun h1 hC => ?_) (fun h1 hC => ?_)
  · have hp := hp.1 h1
    refine g_aload_n rfl (g_getR (mz_at hS (Nat.le_of_ble_eq_true rfl) mzcS_2) mzcf_5_9 (mz_rb hR (Nat.le_of_ble_eq_true rfl) rfl mzcR_2_9) (g_iload_n rfl ?_))
    obtain ⟨h2, hp⟩ := hp
    refine g_aald4 (mz_at hS (Nat.le_of_ble_eq_true rfl) mzcS_16) h2 (mz_rb hR (Nat.le_of_ble_eq_true rfl) rfl (mzcR2_16 h2)) (g_iconst mzi_0 ?_)
    have h3 := hp
    refine g_s2n (Nat.le_of_ble_eq_true rfl) (fun _ hq => cs_13 (Nat.le_trans (Nat.le_of_ble_eq_true rfl) hd) (hS.le (Nat.le_of_ble_eq_true rfl)) (hR.le (Nat.le_of_ble_eq_true rfl)) (17 + s.1.toNatClampNeg) 40 (mz_at hS (mzcL2_16 h2 (Nat.le_of_ble_eq_true rfl)) (mzcS2_16 h2)) 0 s.2 h3 hq) (g_iinc rfl mzi_1 (Nat.le_of_ble_eq_true rfl) rfl (g_goto (tg := 23) rfl ms_77_23 ?_))
    refine g_weak ?_ (g_cl (hc1 ((s.1 + 1), (cf_13_0 (17 + s.1.toNatClampNeg) 40 0 s.2)) hC))
    exact ⟨rfl, rfl, trivial⟩
  · have hp := hp.2 h1
    refine g_aload_n rfl (g_getR (mz_at hS (Nat.le_of_ble_eq_true rfl) mzcS_2) mzcf_5_11 (mz_rb hR (Nat.le_of_ble_eq_true rfl) rfl mzcR_2_11) (g_iconst mzi_0 ?_))
    obtain ⟨h4, hp⟩ := hp
    refine g_s2n (Nat.le_of_ble_eq_true rfl) (fun _ hq => cs_13 (Nat.le_trans (Nat.le_of_ble_eq_true rfl) hd) (hS.le (Nat.le_of_ble_eq_true rfl)) (hR.le (Nat.le_of_ble_eq_true rfl)) 31 1600 (mz_at hS (Nat.le_of_ble_eq_true rfl) mzcS_31) 0 s.2 h4 hq) (g_aload_n rfl (g_getR (mz_at hS (Nat.le_of_ble_eq_true rfl) mzcS_2) mzcf_5_14 (mz_rb hR (Nat.le_of_ble_eq_true rfl) rfl mzcR_2_14) (g_iconst mzi_0 ?_)))
    obtain ⟨h5, hp⟩ := hp
    refine g_s2n (Nat.le_of_ble_eq_true rfl) (fun _ hq => cs_13 (Nat.le_trans (Nat.le_of_ble_eq_true rfl) hd) (hS.le (Nat.le_of_ble_eq_true rfl)) (hR.le (Nat.le_of_ble_eq_true rfl)) 36 240 (mz_at hS (Nat.le_of_ble_eq_true rfl) mzcS_36) 0 (cf_13_0 31 1600 0 s.2) h5 hq) (g_aload_n rfl ?_)
    obtain ⟨h6, hp⟩ := hp
    refine g_v1n (Nat.le_of_ble_eq_true rfl) (mz_at hS (Nat.le_of_ble_eq_true rfl) mzcS_2) (fun _ hq => cs_82 (Nat.le_trans (Nat.le_of_ble_eq_true rfl) hd) (hS.le (Nat.le_of_ble_eq_true rfl)) (hR.le (Nat.le_of_ble_eq_true rfl))  (cf_13_0 36 240 0 (cf_13_0 31 1600 0 s.2)) h6 hq) (g_iconst mzi_0 (g_istore_n (Nat.le_of_ble_eq_true rfl) rfl ?_))
    refine g_weak ?_ (g_cl (cg_77_67 hd hS hR 0 (cf_82_0 (cf_13_0 36 240 0 (cf_13_0 31 1600 0 s.2))) hr hp (hx1 _ hC)))
    exact ⟨rfl, rfl, trivial⟩
theorem cg_77_23 (hd : 3 ≤ d) (hS : mz_extR S 232) (hR : mz_rok R 232)  (v1 : Int32) (N : mz_N) {C0 : (mz_N) → Prop} (hr : ∀ (N2 : mz_N), C0 N2 → Q (.inl none) (mz_k S R N2 b t)) (hp : cp_77_23 v1 N) (hC : C0 (cf_77_23 v1 N)) : mz_G (d, mz_X0 L xs, none, [], mk_77, 3, Q) 23 mt_77_23 [(0, .ref 2), (1, .int v1)] [] false (mz_k S R N b t) := by
  obtain ⟨n, hn⟩ := hp
  exact g_loop (G := fun s => mz_G (d, mz_X0 L xs, none, [], mk_77, 3, Q) 23 mt_77_23 [(0, .ref 2), (1, .int s.1)] [] false (mz_k S R s.2 b t)) (C := C0) (fun C2 hc hx s hP hC => cb_77_23 hd hS hR  s hr hc hx hP hC) n (v1, N) hn hC
theorem cg_77_0 (hd : 3 ≤ d) (hS : mz_extR S 232) (hR : mz_rok R 232)  (N : mz_N) {C0 : (mz_N) → Prop} (hr : ∀ (N2 : mz_N), C0 N2 → Q (.inl none) (mz_k S R N2 b t)) (hp : cp_77_0 N) (hC : C0 (cf_77_0 N)) : mz_G (d, mz_X0 L xs, none, [], mk_77, 3, Q) 0 mk_77 [(0, .ref 2)] [] true (mz_k S R N b t) := by
  unfold cf_77_0 at hC
  unfold cp_77_0 at hp
  refine g_aload_n rfl (g_aload_n rfl (g_aload_n rfl (g_getR (mz_at hS (Nat.le_of_ble_eq_true rfl) mzcS_2) mzcf_5_0 (mz_rb hR (Nat.le_of_ble_eq_true rfl) rfl mzcR_2_0) (g_aload_n rfl (g_getR (mz_at hS (Nat.le_of_ble_eq_true rfl) mzcS_2) mzcf_5_8 (mz_rb hR (Nat.le_of_ble_eq_true rfl) rfl mzcR_2_8) ?_)))))
  obtain ⟨h1, hp⟩ := hp
  refine g_v3v (Nat.le_of_ble_eq_true rfl) (mz_at hS (Nat.le_of_ble_eq_true rfl) mzcS_2) (fun _ hq => cs_78 (Nat.le_trans (Nat.le_of_ble_eq_true rfl) hd) (hS.le (Nat.le_of_ble_eq_true rfl)) (hR.le (Nat.le_of_ble_eq_true rfl)) 3 15 (mz_at hS (Nat.le_of_ble_eq_true rfl) mzcS_3) (mz_at hS (Nat.le_of_ble_eq_true rfl) mzcS_15) N h1 hq) (g_bipush mzb_40 (g_imin (Nat.le_of_ble_eq_true rfl) (g_putI (mz_at hS (Nat.le_of_ble_eq_true rfl) mzcS_2) mzcf_5_7 (g_iconst mzi_0 (g_istore_n (Nat.le_of_ble_eq_true rfl) rfl ?_)))))
  refine g_weak ?_ (g_cl (cg_77_23 hd hS hR 0 (mz_pI ((cf_78_0 3 15 N).2) 2 7 (mz_imin ((cf_78_0 3 15 N).1) 40)) hr hp hC))
  exact ⟨rfl, rfl, trivial⟩
theorem cs_77 (hd : 4 ≤ d) (hS : mz_extR S 232) (hR : mz_rok R 232)  (N : mz_N) (hp : cp_77_0 N) (hq : Q (.inl none) (mz_k S R (cf_77_0 N) b t)) : mz_Ed (mz_X0 L xs) d 77 [.ref 2] (mz_k S R N b t) Q :=
  by
  refine g_in mzq_77 (Nat.le_of_ble_eq_true rfl) (Nat.le_of_ble_eq_true rfl) (Nat.le_trans (Nat.le_of_ble_eq_true rfl) hd) ?_
  refine g_weak ?_ (cg_77_0 (d := d - 1) (by omega) hS hR N (C0 := fun z => Q (.inl none) (mz_k S R z b t)) (fun _ h => h) hp hq)
  exact ⟨rfl, trivial⟩
/-! 90 KeptHouse$Plan.bring (I)V -/
theorem ms_90_0 : mz_sf mk_90 0 = mk_90 := mz_sf_zero _
theorem ms_90_36 : mz_sf mk_90 36 = mt_90_36 := mz_sf_add ms_90_0 (t := 36) rfl rfl
set_option maxRecDepth 100000 in
theorem mzq_90 : mz_PG0 90 = some (5, ⟨"KeptHouse$Plan", "bring", "(I)V"⟩, prog_7_method_12_code, 2, none, [], mk_90, []) := rfl
theorem cg_90_36 (hd : 0 ≤ d) (hS : mz_extR S 232) (hR : mz_rok R 232)  (N : mz_N) {C0 : (mz_N) → Prop} (hr : ∀ (N2 : mz_N), C0 N2 → Q (.inl none) (mz_k S R N2 b t)) (hp : cp_90_36 N) (hC : C0 (cf_90_36 N)) : mz_G (d, mz_X0 L xs, none, [], mk_90, 2, Q) 36 mt_90_36 [] [] false (mz_k S R N b t) := by
  unfold cf_90_36 at hC
  unfold cp_90_36 at hp
  exact g_vret rfl (hr _ hC)
theorem cg_90_0 (hd : 0 ≤ d) (hS : mz_extR S 232) (hR : mz_rok R 232)  (v1 : Int32) (N : mz_N) {C0 : (mz_N) → Prop} (hr : ∀ (N2 : mz_N), C0 N2 → Q (.inl none) (mz_k S R N2 b t)) (hp : cp_90_0 v1 N) (hC : C0 (cf_90_0 v1 N)) : mz_G (d, mz_X0 L xs, none, [], mk_90, 2, Q) 0 mk_90 [(0, .ref 2), (1, .int v1)] [] true (mz_k S R N b t) := by
  unfold cf_90_0 at hC
  unfold cp_90_0 at hp
  refine g_aload_n rfl (g_getR (mz_at hS (Nat.le_of_ble_eq_true rfl) mzcS_2) mzcf_5_0 (mz_rb hR (Nat.le_of_ble_eq_true rfl) rfl mzcR_2_0) (g_iconst mzi_0 (g_aload_n rfl (g_getR (mz_at hS (Nat.le_of_ble_eq_true rfl) mzcS_2) mzcf_5_1 (mz_rb hR (Nat.le_of_ble_eq_true rfl) rfl mzcR_2_1) (g_iload_n rfl ?_)))))
  obtain ⟨h1, hp⟩ := hp
  refine g_aald4 (mz_at hS (Nat.le_of_ble_eq_true rfl) mzcS_4) h1 (mz_rb hR (Nat.le_of_ble_eq_true rfl) rfl (mzcR2_4 h1)) (g_iconst mzi_0 (g_sipush mzs_550 (g_cpI (Nat.le_of_ble_eq_true rfl) (mz_at hS (Nat.le_of_ble_eq_true rfl) mzcS_3) (mz_at hS (mzcL2_4 h1 (Nat.le_of_ble_eq_true rfl)) (mzcS2_4 h1)) (mz_cpd (by decide)) (g_aload_n rfl (g_getR (mz_at hS (Nat.le_of_ble_eq_true rfl) mzcS_2) mzcf_5_0 (mz_rb hR (Nat.le_of_ble_eq_true rfl) rfl mzcR_2_0) (g_iconst mzi_0 (g_aload_n rfl ?_)))))))
  refine g_getR (mz_at hS (Nat.le_of_ble_eq_true rfl) mzcS_2) mzcf_5_2 (mz_rb hR (Nat.le_of_ble_eq_true rfl) rfl mzcR_2_2) (g_iload_n rfl ?_)
  obtain ⟨h2, hp⟩ := hp
  refine g_aald4 (mz_at hS (Nat.le_of_ble_eq_true rfl) mzcS_8) h2 (mz_rb hR (Nat.le_of_ble_eq_true rfl) rfl (mzcR2_8 h2)) (g_iconst mzi_0 (g_sipush mzs_550 (g_cpI (Nat.le_of_ble_eq_true rfl) (mz_at hS (Nat.le_of_ble_eq_true rfl) mzcS_3) (mz_at hS (mzcL2_8 h2 (Nat.le_of_ble_eq_true rfl)) (mzcS2_8 h2)) (mz_cpd (by decide)) ?_)))
  refine g_weak ?_ (g_cl (cg_90_36 hd hS hR (mz_yI (mz_yI N 3 0 (5 + v1.toNatClampNeg) 0 550) 3 0 (9 + v1.toNatClampNeg) 0 550) hr hp hC))
  exact trivial
theorem cs_90 (hd : 1 ≤ d) (hS : mz_extR S 232) (hR : mz_rok R 232)  (v1 : Int32) (N : mz_N) (hp : cp_90_0 v1 N) (hq : Q (.inl none) (mz_k S R (cf_90_0 v1 N) b t)) : mz_Ed (mz_X0 L xs) d 90 [.ref 2, .int v1] (mz_k S R N b t) Q :=
  by
  refine g_in mzq_90 (Nat.le_of_ble_eq_true rfl) (Nat.le_of_ble_eq_true rfl) (Nat.le_trans (Nat.le_of_ble_eq_true rfl) hd) ?_
  refine g_weak ?_ (cg_90_0 (d := d - 1) (by omega) hS hR v1 N (C0 := fun z => Q (.inl none) (mz_k S R z b t)) (fun _ h => h) hp hq)
  exact ⟨rfl, rfl, trivial⟩
end Fn3
