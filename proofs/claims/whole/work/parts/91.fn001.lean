/-! THE FUNCTIONS: written by program: each method comes to its function. -/
section Fn1
variable {L : Nat} {xs : Nat → Int32} {d : Nat} {S : mz_S} {R : Nat → Nat → Option Nat} {Q : mz_Q} {N : mz_N} {b : Bool} {t : Nat}
/-! 34 KeptHouse$Reader.readOperand ()Z -/
theorem ms_34_0 : mz_sf mk_34 0 = mk_34 := mz_sf_zero _
theorem ms_34_22 : mz_sf mk_34 22 = mt_34_22 := mz_sf_add ms_34_0 (t := 22) rfl rfl
theorem ms_34_38 : mz_sf mk_34 38 = mt_34_38 := mz_sf_add ms_34_22 (t := 16) rfl rfl
theorem ms_34_51 : mz_sf mk_34 51 = mt_34_51 := mz_sf_add ms_34_38 (t := 13) rfl rfl
theorem ms_34_52 : mz_sf mk_34 52 = mt_34_52 := mz_sf_add ms_34_51 (t := 1) rfl rfl
theorem ms_34_65 : mz_sf mk_34 65 = mt_34_65 := mz_sf_add ms_34_52 (t := 13) rfl rfl
theorem ms_34_89 : mz_sf mk_34 89 = mt_34_89 := mz_sf_add ms_34_65 (t := 24) rfl rfl
theorem ms_34_103 : mz_sf mk_34 103 = mt_34_103 := mz_sf_add ms_34_89 (t := 14) rfl rfl
theorem ms_34_105 : mz_sf mk_34 105 = mt_34_105 := mz_sf_add ms_34_103 (t := 2) rfl rfl
set_option maxRecDepth 100000 in
theorem mzq_34 : mz_PG0 34 = some (7, ⟨"KeptHouse$Reader", "readOperand", "()Z"⟩, prog_9_method_14_code, 1, some .boolean, [], mk_34, []) := rfl
theorem cg_34_105 (hd : 2 ≤ d) (hS : mz_extR S 232) (hR : mz_rok R 232) (o : Nat) (ho : o = 43 ∨ o = 48) (s1 : Int32) (N : mz_N) {C0 : (Bool × mz_N) → Prop} (hr : ∀ (w : Bool) (N2 : mz_N), C0 (w, N2) → Q (.inl (some (.int (mz_b01 w)))) (mz_k S R N2 b t)) (hp : cp_34_105 o s1 N) (hC : C0 (cf_34_105 o s1 N)) : mz_G (d, mz_X0 L xs, some .boolean, [], mk_34, 1, Q) 105 mt_34_105 [] [.int s1, .ref o] true (mz_k S R N b t) := by
  unfold cf_34_105 at hC
  unfold cp_34_105 at hp
  have h1 := hp
  refine g_v2v (Nat.le_of_ble_eq_true rfl) (mz_at hS (mz_oL0 ho (Nat.le_of_ble_eq_true rfl)) (mz_oA0 ho)) (fun _ hq => cs_38 (Nat.le_trans (Nat.le_of_ble_eq_true rfl) hd) (hS.le (Nat.le_of_ble_eq_true rfl)) (hR.le (Nat.le_of_ble_eq_true rfl)) o ho s1 N h1 hq) ?_
  exact g_zret (z := ((cf_38_0 o s1 N).1)) rfl (hr _ _ hC)
theorem cg_34_89 (hd : 2 ≤ d) (hS : mz_extR S 232) (hR : mz_rok R 232) (o : Nat) (ho : o = 43 ∨ o = 48) (N : mz_N) {C0 : (Bool × mz_N) → Prop} (hr : ∀ (w : Bool) (N2 : mz_N), C0 (w, N2) → Q (.inl (some (.int (mz_b01 w)))) (mz_k S R N2 b t)) (hp : cp_34_89 o N) (hC : C0 (cf_34_89 o N)) : mz_G (d, mz_X0 L xs, some .boolean, [], mk_34, 1, Q) 89 mt_34_89 [(0, .ref o)] [] true (mz_k S R N b t) := by
  unfold cf_34_89 at hC
  unfold cp_34_89 at hp
  refine g_aload_n rfl (g_aload_n rfl (g_getI (mz_at hS (mz_oL0 ho (Nat.le_of_ble_eq_true rfl)) (mz_oA0 ho)) mzcf_7_10 (g_bipush mzb_45 ?_)))
  refine g_icne (tg := 103) rfl ms_34_103 hC (fun h1 hC => ?_) (fun h1 hC => ?_)
  · have hp := hp.1 h1
    refine g_iconst mzi_3 (g_goto (tg := 105) rfl ms_34_105 ?_)
    refine g_weak ?_ (cg_34_105 hd hS hR o ho 3 N hr hp hC)
    exact trivial
  · have hp := hp.2 h1
    refine g_bipush mzb_40 ?_
    refine g_weak ?_ (cg_34_105 hd hS hR o ho 40 N hr hp hC)
    exact trivial
theorem cg_34_52 (hd : 2 ≤ d) (hS : mz_extR S 232) (hR : mz_rok R 232) (o : Nat) (ho : o = 43 ∨ o = 48) (s1 : Bool) (N : mz_N) {C0 : (Bool × mz_N) → Prop} (hr : ∀ (w : Bool) (N2 : mz_N), C0 (w, N2) → Q (.inl (some (.int (mz_b01 w)))) (mz_k S R N2 b t)) (hp : cp_34_52 o s1 N) (hC : C0 (cf_34_52 o s1 N)) : mz_G (d, mz_X0 L xs, some .boolean, [], mk_34, 1, Q) 52 mt_34_52 [(0, .ref o)] [.int (mz_b01 s1), .ref o] true (mz_k S R N b t) := by
  unfold cf_34_52 at hC
  unfold cp_34_52 at hp
  refine g_aload_n rfl (g_getI (mz_at hS (mz_oL0 ho (Nat.le_of_ble_eq_true rfl)) (mz_oA0 ho)) mzcf_7_11 ?_)
  obtain ⟨h1, hp⟩ := hp
  refine g_v3n (Nat.le_of_ble_eq_true rfl) (mz_at hS (mz_oL0 ho (Nat.le_of_ble_eq_true rfl)) (mz_oA0 ho)) (fun _ hq => cs_35 (Nat.le_trans (Nat.le_of_ble_eq_true rfl) hd) (hS.le (Nat.le_of_ble_eq_true rfl)) (hR.le (Nat.le_of_ble_eq_true rfl)) o ho (mz_b01 s1) (N.1 o 11) N h1 hq) (g_aload_n rfl ?_)
  have h2 := hp
  refine g_v1n (Nat.le_of_ble_eq_true rfl) (mz_at hS (mz_oL0 ho (Nat.le_of_ble_eq_true rfl)) (mz_oA0 ho)) (fun _ hq => cs_36 (Nat.le_trans (Nat.le_of_ble_eq_true rfl) hd) (hS.le (Nat.le_of_ble_eq_true rfl)) (hR.le (Nat.le_of_ble_eq_true rfl)) o ho (cf_35_0 o (mz_b01 s1) (N.1 o 11) N) h2 hq) (g_iconst mzi_1 ?_)
  exact g_zret (z := true) rfl (hr _ _ hC)
theorem cg_34_38 (hd : 2 ≤ d) (hS : mz_extR S 232) (hR : mz_rok R 232) (o : Nat) (ho : o = 43 ∨ o = 48) (N : mz_N) {C0 : (Bool × mz_N) → Prop} (hr : ∀ (w : Bool) (N2 : mz_N), C0 (w, N2) → Q (.inl (some (.int (mz_b01 w)))) (mz_k S R N2 b t)) (hp : cp_34_38 o N) (hC : C0 (cf_34_38 o N)) : mz_G (d, mz_X0 L xs, some .boolean, [], mk_34, 1, Q) 38 mt_34_38 [(0, .ref o)] [] true (mz_k S R N b t) := by
  unfold cf_34_38 at hC
  unfold cp_34_38 at hp
  refine g_aload_n rfl (g_aload_n rfl (g_getI (mz_at hS (mz_oL0 ho (Nat.le_of_ble_eq_true rfl)) (mz_oA0 ho)) mzcf_7_10 (g_iconst mzi_1 ?_)))
  refine g_icne (tg := 51) rfl ms_34_51 hC (fun h1 hC => ?_) (fun h1 hC => ?_)
  · have hp := hp.1 h1
    refine g_iconst mzi_0 (g_goto (tg := 52) rfl ms_34_52 ?_)
    refine g_weak ?_ (cg_34_52 hd hS hR o ho false N hr hp hC)
    exact ⟨rfl, trivial⟩
  · have hp := hp.2 h1
    refine g_iconst mzi_1 ?_
    refine g_weak ?_ (cg_34_52 hd hS hR o ho true N hr hp hC)
    exact ⟨rfl, trivial⟩
theorem cg_34_22 (hd : 2 ≤ d) (hS : mz_extR S 232) (hR : mz_rok R 232) (o : Nat) (ho : o = 43 ∨ o = 48) (N : mz_N) {C0 : (Bool × mz_N) → Prop} (hr : ∀ (w : Bool) (N2 : mz_N), C0 (w, N2) → Q (.inl (some (.int (mz_b01 w)))) (mz_k S R N2 b t)) (hp : cp_34_22 o N) (hC : C0 (cf_34_22 o N)) : mz_G (d, mz_X0 L xs, some .boolean, [], mk_34, 1, Q) 22 mt_34_22 [(0, .ref o)] [] true (mz_k S R N b t) := by
  unfold cf_34_22 at hC
  unfold cp_34_22 at hp
  refine g_aload_n rfl (g_getI (mz_at hS (mz_oL0 ho (Nat.le_of_ble_eq_true rfl)) (mz_oA0 ho)) mzcf_7_10 (g_iconst mzi_1 ?_))
  refine g_iceq (tg := 38) rfl ms_34_38 hC (fun h1 hC => ?_) (fun h1 hC => ?_)
  · have hp := hp.1 h1
    refine g_weak ?_ (cg_34_38 hd hS hR o ho N hr hp hC)
    exact ⟨rfl, trivial⟩
  · have hp := hp.2 h1
    refine g_aload_n rfl (g_getI (mz_at hS (mz_oL0 ho (Nat.le_of_ble_eq_true rfl)) (mz_oA0 ho)) mzcf_7_10 (g_iconst mzi_2 ?_))
    refine g_icne (tg := 65) rfl ms_34_65 hC (fun h2 hC => ?_) (fun h2 hC => ?_)
    · have hp := hp.1 h2
      refine g_weak ?_ (cg_34_38 hd hS hR o ho N hr hp hC)
      exact ⟨rfl, trivial⟩
    · have hp := hp.2 h2
      refine g_aload_n rfl (g_getI (mz_at hS (mz_oL0 ho (Nat.le_of_ble_eq_true rfl)) (mz_oA0 ho)) mzcf_7_10 (g_bipush mzb_45 ?_))
      refine g_iceq (tg := 89) rfl ms_34_89 hC (fun h3 hC => ?_) (fun h3 hC => ?_)
      · have hp := hp.1 h3
        refine g_weak ?_ (cg_34_89 hd hS hR o ho N hr hp hC)
        exact ⟨rfl, trivial⟩
      · have hp := hp.2 h3
        refine g_aload_n rfl (g_getI (mz_at hS (mz_oL0 ho (Nat.le_of_ble_eq_true rfl)) (mz_oA0 ho)) mzcf_7_10 (g_bipush mzb_40 ?_))
        refine g_iceq (tg := 89) rfl ms_34_89 hC (fun h4 hC => ?_) (fun h4 hC => ?_)
        · have hp := hp.1 h4
          refine g_weak ?_ (cg_34_89 hd hS hR o ho N hr hp hC)
          exact ⟨rfl, trivial⟩
        · have hp := hp.2 h4
          refine g_aload_n rfl (g_iconst mzi_2 ?_)
          refine g_v2v (Nat.le_of_ble_eq_true rfl) (mz_at hS (mz_oL0 ho (Nat.le_of_ble_eq_true rfl)) (mz_oA0 ho)) (fun _ hq => cs_27 (Nat.le_trans (Nat.le_of_ble_eq_true rfl) hd) (hS.le (Nat.le_of_ble_eq_true rfl)) (hR.le (Nat.le_of_ble_eq_true rfl)) o ho 2 N trivial hq) ?_
          exact g_zret (z := ((cf_27_0 o 2 N).1)) rfl (hr _ _ hC)
theorem cg_34_0 (hd : 2 ≤ d) (hS : mz_extR S 232) (hR : mz_rok R 232) (o : Nat) (ho : o = 43 ∨ o = 48) (N : mz_N) {C0 : (Bool × mz_N) → Prop} (hr : ∀ (w : Bool) (N2 : mz_N), C0 (w, N2) → Q (.inl (some (.int (mz_b01 w)))) (mz_k S R N2 b t)) (hp : cp_34_0 o N) (hC : C0 (cf_34_0 o N)) : mz_G (d, mz_X0 L xs, some .boolean, [], mk_34, 1, Q) 0 mk_34 [(0, .ref o)] [] true (mz_k S R N b t) := by
  unfold cf_34_0 at hC
  unfold cp_34_0 at hp
  refine g_aload_n rfl (g_getI (mz_at hS (mz_oL0 ho (Nat.le_of_ble_eq_true rfl)) (mz_oA0 ho)) mzcf_7_10 (g_iconst mzi_2 ?_))
  refine g_icne (tg := 22) rfl ms_34_22 hC (fun h1 hC => ?_) (fun h1 hC => ?_)
  · have hp := hp.1 h1
    refine g_aload_n rfl (g_getI (mz_at hS (mz_oL0 ho (Nat.le_of_ble_eq_true rfl)) (mz_oA0 ho)) mzcf_7_11 (g_iconst mzi_m1 ?_))
    refine g_icne (tg := 22) rfl ms_34_22 hC (fun h2 hC => ?_) (fun h2 hC => ?_)
    · have hp := hp.1 h2
      refine g_aload_n rfl (g_iconst mzi_3 ?_)
      refine g_v2v (Nat.le_of_ble_eq_true rfl) (mz_at hS (mz_oL0 ho (Nat.le_of_ble_eq_true rfl)) (mz_oA0 ho)) (fun _ hq => cs_27 (Nat.le_trans (Nat.le_of_ble_eq_true rfl) hd) (hS.le (Nat.le_of_ble_eq_true rfl)) (hR.le (Nat.le_of_ble_eq_true rfl)) o ho 3 N trivial hq) ?_
      exact g_zret (z := ((cf_27_0 o 3 N).1)) rfl (hr _ _ hC)
    · have hp := hp.2 h2
      refine g_weak ?_ (cg_34_22 hd hS hR o ho N hr hp hC)
      exact ⟨rfl, trivial⟩
  · have hp := hp.2 h1
    refine g_weak ?_ (cg_34_22 hd hS hR o ho N hr hp hC)
    exact ⟨rfl, trivial⟩
theorem cs_34 (hd : 3 ≤ d) (hS : mz_extR S 232) (hR : mz_rok R 232) (o : Nat) (ho : o = 43 ∨ o = 48) (N : mz_N) (hp : cp_34_0 o N) (hq : Q (.inl (some (.int (mz_b01 ((cf_34_0 o N).1))))) (mz_k S R ((cf_34_0 o N).2) b t)) : mz_Ed (mz_X0 L xs) d 34 [.ref o] (mz_k S R N b t) Q :=
  by
  refine g_in mzq_34 (Nat.le_of_ble_eq_true rfl) (Nat.le_of_ble_eq_true rfl) (Nat.le_trans (Nat.le_of_ble_eq_true rfl) hd) ?_
  refine g_weak ?_ (cg_34_0 (d := d - 1) (by omega) hS hR o ho N (C0 := fun z => Q (.inl (some (.int (mz_b01 z.1)))) (mz_k S R z.2 b t)) (fun _ _ h => h) hp hq)
  exact ⟨rfl, trivial⟩
/-! 41 KeptHouse$Reader.firmnessOf (I)I -/
theorem ms_41_0 : mz_sf mk_41 0 = mk_41 := mz_sf_zero _
theorem ms_41_54 : mz_sf mk_41 54 = mt_41_54 := mz_sf_add ms_41_0 (t := 54) rfl rfl
theorem ms_41_56 : mz_sf mk_41 56 = mt_41_56 := mz_sf_add ms_41_54 (t := 2) rfl rfl
theorem ms_41_58 : mz_sf mk_41 58 = mt_41_58 := mz_sf_add ms_41_56 (t := 2) rfl rfl
set_option maxRecDepth 100000 in
theorem mzq_41 : mz_PG0 41 = some (7, ⟨"KeptHouse$Reader", "firmnessOf", "(I)I"⟩, prog_9_method_20_code, 1, some .int, [], mk_41, []) := rfl
theorem cg_41_0 (hd : 0 ≤ d) (hS : mz_extR S 232) (hR : mz_rok R 232)  (v0 : Int32) {C0 : (Int32) → Prop} (hr : ∀ (w : Int32), C0 w → Q (.inl (some (.int w))) (mz_k S R N b t)) (hp : cp_41_0 v0) (hC : C0 (cf_41_0 v0)) : mz_G (d, mz_X0 L xs, some .int, [], mk_41, 1, Q) 0 mk_41 [(0, .int v0)] [] true (mz_k S R N b t) := by
  unfold cf_41_0 at hC
  unfold cp_41_0 at hp
  refine g_iload_n rfl ?_
  refine mz_cs hC (fun h1 hC => ?_) (fun h1 hC => ?_)
  · refine g_brn (tg := 52) (by rw [h1]; rfl) (by decide) rfl ?_
    refine g_iconst mzi_3 ?_
    exact g_iret rfl (hr _ hC)
  · refine mz_cs hC (fun h2 hC => ?_) (fun h2 hC => ?_)
    · refine g_br (tg := 54) (by rw [h2]; rfl) ms_41_54 ?_
      refine g_iconst mzi_2 ?_
      exact g_iret rfl (hr _ hC)
    · refine mz_cs hC (fun h3 hC => ?_) (fun h3 hC => ?_)
      · refine g_br (tg := 54) (by rw [h3]; rfl) ms_41_54 ?_
        refine g_iconst mzi_2 ?_
        exact g_iret rfl (hr _ hC)
      · refine mz_cs hC (fun h4 hC => ?_) (fun h4 hC => ?_)
        · refine g_br (tg := 56) (by rw [h4]; rfl) ms_41_56 ?_
          refine g_iconst mzi_1 ?_
          exact g_iret rfl (hr _ hC)
        · refine mz_cs hC (fun h5 hC => ?_) (fun h5 hC => ?_)
          · refine g_br (tg := 56) (by rw [h5]; rfl) ms_41_56 ?_
            refine g_iconst mzi_1 ?_
            exact g_iret rfl (hr _ hC)
          · refine g_br (tg := 58) ((mz_lsw_d (l := [42, 43, 45, 60, 62]) rfl (by intro x hx; simp [Op.lookupswitch.offset] at hx ⊢; omega) ⟨h1, h2, h3, h4, h5, trivial⟩).trans (mz_tg_t rfl)) ms_41_58 ?_
            refine g_iconst mzi_0 ?_
            exact g_iret rfl (hr _ hC)
theorem cs_41 (hd : 1 ≤ d) (hS : mz_extR S 232) (hR : mz_rok R 232)  (v0 : Int32) (hp : cp_41_0 v0) (hq : Q (.inl (some (.int (cf_41_0 v0)))) (mz_k S R N b t)) : mz_Ed (mz_X0 L xs) d 41 [.int v0] (mz_k S R N b t) Q :=
  by
  refine g_in mzq_41 (Nat.le_of_ble_eq_true rfl) (Nat.le_of_ble_eq_true rfl) (Nat.le_trans (Nat.le_of_ble_eq_true rfl) hd) ?_
  refine g_weak ?_ (cg_41_0 (d := d - 1) (by omega) hS hR v0 (C0 := fun z => Q (.inl (some (.int z))) (mz_k S R N b t)) (fun _ h => h) hp hq)
  exact ⟨rfl, trivial⟩
/-! 42 KeptHouse$Reader.reckonFrom (I)V -/
theorem ms_42_0 : mz_sf mk_42 0 = mk_42 := mz_sf_zero _
theorem ms_42_27 : mz_sf mk_42 27 = mt_42_27 := mz_sf_add ms_42_0 (t := 27) rfl rfl
theorem ms_42_40 : mz_sf mk_42 40 = mt_42_40 := mz_sf_add ms_42_27 (t := 13) rfl rfl
set_option maxRecDepth 100000 in
theorem mzq_42 : mz_PG0 42 = some (7, ⟨"KeptHouse$Reader", "reckonFrom", "(I)V"⟩, prog_9_method_21_code, 2, none, [], mk_42, []) := rfl
theorem cb_42_0 (hd : 1 ≤ d) (hS : mz_extR S 232) (hR : mz_rok R 232) (o : Nat) (ho : o = 43 ∨ o = 48) (v1 : Int32) (s : mz_N) {C0 : (mz_N) → Prop} (hr : ∀ (N2 : mz_N), C0 N2 → Q (.inl none) (mz_k S R N2 b t)) {C1 : ((mz_N) ⊕ (mz_N)) → Prop} (hc1 : ∀ s2, C1 (.inl s2) → mz_G (d, mz_X0 L xs, none, [], mk_42, 2, Q) 0 mk_42 [(0, .ref o), (1, .int v1)] [] false (mz_k S R s2 b t)) (hx1 : ∀ z, C1 (.inr z) → C0 z) (hp : cd_42_0 o v1 s) (hC : C1 (cq_42_0 o v1 s)) : mz_G (d, mz_X0 L xs, none, [], mk_42, 2, Q) 0 mk_42 [(0, .ref o), (1, .int v1)] [] false (mz_k S R s b t) := by
  unfold cq_42_0 at hC
  unfold cd_42_0 at hp
  refine g_aload_n rfl (g_getI (mz_at hS (mz_oL0 ho (Nat.le_of_ble_eq_true rfl)) (mz_oA0 ho)) mzcf_7_15 ?_)
  refine g_ifle (tg := 40) rfl ms_42_40 hC (fun h1 hC => ?_) (fun h1 hC => ?_)
  · have hp := hp.1 h1
    refine g_aload_n rfl ?_
    obtain ⟨h2, hp⟩ := hp
    refine g_v1v (Nat.le_of_ble_eq_true rfl) (mz_at hS (mz_oL0 ho (Nat.le_of_ble_eq_true rfl)) (mz_oA0 ho)) (fun _ hq => cs_37 (Nat.le_trans (Nat.le_of_ble_eq_true rfl) hd) (hS.le (Nat.le_of_ble_eq_true rfl)) (hR.le (Nat.le_of_ble_eq_true rfl)) o ho s h2 hq) ?_
    refine g_s1v (Nat.le_of_ble_eq_true rfl) (fun _ hq => cs_41 (Nat.le_trans (Nat.le_of_ble_eq_true rfl) hd) (hS.le (Nat.le_of_ble_eq_true rfl)) (hR.le (Nat.le_of_ble_eq_true rfl))  (cf_37_0 o s) trivial hq) (g_iload_n rfl ?_)
    refine g_iclt (tg := 40) rfl ms_42_40 hC (fun h4 hC => ?_) (fun h4 hC => ?_)
    · have hp := hp.1 h4
      exact g_vret rfl (hr _ (hx1 _ hC))
    · have hp := hp.2 h4
      refine g_aload_n rfl (g_aload_n rfl ?_)
      obtain ⟨h5, hp⟩ := hp
      refine g_v1v (Nat.le_of_ble_eq_true rfl) (mz_at hS (mz_oL0 ho (Nat.le_of_ble_eq_true rfl)) (mz_oA0 ho)) (fun _ hq => cs_37 (Nat.le_trans (Nat.le_of_ble_eq_true rfl) hd) (hS.le (Nat.le_of_ble_eq_true rfl)) (hR.le (Nat.le_of_ble_eq_true rfl)) o ho s h5 hq) (g_iconst mzi_0 ?_)
      have h6 := hp
      refine g_v3n (Nat.le_of_ble_eq_true rfl) (mz_at hS (mz_oL0 ho (Nat.le_of_ble_eq_true rfl)) (mz_oA0 ho)) (fun _ hq => cs_35 (Nat.le_trans (Nat.le_of_ble_eq_true rfl) hd) (hS.le (Nat.le_of_ble_eq_true rfl)) (hR.le (Nat.le_of_ble_eq_true rfl)) o ho (cf_37_0 o s) 0 s h6 hq) (g_aload_n rfl (g_dup rfl (g_getI (mz_at hS (mz_oL0 ho (Nat.le_of_ble_eq_true rfl)) (mz_oA0 ho)) mzcf_7_15 (g_iconst mzi_1 (g_isub (g_putI (mz_at hS (mz_oL0 ho (Nat.le_of_ble_eq_true rfl)) (mz_oA0 ho)) mzcf_7_15 (g_goto (tg := 0) rfl ms_42_0 ?_)))))))
      refine g_weak ?_ (g_cl (hc1 (mz_pI (cf_35_0 o (cf_37_0 o s) 0 s) o 15 (((cf_35_0 o (cf_37_0 o s) 0 s).1 o 15) - 1)) hC))
      exact ⟨rfl, rfl, trivial⟩
  · have hp := hp.2 h1
    exact g_vret rfl (hr _ (hx1 _ hC))
theorem cg_42_0 (hd : 1 ≤ d) (hS : mz_extR S 232) (hR : mz_rok R 232) (o : Nat) (ho : o = 43 ∨ o = 48) (v1 : Int32) (N : mz_N) {C0 : (mz_N) → Prop} (hr : ∀ (N2 : mz_N), C0 N2 → Q (.inl none) (mz_k S R N2 b t)) (hp : cp_42_0 o v1 N) (hC : C0 (cf_42_0 o v1 N)) : mz_G (d, mz_X0 L xs, none, [], mk_42, 2, Q) 0 mk_42 [(0, .ref o), (1, .int v1)] [] false (mz_k S R N b t) := by
  obtain ⟨n, hn⟩ := hp
  exact g_loop (G := fun s => mz_G (d, mz_X0 L xs, none, [], mk_42, 2, Q) 0 mk_42 [(0, .ref o), (1, .int v1)] [] false (mz_k S R s b t)) (C := C0) (fun C2 hc hx s hP hC => cb_42_0 hd hS hR o ho v1 s hr hc hx hP hC) n (N) hn hC
theorem cs_42 (hd : 2 ≤ d) (hS : mz_extR S 232) (hR : mz_rok R 232) (o : Nat) (ho : o = 43 ∨ o = 48) (v1 : Int32) (N : mz_N) (hp : cp_42_0 o v1 N) (hq : Q (.inl none) (mz_k S R (cf_42_0 o v1 N) b t)) : mz_Ed (mz_X0 L xs) d 42 [.ref o, .int v1] (mz_k S R N b t) Q :=
  by
  refine g_in mzq_42 (Nat.le_of_ble_eq_true rfl) (Nat.le_of_ble_eq_true rfl) (Nat.le_trans (Nat.le_of_ble_eq_true rfl) hd) ?_
  refine g_weak ?_ (g_cl (cg_42_0 (d := d - 1) (by omega) hS hR o ho v1 N (C0 := fun z => Q (.inl none) (mz_k S R z b t)) (fun _ h => h) hp hq))
  exact ⟨rfl, rfl, trivial⟩
/-! 43 KeptHouse$Reader.endExpression ()Z -/
theorem ms_43_0 : mz_sf mk_43 0 = mk_43 := mz_sf_zero _
theorem ms_43_33 : mz_sf mk_43 33 = mt_43_33 := mz_sf_add ms_43_0 (t := 33) rfl rfl
theorem ms_43_46 : mz_sf mk_43 46 = mt_43_46 := mz_sf_add ms_43_33 (t := 13) rfl rfl
theorem ms_43_77 : mz_sf mk_43 77 = mt_43_77 := mz_sf_add ms_43_46 (t := 31) rfl rfl
theorem ms_43_84 : mz_sf mk_43 84 = mt_43_84 := mz_sf_add ms_43_77 (t := 7) rfl rfl
theorem ms_43_112 : mz_sf mk_43 112 = mt_43_112 := mz_sf_add ms_43_84 (t := 28) rfl rfl
theorem ms_43_128 : mz_sf mk_43 128 = mt_43_128 := mz_sf_add ms_43_112 (t := 16) rfl rfl
theorem ms_43_153 : mz_sf mk_43 153 = mt_43_153 := mz_sf_add ms_43_128 (t := 25) rfl rfl
theorem ms_43_160 : mz_sf mk_43 160 = mt_43_160 := mz_sf_add ms_43_153 (t := 7) rfl rfl
set_option maxRecDepth 100000 in
theorem mzq_43 : mz_PG0 43 = some (7, ⟨"KeptHouse$Reader", "endExpression", "()Z"⟩, prog_9_method_22_code, 1, some .boolean, [], mk_43, []) := rfl
theorem cg_43_160 (hd : 2 ≤ d) (hS : mz_extR S 232) (hR : mz_rok R 232) (o : Nat) (ho : o = 43 ∨ o = 48) (N : mz_N) {C0 : (Bool × mz_N) → Prop} (hr : ∀ (w : Bool) (N2 : mz_N), C0 (w, N2) → Q (.inl (some (.int (mz_b01 w)))) (mz_k S R N2 b t)) (hp : cp_43_160 o N) (hC : C0 (cf_43_160 o N)) : mz_G (d, mz_X0 L xs, some .boolean, [], mk_43, 1, Q) 160 mt_43_160 [(0, .ref o)] [] false (mz_k S R N b t) := by
  unfold cf_43_160 at hC
  unfold cp_43_160 at hp
  refine g_aload_n rfl (g_iconst mzi_2 ?_)
  refine g_v2v (Nat.le_of_ble_eq_true rfl) (mz_at hS (mz_oL0 ho (Nat.le_of_ble_eq_true rfl)) (mz_oA0 ho)) (fun _ hq => cs_27 (Nat.le_trans (Nat.le_of_ble_eq_true rfl) hd) (hS.le (Nat.le_of_ble_eq_true rfl)) (hR.le (Nat.le_of_ble_eq_true rfl)) o ho 2 N trivial hq) ?_
  exact g_zret (z := ((cf_27_0 o 2 N).1)) rfl (hr _ _ hC)
theorem cg_43_128 (hd : 2 ≤ d) (hS : mz_extR S 232) (hR : mz_rok R 232) (o : Nat) (ho : o = 43 ∨ o = 48) (N : mz_N) {C0 : (Bool × mz_N) → Prop} (hr : ∀ (w : Bool) (N2 : mz_N), C0 (w, N2) → Q (.inl (some (.int (mz_b01 w)))) (mz_k S R N2 b t)) (hp : cp_43_128 o N) (hC : C0 (cf_43_128 o N)) : mz_G (d, mz_X0 L xs, some .boolean, [], mk_43, 1, Q) 128 mt_43_128 [(0, .ref o)] [] false (mz_k S R N b t) := by
  unfold cf_43_128 at hC
  unfold cp_43_128 at hp
  refine g_aload_n rfl (g_getI (mz_at hS (mz_oL0 ho (Nat.le_of_ble_eq_true rfl)) (mz_oA0 ho)) mzcf_7_10 (g_bipush mzb_59 ?_))
  refine g_icne (tg := 160) rfl ms_43_160 hC (fun h1 hC => ?_) (fun h1 hC => ?_)
  · have hp := hp.1 h1
    refine g_aload_n rfl (g_getI (mz_at hS (mz_oL0 ho (Nat.le_of_ble_eq_true rfl)) (mz_oA0 ho)) mzcf_7_15 ?_)
    refine g_ifne (tg := 160) rfl ms_43_160 hC (fun h2 hC => ?_) (fun h2 hC => ?_)
    · have hp := hp.1 h2
      refine g_aload_n rfl (g_iconst mzi_2 (g_aload_n rfl (g_getI (mz_at hS (mz_oL0 ho (Nat.le_of_ble_eq_true rfl)) (mz_oA0 ho)) mzcf_7_13 ?_)))
      have h3 := hp
      refine g_v3n (Nat.le_of_ble_eq_true rfl) (mz_at hS (mz_oL0 ho (Nat.le_of_ble_eq_true rfl)) (mz_oA0 ho)) (fun _ hq => cs_35 (Nat.le_trans (Nat.le_of_ble_eq_true rfl) hd) (hS.le (Nat.le_of_ble_eq_true rfl)) (hR.le (Nat.le_of_ble_eq_true rfl)) o ho 2 (N.1 o 13) N h3 hq) (g_aload_n rfl (g_iconst mzi_0 (g_putI (mz_at hS (mz_oL0 ho (Nat.le_of_ble_eq_true rfl)) (mz_oA0 ho)) mzcf_7_12 (g_iconst mzi_1 ?_))))
      exact g_zret (z := true) rfl (hr _ _ hC)
    · have hp := hp.2 h2
      refine g_weak ?_ (g_cl (cg_43_160 hd hS hR o ho N hr hp hC))
      exact ⟨rfl, trivial⟩
  · have hp := hp.2 h1
    refine g_weak ?_ (g_cl (cg_43_160 hd hS hR o ho N hr hp hC))
    exact ⟨rfl, trivial⟩
theorem cg_43_84 (hd : 2 ≤ d) (hS : mz_extR S 232) (hR : mz_rok R 232) (o : Nat) (ho : o = 43 ∨ o = 48) (N : mz_N) {C0 : (Bool × mz_N) → Prop} (hr : ∀ (w : Bool) (N2 : mz_N), C0 (w, N2) → Q (.inl (some (.int (mz_b01 w)))) (mz_k S R N2 b t)) (hp : cp_43_84 o N) (hC : C0 (cf_43_84 o N)) : mz_G (d, mz_X0 L xs, some .boolean, [], mk_43, 1, Q) 84 mt_43_84 [(0, .ref o)] [] false (mz_k S R N b t) := by
  unfold cf_43_84 at hC
  unfold cp_43_84 at hp
  refine g_aload_n rfl (g_getI (mz_at hS (mz_oL0 ho (Nat.le_of_ble_eq_true rfl)) (mz_oA0 ho)) mzcf_7_10 (g_bipush mzb_41 ?_))
  refine g_icne (tg := 128) rfl ms_43_128 hC (fun h1 hC => ?_) (fun h1 hC => ?_)
  · have hp := hp.1 h1
    refine g_aload_n rfl ?_
    obtain ⟨h2, hp⟩ := hp
    refine g_v1v (Nat.le_of_ble_eq_true rfl) (mz_at hS (mz_oL0 ho (Nat.le_of_ble_eq_true rfl)) (mz_oA0 ho)) (fun _ hq => cs_37 (Nat.le_trans (Nat.le_of_ble_eq_true rfl) hd) (hS.le (Nat.le_of_ble_eq_true rfl)) (hR.le (Nat.le_of_ble_eq_true rfl)) o ho N h2 hq) (g_bipush mzb_40 ?_)
    refine g_icne (tg := 128) rfl ms_43_128 hC (fun h3 hC => ?_) (fun h3 hC => ?_)
    · have hp := hp.1 h3
      refine g_aload_n rfl (g_dup rfl (g_getI (mz_at hS (mz_oL0 ho (Nat.le_of_ble_eq_true rfl)) (mz_oA0 ho)) mzcf_7_15 (g_iconst mzi_1 (g_isub (g_putI (mz_at hS (mz_oL0 ho (Nat.le_of_ble_eq_true rfl)) (mz_oA0 ho)) mzcf_7_15 (g_aload_n rfl (g_dup rfl ?_)))))))
      refine g_getI (mz_at hS (mz_oL0 ho (Nat.le_of_ble_eq_true rfl)) (mz_oA0 ho)) mzcf_7_16 (g_iconst mzi_1 (g_isub (g_putI (mz_at hS (mz_oL0 ho (Nat.le_of_ble_eq_true rfl)) (mz_oA0 ho)) mzcf_7_16 (g_aload_n rfl ?_))))
      have h4 := hp
      refine g_v1n (Nat.le_of_ble_eq_true rfl) (mz_at hS (mz_oL0 ho (Nat.le_of_ble_eq_true rfl)) (mz_oA0 ho)) (fun _ hq => cs_36 (Nat.le_trans (Nat.le_of_ble_eq_true rfl) hd) (hS.le (Nat.le_of_ble_eq_true rfl)) (hR.le (Nat.le_of_ble_eq_true rfl)) o ho (mz_pI (mz_pI N o 15 ((N.1 o 15) - 1)) o 16 (((mz_pI N o 15 ((N.1 o 15) - 1)).1 o 16) - 1)) h4 hq) (g_iconst mzi_1 ?_)
      exact g_zret (z := true) rfl (hr _ _ hC)
    · have hp := hp.2 h3
      refine g_weak ?_ (g_cl (cg_43_128 hd hS hR o ho N hr hp hC))
      exact ⟨rfl, trivial⟩
  · have hp := hp.2 h1
    refine g_weak ?_ (g_cl (cg_43_128 hd hS hR o ho N hr hp hC))
    exact ⟨rfl, trivial⟩
theorem cg_43_46 (hd : 2 ≤ d) (hS : mz_extR S 232) (hR : mz_rok R 232) (o : Nat) (ho : o = 43 ∨ o = 48) (N : mz_N) {C0 : (Bool × mz_N) → Prop} (hr : ∀ (w : Bool) (N2 : mz_N), C0 (w, N2) → Q (.inl (some (.int (mz_b01 w)))) (mz_k S R N2 b t)) (hp : cp_43_46 o N) (hC : C0 (cf_43_46 o N)) : mz_G (d, mz_X0 L xs, some .boolean, [], mk_43, 1, Q) 46 mt_43_46 [(0, .ref o)] [] false (mz_k S R N b t) := by
  unfold cf_43_46 at hC
  unfold cp_43_46 at hp
  refine g_aload_n rfl (g_getI (mz_at hS (mz_oL0 ho (Nat.le_of_ble_eq_true rfl)) (mz_oA0 ho)) mzcf_7_10 (g_bipush mzb_58 ?_))
  refine g_icne (tg := 84) rfl ms_43_84 hC (fun h1 hC => ?_) (fun h1 hC => ?_)
  · have hp := hp.1 h1
    refine g_aload_n rfl ?_
    obtain ⟨h2, hp⟩ := hp
    refine g_v1v (Nat.le_of_ble_eq_true rfl) (mz_at hS (mz_oL0 ho (Nat.le_of_ble_eq_true rfl)) (mz_oA0 ho)) (fun _ hq => cs_37 (Nat.le_trans (Nat.le_of_ble_eq_true rfl) hd) (hS.le (Nat.le_of_ble_eq_true rfl)) (hR.le (Nat.le_of_ble_eq_true rfl)) o ho N h2 hq) (g_bipush mzb_63 ?_)
    refine g_icne (tg := 84) rfl ms_43_84 hC (fun h3 hC => ?_) (fun h3 hC => ?_)
    · have hp := hp.1 h3
      refine g_aload_n rfl (g_getR (mz_at hS (mz_oL0 ho (Nat.le_of_ble_eq_true rfl)) (mz_oA0 ho)) mzcf_7_14 (mz_rb hR (mz_oL0 ho (Nat.le_of_ble_eq_true rfl)) (mz_o41 ho) (mz_oR4 ho)) (g_aload_n rfl (g_getI (mz_at hS (mz_oL0 ho (Nat.le_of_ble_eq_true rfl)) (mz_oA0 ho)) mzcf_7_15 (g_iconst mzi_1 (g_isub (g_bipush mzb_58 ?_))))))
      have h4 := hp
      refine g_iast (mz_at hS (mz_oL4 ho (Nat.le_of_ble_eq_true rfl)) (mz_oA4 ho)) h4 (g_aload_n rfl (g_iconst mzi_2 (g_putI (mz_at hS (mz_oL0 ho (Nat.le_of_ble_eq_true rfl)) (mz_oA0 ho)) mzcf_7_12 (g_iconst mzi_1 ?_))))
      exact g_zret (z := true) rfl (hr _ _ hC)
    · have hp := hp.2 h3
      refine g_weak ?_ (g_cl (cg_43_84 hd hS hR o ho N hr hp hC))
      exact ⟨rfl, trivial⟩
  · have hp := hp.2 h1
    refine g_weak ?_ (g_cl (cg_43_84 hd hS hR o ho N hr hp hC))
    exact ⟨rfl, trivial⟩
theorem cb_43_0 (hd : 2 ≤ d) (hS : mz_extR S 232) (hR : mz_rok R 232) (o : Nat) (ho : o = 43 ∨ o = 48)  (s : mz_N) {C0 : (Bool × mz_N) → Prop} (hr : ∀ (w : Bool) (N2 : mz_N), C0 (w, N2) → Q (.inl (some (.int (mz_b01 w)))) (mz_k S R N2 b t)) {C1 : ((mz_N) ⊕ (Bool × mz_N)) → Prop} (hc1 : ∀ s2, C1 (.inl s2) → mz_G (d, mz_X0 L xs, some .boolean, [], mk_43, 1, Q) 0 mk_43 [(0, .ref o)] [] false (mz_k S R s2 b t)) (hx1 : ∀ z, C1 (.inr z) → C0 z) (hp : cd_43_0 o s) (hC : C1 (cq_43_0 o s)) : mz_G (d, mz_X0 L xs, some .boolean, [], mk_43, 1, Q) 0 mk_43 [(0, .ref o)] [] false (mz_k S R s b t) := by
  unfold cq_43_0 at hC
  unfold cd_43_0 at hp
  refine g_aload_n rfl (g_getI (mz_at hS (mz_oL0 ho (Nat.le_of_ble_eq_true rfl)) (mz_oA0 ho)) mzcf_7_15 ?_)
  refine g_ifle (tg := 46) rfl ms_43_46 hC (fun h1 hC => ?_) (fun h1 hC => ?_)
  · have hp := hp.1 h1
    refine g_aload_n rfl ?_
    obtain ⟨h2, hp⟩ := hp
    refine g_v1v (Nat.le_of_ble_eq_true rfl) (mz_at hS (mz_oL0 ho (Nat.le_of_ble_eq_true rfl)) (mz_oA0 ho)) (fun _ hq => cs_37 (Nat.le_trans (Nat.le_of_ble_eq_true rfl) hd) (hS.le (Nat.le_of_ble_eq_true rfl)) (hR.le (Nat.le_of_ble_eq_true rfl)) o ho s h2 hq) (g_bipush mzb_58 ?_)
    refine g_icne (tg := 46) rfl ms_43_46 hC (fun h3 hC => ?_) (fun h3 hC => ?_)
    · have hp := hp.1 h3
      refine g_aload_n rfl (g_bipush mzb_63 (g_iconst mzi_0 ?_))
      have h4 := hp
      refine g_v3n (Nat.le_of_ble_eq_true rfl) (mz_at hS (mz_oL0 ho (Nat.le_of_ble_eq_true rfl)) (mz_oA0 ho)) (fun _ hq => cs_35 (Nat.le_trans (Nat.le_of_ble_eq_true rfl) hd) (hS.le (Nat.le_of_ble_eq_true rfl)) (hR.le (Nat.le_of_ble_eq_true rfl)) o ho 63 0 s h4 hq) (g_aload_n rfl (g_dup rfl (g_getI (mz_at hS (mz_oL0 ho (Nat.le_of_ble_eq_true rfl)) (mz_oA0 ho)) mzcf_7_16 (g_iconst mzi_1 (g_isub (g_putI (mz_at hS (mz_oL0 ho (Nat.le_of_ble_eq_true rfl)) (mz_oA0 ho)) mzcf_7_16 (g_aload_n rfl ?_)))))))
      refine g_dup rfl (g_getI (mz_at hS (mz_oL0 ho (Nat.le_of_ble_eq_true rfl)) (mz_oA0 ho)) mzcf_7_15 (g_iconst mzi_1 (g_isub (g_putI (mz_at hS (mz_oL0 ho (Nat.le_of_ble_eq_true rfl)) (mz_oA0 ho)) mzcf_7_15 (g_goto (tg := 0) rfl ms_43_0 ?_)))))
      refine g_weak ?_ (g_cl (hc1 (mz_pI (mz_pI (cf_35_0 o 63 0 s) o 16 (((cf_35_0 o 63 0 s).1 o 16) - 1)) o 15 (((mz_pI (cf_35_0 o 63 0 s) o 16 (((cf_35_0 o 63 0 s).1 o 16) - 1)).1 o 15) - 1)) hC))
      exact ⟨rfl, trivial⟩
    · have hp := hp.2 h3
      refine g_weak ?_ (g_cl (cg_43_46 hd hS hR o ho s hr hp (hx1 _ hC)))
      exact ⟨rfl, trivial⟩
  · have hp := hp.2 h1
    refine g_weak ?_ (g_cl (cg_43_46 hd hS hR o ho s hr hp (hx1 _ hC)))
    exact ⟨rfl, trivial⟩
theorem cg_43_0 (hd : 2 ≤ d) (hS : mz_extR S 232) (hR : mz_rok R 232) (o : Nat) (ho : o = 43 ∨ o = 48) (N : mz_N) {C0 : (Bool × mz_N) → Prop} (hr : ∀ (w : Bool) (N2 : mz_N), C0 (w, N2) → Q (.inl (some (.int (mz_b01 w)))) (mz_k S R N2 b t)) (hp : cp_43_0 o N) (hC : C0 (cf_43_0 o N)) : mz_G (d, mz_X0 L xs, some .boolean, [], mk_43, 1, Q) 0 mk_43 [(0, .ref o)] [] false (mz_k S R N b t) := by
  obtain ⟨n, hn⟩ := hp
  exact g_loop (G := fun s => mz_G (d, mz_X0 L xs, some .boolean, [], mk_43, 1, Q) 0 mk_43 [(0, .ref o)] [] false (mz_k S R s b t)) (C := C0) (fun C2 hc hx s hP hC => cb_43_0 hd hS hR o ho s hr hc hx hP hC) n (N) hn hC
theorem cs_43 (hd : 3 ≤ d) (hS : mz_extR S 232) (hR : mz_rok R 232) (o : Nat) (ho : o = 43 ∨ o = 48) (N : mz_N) (hp : cp_43_0 o N) (hq : Q (.inl (some (.int (mz_b01 ((cf_43_0 o N).1))))) (mz_k S R ((cf_43_0 o N).2) b t)) : mz_Ed (mz_X0 L xs) d 43 [.ref o] (mz_k S R N b t) Q :=
  by
  refine g_in mzq_43 (Nat.le_of_ble_eq_true rfl) (Nat.le_of_ble_eq_true rfl) (Nat.le_trans (Nat.le_of_ble_eq_true rfl) hd) ?_
  refine g_weak ?_ (g_cl (cg_43_0 (d := d - 1) (by omega) hS hR o ho N (C0 := fun z => Q (.inl (some (.int (mz_b01 z.1)))) (mz_k S R z.2 b t)) (fun _ _ h => h) hp hq))
  exact ⟨rfl, trivial⟩
/-! 40 KeptHouse$Reader.readOperator ()Z -/
theorem ms_40_0 : mz_sf mk_40 0 = mk_40 := mz_sf_zero _
theorem ms_40_26 : mz_sf mk_40 26 = mt_40_26 := mz_sf_add ms_40_0 (t := 26) rfl rfl
theorem ms_40_28 : mz_sf mk_40 28 = mt_40_28 := mz_sf_add ms_40_26 (t := 2) rfl rfl
theorem ms_40_55 : mz_sf mk_40 55 = mt_40_55 := mz_sf_add ms_40_28 (t := 27) rfl rfl
theorem ms_40_65 : mz_sf mk_40 65 = mt_40_65 := mz_sf_add ms_40_55 (t := 10) rfl rfl
theorem ms_40_88 : mz_sf mk_40 88 = mt_40_88 := mz_sf_add ms_40_65 (t := 23) rfl rfl
theorem ms_40_92 : mz_sf mk_40 92 = mt_40_92 := mz_sf_add ms_40_88 (t := 4) rfl rfl
set_option maxRecDepth 100000 in
theorem mzq_40 : mz_PG0 40 = some (7, ⟨"KeptHouse$Reader", "readOperator", "()Z"⟩, prog_9_method_19_code, 2, some .boolean, [], mk_40, []) := rfl
theorem cg_40_26 (hd : 3 ≤ d) (hS : mz_extR S 232) (hR : mz_rok R 232) (o : Nat) (ho : o = 43 ∨ o = 48) (N : mz_N) {C0 : (Bool × mz_N) → Prop} (hr : ∀ (w : Bool) (N2 : mz_N), C0 (w, N2) → Q (.inl (some (.int (mz_b01 w)))) (mz_k S R N2 b t)) (hp : cp_40_26 o N) (hC : C0 (cf_40_26 o N)) : mz_G (d, mz_X0 L xs, some .boolean, [], mk_40, 2, Q) 26 mt_40_26 [] [] false (mz_k S R N b t) := by
  unfold cf_40_26 at hC
  unfold cp_40_26 at hp
  refine g_iconst mzi_1 ?_
  exact g_zret (z := true) rfl (hr _ _ hC)
theorem cg_40_0 (hd : 3 ≤ d) (hS : mz_extR S 232) (hR : mz_rok R 232) (o : Nat) (ho : o = 43 ∨ o = 48) (N : mz_N) {C0 : (Bool × mz_N) → Prop} (hr : ∀ (w : Bool) (N2 : mz_N), C0 (w, N2) → Q (.inl (some (.int (mz_b01 w)))) (mz_k S R N2 b t)) (hp : cp_40_0 o N) (hC : C0 (cf_40_0 o N)) : mz_G (d, mz_X0 L xs, some .boolean, [], mk_40, 2, Q) 0 mk_40 [(0, .ref o)] [] true (mz_k S R N b t) := by
  unfold cf_40_0 at hC
  unfold cp_40_0 at hp
  refine g_aload_n rfl (g_getI (mz_at hS (mz_oL0 ho (Nat.le_of_ble_eq_true rfl)) (mz_oA0 ho)) mzcf_7_10 ?_)
  refine g_s1v (Nat.le_of_ble_eq_true rfl) (fun _ hq => cs_41 (Nat.le_trans (Nat.le_of_ble_eq_true rfl) hd) (hS.le (Nat.le_of_ble_eq_true rfl)) (hR.le (Nat.le_of_ble_eq_true rfl))  (N.1 o 10) trivial hq) (g_istore_n (Nat.le_of_ble_eq_true rfl) rfl (g_iload_n rfl (g_iconst mzi_1 ?_)))
  refine g_icle (tg := 28) rfl ms_40_28 hC (fun h2 hC => ?_) (fun h2 hC => ?_)
  · have hp := hp.1 h2
    refine g_aload_n rfl (g_iload_n rfl ?_)
    obtain ⟨h3, hp⟩ := hp
    refine g_v2n (Nat.le_of_ble_eq_true rfl) (mz_at hS (mz_oL0 ho (Nat.le_of_ble_eq_true rfl)) (mz_oA0 ho)) (fun _ hq => cs_42 (Nat.le_trans (Nat.le_of_ble_eq_true rfl) hd) (hS.le (Nat.le_of_ble_eq_true rfl)) (hR.le (Nat.le_of_ble_eq_true rfl)) o ho (cf_41_0 (N.1 o 10)) N h3 hq) (g_aload_n rfl (g_aload_n rfl (g_getI (mz_at hS (mz_oL0 ho (Nat.le_of_ble_eq_true rfl)) (mz_oA0 ho)) mzcf_7_10 ?_)))
    obtain ⟨h4, hp⟩ := hp
    refine g_v2n (Nat.le_of_ble_eq_true rfl) (mz_at hS (mz_oL0 ho (Nat.le_of_ble_eq_true rfl)) (mz_oA0 ho)) (fun _ hq => cs_39 (Nat.le_trans (Nat.le_of_ble_eq_true rfl) hd) (hS.le (Nat.le_of_ble_eq_true rfl)) (hR.le (Nat.le_of_ble_eq_true rfl)) o ho ((cf_42_0 o (cf_41_0 (N.1 o 10)) N).1 o 10) (cf_42_0 o (cf_41_0 (N.1 o 10)) N) h4 hq) ?_
    refine g_weak ?_ (g_cl (cg_40_26 hd hS hR o ho (cf_39_0 o ((cf_42_0 o (cf_41_0 (N.1 o 10)) N).1 o 10) (cf_42_0 o (cf_41_0 (N.1 o 10)) N)) hr hp hC))
    exact trivial
  · have hp := hp.2 h2
    refine g_iload_n rfl (g_iconst mzi_1 ?_)
    refine g_icne (tg := 65) rfl ms_40_65 hC (fun h5 hC => ?_) (fun h5 hC => ?_)
    · have hp := hp.1 h5
      refine g_aload_n rfl (g_iconst mzi_2 ?_)
      obtain ⟨h6, hp⟩ := hp
      refine g_v2n (Nat.le_of_ble_eq_true rfl) (mz_at hS (mz_oL0 ho (Nat.le_of_ble_eq_true rfl)) (mz_oA0 ho)) (fun _ hq => cs_42 (Nat.le_trans (Nat.le_of_ble_eq_true rfl) hd) (hS.le (Nat.le_of_ble_eq_true rfl)) (hR.le (Nat.le_of_ble_eq_true rfl)) o ho 2 N h6 hq) (g_aload_n rfl ?_)
      obtain ⟨h7, hp⟩ := hp
      refine g_v1v (Nat.le_of_ble_eq_true rfl) (mz_at hS (mz_oL0 ho (Nat.le_of_ble_eq_true rfl)) (mz_oA0 ho)) (fun _ hq => cs_37 (Nat.le_trans (Nat.le_of_ble_eq_true rfl) hd) (hS.le (Nat.le_of_ble_eq_true rfl)) (hR.le (Nat.le_of_ble_eq_true rfl)) o ho (cf_42_0 o 2 N) h7 hq) ?_
      refine g_s1v (Nat.le_of_ble_eq_true rfl) (fun _ hq => cs_41 (Nat.le_trans (Nat.le_of_ble_eq_true rfl) hd) (hS.le (Nat.le_of_ble_eq_true rfl)) (hR.le (Nat.le_of_ble_eq_true rfl))  (cf_37_0 o (cf_42_0 o 2 N)) trivial hq) (g_iconst mzi_1 ?_)
      refine g_icne (tg := 55) rfl ms_40_55 hC (fun h9 hC => ?_) (fun h9 hC => ?_)
      · have hp := hp.1 h9
        refine g_aload_n rfl (g_iconst mzi_2 ?_)
        refine g_v2v (Nat.le_of_ble_eq_true rfl) (mz_at hS (mz_oL0 ho (Nat.le_of_ble_eq_true rfl)) (mz_oA0 ho)) (fun _ hq => cs_27 (Nat.le_trans (Nat.le_of_ble_eq_true rfl) hd) (hS.le (Nat.le_of_ble_eq_true rfl)) (hR.le (Nat.le_of_ble_eq_true rfl)) o ho 2 (cf_42_0 o 2 N) trivial hq) ?_
        exact g_zret (z := ((cf_27_0 o 2 (cf_42_0 o 2 N)).1)) rfl (hr _ _ hC)
      · have hp := hp.2 h9
        refine g_aload_n rfl (g_aload_n rfl (g_getI (mz_at hS (mz_oL0 ho (Nat.le_of_ble_eq_true rfl)) (mz_oA0 ho)) mzcf_7_10 ?_))
        have h11 := hp
        refine g_v2n (Nat.le_of_ble_eq_true rfl) (mz_at hS (mz_oL0 ho (Nat.le_of_ble_eq_true rfl)) (mz_oA0 ho)) (fun _ hq => cs_39 (Nat.le_trans (Nat.le_of_ble_eq_true rfl) hd) (hS.le (Nat.le_of_ble_eq_true rfl)) (hR.le (Nat.le_of_ble_eq_true rfl)) o ho ((cf_42_0 o 2 N).1 o 10) (cf_42_0 o 2 N) h11 hq) (g_iconst mzi_1 ?_)
        exact g_zret (z := true) rfl (hr _ _ hC)
    · have hp := hp.2 h5
      refine g_aload_n rfl (g_iconst mzi_1 ?_)
      obtain ⟨h12, hp⟩ := hp
      refine g_v2n (Nat.le_of_ble_eq_true rfl) (mz_at hS (mz_oL0 ho (Nat.le_of_ble_eq_true rfl)) (mz_oA0 ho)) (fun _ hq => cs_42 (Nat.le_trans (Nat.le_of_ble_eq_true rfl) hd) (hS.le (Nat.le_of_ble_eq_true rfl)) (hR.le (Nat.le_of_ble_eq_true rfl)) o ho 1 N h12 hq) (g_aload_n rfl (g_getI (mz_at hS (mz_oL0 ho (Nat.le_of_ble_eq_true rfl)) (mz_oA0 ho)) mzcf_7_10 (g_bipush mzb_63 ?_)))
      refine g_icne (tg := 88) rfl ms_40_88 hC (fun h13 hC => ?_) (fun h13 hC => ?_)
      · have hp := hp.1 h13
        refine g_aload_n rfl (g_bipush mzb_63 ?_)
        have h14 := hp
        refine g_v2v (Nat.le_of_ble_eq_true rfl) (mz_at hS (mz_oL0 ho (Nat.le_of_ble_eq_true rfl)) (mz_oA0 ho)) (fun _ hq => cs_38 (Nat.le_trans (Nat.le_of_ble_eq_true rfl) hd) (hS.le (Nat.le_of_ble_eq_true rfl)) (hR.le (Nat.le_of_ble_eq_true rfl)) o ho 63 (cf_42_0 o 1 N) h14 hq) (g_goto (tg := 92) rfl ms_40_92 ?_)
        exact g_zret (z := ((cf_38_0 o 63 (cf_42_0 o 1 N)).1)) rfl (hr _ _ hC)
      · have hp := hp.2 h13
        refine g_aload_n rfl ?_
        have h15 := hp
        refine g_v1v (Nat.le_of_ble_eq_true rfl) (mz_at hS (mz_oL0 ho (Nat.le_of_ble_eq_true rfl)) (mz_oA0 ho)) (fun _ hq => cs_43 (Nat.le_trans (Nat.le_of_ble_eq_true rfl) hd) (hS.le (Nat.le_of_ble_eq_true rfl)) (hR.le (Nat.le_of_ble_eq_true rfl)) o ho (cf_42_0 o 1 N) h15 hq) ?_
        exact g_zret (z := ((cf_43_0 o (cf_42_0 o 1 N)).1)) rfl (hr _ _ hC)
theorem cs_40 (hd : 4 ≤ d) (hS : mz_extR S 232) (hR : mz_rok R 232) (o : Nat) (ho : o = 43 ∨ o = 48) (N : mz_N) (hp : cp_40_0 o N) (hq : Q (.inl (some (.int (mz_b01 ((cf_40_0 o N).1))))) (mz_k S R ((cf_40_0 o N).2) b t)) : mz_Ed (mz_X0 L xs) d 40 [.ref o] (mz_k S R N b t) Q :=
  by
  refine g_in mzq_40 (Nat.le_of_ble_eq_true rfl) (Nat.le_of_ble_eq_true rfl) (Nat.le_trans (Nat.le_of_ble_eq_true rfl) hd) ?_
  refine g_weak ?_ (cg_40_0 (d := d - 1) (by omega) hS hR o ho N (C0 := fun z => Q (.inl (some (.int (mz_b01 z.1)))) (mz_k S R z.2 b t)) (fun _ _ h => h) hp hq)
  exact ⟨rfl, trivial⟩
/-! 23 KeptHouse$Reader.read ([II)Z -/
theorem ms_23_0 : mz_sf mk_23 0 = mk_23 := mz_sf_zero _
theorem ms_23_30 : mz_sf mk_23 30 = mt_23_30 := mz_sf_add ms_23_0 (t := 30) rfl rfl
theorem ms_23_50 : mz_sf mk_23 50 = mt_23_50 := mz_sf_add ms_23_30 (t := 20) rfl rfl
theorem ms_23_70 : mz_sf mk_23 70 = mt_23_70 := mz_sf_add ms_23_50 (t := 20) rfl rfl
theorem ms_23_78 : mz_sf mk_23 78 = mt_23_78 := mz_sf_add ms_23_70 (t := 8) rfl rfl
theorem ms_23_104 : mz_sf mk_23 104 = mt_23_104 := mz_sf_add ms_23_78 (t := 26) rfl rfl
theorem ms_23_119 : mz_sf mk_23 119 = mt_23_119 := mz_sf_add ms_23_104 (t := 15) rfl rfl
theorem ms_23_135 : mz_sf mk_23 135 = mt_23_135 := mz_sf_add ms_23_119 (t := 16) rfl rfl
theorem ms_23_151 : mz_sf mk_23 151 = mt_23_151 := mz_sf_add ms_23_135 (t := 16) rfl rfl
theorem ms_23_156 : mz_sf mk_23 156 = mt_23_156 := mz_sf_add ms_23_151 (t := 5) rfl rfl
theorem ms_23_171 : mz_sf mk_23 171 = mt_23_171 := mz_sf_add ms_23_156 (t := 15) rfl rfl
theorem ms_23_172 : mz_sf mk_23 172 = mt_23_172 := mz_sf_add ms_23_171 (t := 1) rfl rfl
theorem ms_23_179 : mz_sf mk_23 179 = mt_23_179 := mz_sf_add ms_23_172 (t := 7) rfl rfl
set_option maxRecDepth 100000 in
theorem mzq_23 : mz_PG0 23 = some (7, ⟨"KeptHouse$Reader", "read", "([II)Z"⟩, prog_9_method_2_code, 5, some .boolean, [], mk_23, []) := rfl
theorem cg_23_172 (hd : 4 ≤ d) (hS : mz_extR S 232) (hR : mz_rok R 232) (o : Nat) (a1 : Nat) (ho : o = 43 ∨ o = 48) (hs1 : S[a1]? = some (0, 196, [])) (s0 : Bool) (v4 : Int32) (N : mz_N) {C0 : (Bool × mz_N) → Prop} (hr : ∀ (w : Bool) (N2 : mz_N), C0 (w, N2) → Q (.inl (some (.int (mz_b01 w)))) (mz_k S R N2 b t)) {C1 : ((Bool × Int32 × mz_N) ⊕ (Bool × mz_N)) → Prop} (hc1 : ∀ s2, C1 (.inl s2) → mz_G (d, mz_X0 L xs, some .boolean, [], mk_23, 5, Q) 78 mt_23_78 [(0, .ref o), (3, .int (mz_b01 s2.1)), (4, .int s2.2.1)] [] false (mz_k S R s2.2.2 b t)) (hx1 : ∀ z, C1 (.inr z) → C0 z) (hp : cp_23_172 o a1 s0 v4 N) (hC : C1 (cf_23_172 o a1 s0 v4 N)) : mz_G (d, mz_X0 L xs, some .boolean, [], mk_23, 5, Q) 172 mt_23_172 [(0, .ref o), (4, .int v4)] [.int (mz_b01 s0)] false (mz_k S R N b t) := by
  unfold cf_23_172 at hC
  unfold cp_23_172 at hp
  refine g_istore_n (Nat.le_of_ble_eq_true rfl) rfl (g_iinc rfl mzi_1 (Nat.le_of_ble_eq_true rfl) rfl (g_goto (tg := 78) rfl ms_23_78 ?_))
  refine g_weak ?_ (g_cl (hc1 (s0, (v4 + 1), N) hC))
  exact ⟨rfl, rfl, rfl, trivial⟩
theorem cg_23_171 (hd : 4 ≤ d) (hS : mz_extR S 232) (hR : mz_rok R 232) (o : Nat) (a1 : Nat) (ho : o = 43 ∨ o = 48) (hs1 : S[a1]? = some (0, 196, [])) (v4 : Int32) (N : mz_N) {C0 : (Bool × mz_N) → Prop} (hr : ∀ (w : Bool) (N2 : mz_N), C0 (w, N2) → Q (.inl (some (.int (mz_b01 w)))) (mz_k S R N2 b t)) {C1 : ((Bool × Int32 × mz_N) ⊕ (Bool × mz_N)) → Prop} (hc1 : ∀ s2, C1 (.inl s2) → mz_G (d, mz_X0 L xs, some .boolean, [], mk_23, 5, Q) 78 mt_23_78 [(0, .ref o), (3, .int (mz_b01 s2.1)), (4, .int s2.2.1)] [] false (mz_k S R s2.2.2 b t)) (hx1 : ∀ z, C1 (.inr z) → C0 z) (hp : cp_23_171 o a1 v4 N) (hC : C1 (cf_23_171 o a1 v4 N)) : mz_G (d, mz_X0 L xs, some .boolean, [], mk_23, 5, Q) 171 mt_23_171 [(0, .ref o), (4, .int v4)] [] false (mz_k S R N b t) := by
  unfold cf_23_171 at hC
  unfold cp_23_171 at hp
  refine g_iconst mzi_0 ?_
  refine g_weak ?_ (g_cl (cg_23_172 hd hS hR o a1 ho hs1 false v4 N hr hc1 hx1 hp hC))
  exact ⟨rfl, rfl, trivial⟩
theorem cg_23_156 (hd : 4 ≤ d) (hS : mz_extR S 232) (hR : mz_rok R 232) (o : Nat) (a1 : Nat) (ho : o = 43 ∨ o = 48) (hs1 : S[a1]? = some (0, 196, [])) (v3 : Bool) (v4 : Int32) (N : mz_N) {C0 : (Bool × mz_N) → Prop} (hr : ∀ (w : Bool) (N2 : mz_N), C0 (w, N2) → Q (.inl (some (.int (mz_b01 w)))) (mz_k S R N2 b t)) {C1 : ((Bool × Int32 × mz_N) ⊕ (Bool × mz_N)) → Prop} (hc1 : ∀ s2, C1 (.inl s2) → mz_G (d, mz_X0 L xs, some .boolean, [], mk_23, 5, Q) 78 mt_23_78 [(0, .ref o), (3, .int (mz_b01 s2.1)), (4, .int s2.2.1)] [] false (mz_k S R s2.2.2 b t)) (hx1 : ∀ z, C1 (.inr z) → C0 z) (hp : cp_23_156 o a1 v3 v4 N) (hC : C1 (cf_23_156 o a1 v3 v4 N)) : mz_G (d, mz_X0 L xs, some .boolean, [], mk_23, 5, Q) 156 mt_23_156 [(0, .ref o), (3, .int (mz_b01 v3)), (4, .int v4)] [] false (mz_k S R N b t) := by
  unfold cf_23_156 at hC
  unfold cp_23_156 at hp
  refine g_iload_n rfl ?_
  refine g_zeq (tg := 171) rfl ms_23_171 hC (fun h1 hC => ?_) (fun h1 hC => ?_)
  · have hp := hp.1 h1
    refine g_aload_n rfl ?_
    obtain ⟨h2, hp⟩ := hp
    refine g_v1v (Nat.le_of_ble_eq_true rfl) (mz_at hS (mz_oL0 ho (Nat.le_of_ble_eq_true rfl)) (mz_oA0 ho)) (fun _ hq => cs_24 (Nat.le_trans (Nat.le_of_ble_eq_true rfl) hd) (hS.le (Nat.le_of_ble_eq_true rfl)) (hR.le (Nat.le_of_ble_eq_true rfl)) o ho N h2 hq) ?_
    refine g_zeq (tg := 171) rfl ms_23_171 hC (fun h3 hC => ?_) (fun h3 hC => ?_)
    · have hp := hp.1 h3
      refine g_iconst mzi_1 (g_goto (tg := 172) rfl ms_23_172 ?_)
      refine g_weak ?_ (g_cl (cg_23_172 hd hS hR o a1 ho hs1 true v4 ((cf_24_0 o N).2) hr hc1 hx1 hp hC))
      exact ⟨rfl, rfl, trivial⟩
    · have hp := hp.2 h3
      refine g_weak ?_ (g_cl (cg_23_171 hd hS hR o a1 ho hs1 v4 ((cf_24_0 o N).2) hr hc1 hx1 hp hC))
      exact ⟨rfl, rfl, trivial⟩
  · have hp := hp.2 h1
    refine g_weak ?_ (g_cl (cg_23_171 hd hS hR o a1 ho hs1 v4 N hr hc1 hx1 hp hC))
    exact ⟨rfl, rfl, trivial⟩
theorem cg_23_104 (hd : 4 ≤ d) (hS : mz_extR S 232) (hR : mz_rok R 232) (o : Nat) (a1 : Nat) (ho : o = 43 ∨ o = 48) (hs1 : S[a1]? = some (0, 196, [])) (v4 : Int32) (N : mz_N) {C0 : (Bool × mz_N) → Prop} (hr : ∀ (w : Bool) (N2 : mz_N), C0 (w, N2) → Q (.inl (some (.int (mz_b01 w)))) (mz_k S R N2 b t)) {C1 : ((Bool × Int32 × mz_N) ⊕ (Bool × mz_N)) → Prop} (hc1 : ∀ s2, C1 (.inl s2) → mz_G (d, mz_X0 L xs, some .boolean, [], mk_23, 5, Q) 78 mt_23_78 [(0, .ref o), (3, .int (mz_b01 s2.1)), (4, .int s2.2.1)] [] false (mz_k S R s2.2.2 b t)) (hx1 : ∀ z, C1 (.inr z) → C0 z) (hp : cp_23_104 o a1 v4 N) (hC : C1 (cf_23_104 o a1 v4 N)) : mz_G (d, mz_X0 L xs, some .boolean, [], mk_23, 5, Q) 104 mt_23_104 [(0, .ref o), (4, .int v4)] [] false (mz_k S R N b t) := by
  unfold cf_23_104 at hC
  unfold cp_23_104 at hp
  refine g_aload_n rfl (g_getI (mz_at hS (mz_oL0 ho (Nat.le_of_ble_eq_true rfl)) (mz_oA0 ho)) mzcf_7_12 ?_)
  refine g_ifne (tg := 119) rfl ms_23_119 hC (fun h1 hC => ?_) (fun h1 hC => ?_)
  · have hp := hp.1 h1
    refine g_aload_n rfl ?_
    obtain ⟨h2, hp⟩ := hp
    refine g_v1v (Nat.le_of_ble_eq_true rfl) (mz_at hS (mz_oL0 ho (Nat.le_of_ble_eq_true rfl)) (mz_oA0 ho)) (fun _ hq => cs_32 (Nat.le_trans (Nat.le_of_ble_eq_true rfl) hd) (hS.le (Nat.le_of_ble_eq_true rfl)) (hR.le (Nat.le_of_ble_eq_true rfl)) o ho N h2 hq) (g_istore_n (Nat.le_of_ble_eq_true rfl) rfl (g_goto (tg := 156) rfl ms_23_156 ?_))
    refine g_weak ?_ (g_cl (cg_23_156 hd hS hR o a1 ho hs1 ((cf_32_0 o N).1) v4 ((cf_32_0 o N).2) hr hc1 hx1 hp hC))
    exact ⟨rfl, rfl, rfl, trivial⟩
  · have hp := hp.2 h1
    refine g_aload_n rfl (g_getI (mz_at hS (mz_oL0 ho (Nat.le_of_ble_eq_true rfl)) (mz_oA0 ho)) mzcf_7_12 (g_iconst mzi_1 ?_))
    refine g_icne (tg := 135) rfl ms_23_135 hC (fun h3 hC => ?_) (fun h3 hC => ?_)
    · have hp := hp.1 h3
      refine g_aload_n rfl ?_
      refine g_v1v (Nat.le_of_ble_eq_true rfl) (mz_at hS (mz_oL0 ho (Nat.le_of_ble_eq_true rfl)) (mz_oA0 ho)) (fun _ hq => cs_33 (Nat.le_trans (Nat.le_of_ble_eq_true rfl) hd) (hS.le (Nat.le_of_ble_eq_true rfl)) (hR.le (Nat.le_of_ble_eq_true rfl)) o ho N trivial hq) (g_istore_n (Nat.le_of_ble_eq_true rfl) rfl (g_goto (tg := 156) rfl ms_23_156 ?_))
      refine g_weak ?_ (g_cl (cg_23_156 hd hS hR o a1 ho hs1 ((cf_33_0 o N).1) v4 ((cf_33_0 o N).2) hr hc1 hx1 hp hC))
      exact ⟨rfl, rfl, rfl, trivial⟩
    · have hp := hp.2 h3
      refine g_aload_n rfl (g_getI (mz_at hS (mz_oL0 ho (Nat.le_of_ble_eq_true rfl)) (mz_oA0 ho)) mzcf_7_12 (g_iconst mzi_2 ?_))
      refine g_icne (tg := 151) rfl ms_23_151 hC (fun h5 hC => ?_) (fun h5 hC => ?_)
      · have hp := hp.1 h5
        refine g_aload_n rfl ?_
        obtain ⟨h6, hp⟩ := hp
        refine g_v1v (Nat.le_of_ble_eq_true rfl) (mz_at hS (mz_oL0 ho (Nat.le_of_ble_eq_true rfl)) (mz_oA0 ho)) (fun _ hq => cs_34 (Nat.le_trans (Nat.le_of_ble_eq_true rfl) hd) (hS.le (Nat.le_of_ble_eq_true rfl)) (hR.le (Nat.le_of_ble_eq_true rfl)) o ho N h6 hq) (g_istore_n (Nat.le_of_ble_eq_true rfl) rfl (g_goto (tg := 156) rfl ms_23_156 ?_))
        refine g_weak ?_ (g_cl (cg_23_156 hd hS hR o a1 ho hs1 ((cf_34_0 o N).1) v4 ((cf_34_0 o N).2) hr hc1 hx1 hp hC))
        exact ⟨rfl, rfl, rfl, trivial⟩
      · have hp := hp.2 h5
        refine g_aload_n rfl ?_
        obtain ⟨h7, hp⟩ := hp
        refine g_v1v (Nat.le_of_ble_eq_true rfl) (mz_at hS (mz_oL0 ho (Nat.le_of_ble_eq_true rfl)) (mz_oA0 ho)) (fun _ hq => cs_40 (Nat.le_trans (Nat.le_of_ble_eq_true rfl) hd) (hS.le (Nat.le_of_ble_eq_true rfl)) (hR.le (Nat.le_of_ble_eq_true rfl)) o ho N h7 hq) (g_istore_n (Nat.le_of_ble_eq_true rfl) rfl ?_)
        refine g_weak ?_ (g_cl (cg_23_156 hd hS hR o a1 ho hs1 ((cf_40_0 o N).1) v4 ((cf_40_0 o N).2) hr hc1 hx1 hp hC))
        exact ⟨rfl, rfl, rfl, trivial⟩
theorem cb_23_78 (hd : 4 ≤ d) (hS : mz_extR S 232) (hR : mz_rok R 232) (o : Nat) (a1 : Nat) (ho : o = 43 ∨ o = 48) (hs1 : S[a1]? = some (0, 196, []))  (s : Bool × Int32 × mz_N) {C0 : (Bool × mz_N) → Prop} (hr : ∀ (w : Bool) (N2 : mz_N), C0 (w, N2) → Q (.inl (some (.int (mz_b01 w)))) (mz_k S R N2 b t)) {C1 : ((Bool × Int32 × mz_N) ⊕ (Bool × mz_N)) → Prop} (hc1 : ∀ s2, C1 (.inl s2) → mz_G (d, mz_X0 L xs, some .boolean, [], mk_23, 5, Q) 78 mt_23_78 [(0, .ref o), (3, .int (mz_b01 s2.1)), (4, .int s2.2.1)] [] false (mz_k S R s2.2.2 b t)) (hx1 : ∀ z, C1 (.inr z) → C0 z) (hp : cd_23_78 o a1 s) (hC : C1 (cq_23_78 o a1 s)) : mz_G (d, mz_X0 L xs, some .boolean, [], mk_23, 5, Q) 78 mt_23_78 [(0, .ref o), (3, .int (mz_b01 s.1)), (4, .int s.2.1)] [] false (mz_k S R s.2.2 b t) := by
  unfold cq_23_78 at hC
  unfold cd_23_78 at hp
  refine g_iload rfl (g_sipush mzs_196 ?_)
  refine g_icgt (tg := 179) rfl ms_23_179 hC (fun h1 hC => ?_) (fun h1 hC => ?_)
  · have hp := hp.1 h1
    refine g_iload_n rfl ?_
    exact g_zret (z := s.1) rfl (hr _ _ (hx1 _ hC))
  · have hp := hp.2 h1
    refine g_iload_n rfl ?_
    refine g_zeq (tg := 179) rfl ms_23_179 hC (fun h2 hC => ?_) (fun h2 hC => ?_)
    · have hp := hp.1 h2
      refine g_aload_n rfl (g_getI (mz_at hS (mz_oL0 ho (Nat.le_of_ble_eq_true rfl)) (mz_oA0 ho)) mzcf_7_10 ?_)
      refine g_ifne (tg := 104) rfl ms_23_104 hC (fun h3 hC => ?_) (fun h3 hC => ?_)
      · have hp := hp.1 h3
        refine g_aload_n rfl (g_getI (mz_at hS (mz_oL0 ho (Nat.le_of_ble_eq_true rfl)) (mz_oA0 ho)) mzcf_7_12 ?_)
        refine g_ifeq (tg := 179) rfl ms_23_179 hC (fun h4 hC => ?_) (fun h4 hC => ?_)
        · have hp := hp.1 h4
          refine g_iload_n rfl ?_
          exact g_zret (z := s.1) rfl (hr _ _ (hx1 _ hC))
        · have hp := hp.2 h4
          refine g_weak ?_ (g_cl (cg_23_104 hd hS hR o a1 ho hs1 s.2.1 s.2.2 hr hc1 hx1 hp hC))
          exact ⟨rfl, rfl, trivial⟩
      · have hp := hp.2 h3
        refine g_weak ?_ (g_cl (cg_23_104 hd hS hR o a1 ho hs1 s.2.1 s.2.2 hr hc1 hx1 hp hC))
        exact ⟨rfl, rfl, trivial⟩
    · have hp := hp.2 h2
      refine g_iload_n rfl ?_
      exact g_zret (z := s.1) rfl (hr _ _ (hx1 _ hC))
theorem cg_23_78 (hd : 4 ≤ d) (hS : mz_extR S 232) (hR : mz_rok R 232) (o : Nat) (a1 : Nat) (ho : o = 43 ∨ o = 48) (hs1 : S[a1]? = some (0, 196, [])) (v3 : Bool) (v4 : Int32) (N : mz_N) {C0 : (Bool × mz_N) → Prop} (hr : ∀ (w : Bool) (N2 : mz_N), C0 (w, N2) → Q (.inl (some (.int (mz_b01 w)))) (mz_k S R N2 b t)) (hp : cp_23_78 o a1 v3 v4 N) (hC : C0 (cf_23_78 o a1 v3 v4 N)) : mz_G (d, mz_X0 L xs, some .boolean, [], mk_23, 5, Q) 78 mt_23_78 [(0, .ref o), (3, .int (mz_b01 v3)), (4, .int v4)] [] false (mz_k S R N b t) := by
  obtain ⟨n, hn⟩ := hp
  exact g_loop (G := fun s => mz_G (d, mz_X0 L xs, some .boolean, [], mk_23, 5, Q) 78 mt_23_78 [(0, .ref o), (3, .int (mz_b01 s.1)), (4, .int s.2.1)] [] false (mz_k S R s.2.2 b t)) (C := C0) (fun C2 hc hx s hP hC => cb_23_78 hd hS hR o a1 ho hs1 s hr hc hx hP hC) n (v3, v4, N) hn hC
theorem cg_23_70 (hd : 4 ≤ d) (hS : mz_extR S 232) (hR : mz_rok R 232) (o : Nat) (a1 : Nat) (ho : o = 43 ∨ o = 48) (hs1 : S[a1]? = some (0, 196, [])) (N : mz_N) {C0 : (Bool × mz_N) → Prop} (hr : ∀ (w : Bool) (N2 : mz_N), C0 (w, N2) → Q (.inl (some (.int (mz_b01 w)))) (mz_k S R N2 b t)) (hp : cp_23_70 o a1 N) (hC : C0 (cf_23_70 o a1 N)) : mz_G (d, mz_X0 L xs, some .boolean, [], mk_23, 5, Q) 70 mt_23_70 [(0, .ref o)] [] false (mz_k S R N b t) := by
  unfold cf_23_70 at hC
  unfold cp_23_70 at hp
  refine g_aload_n rfl ?_
  obtain ⟨h1, hp⟩ := hp
  refine g_v1v (Nat.le_of_ble_eq_true rfl) (mz_at hS (mz_oL0 ho (Nat.le_of_ble_eq_true rfl)) (mz_oA0 ho)) (fun _ hq => cs_24 (Nat.le_trans (Nat.le_of_ble_eq_true rfl) hd) (hS.le (Nat.le_of_ble_eq_true rfl)) (hR.le (Nat.le_of_ble_eq_true rfl)) o ho N h1 hq) (g_istore_n (Nat.le_of_ble_eq_true rfl) rfl (g_iconst mzi_0 (g_istore (Nat.le_of_ble_eq_true rfl) rfl ?_)))
  refine g_weak ?_ (g_cl (cg_23_78 hd hS hR o a1 ho hs1 ((cf_24_0 o N).1) 0 ((cf_24_0 o N).2) hr hp hC))
  exact ⟨rfl, rfl, rfl, trivial⟩
theorem cg_23_30 (hd : 4 ≤ d) (hS : mz_extR S 232) (hR : mz_rok R 232) (o : Nat) (a1 : Nat) (ho : o = 43 ∨ o = 48) (hs1 : S[a1]? = some (0, 196, [])) (N : mz_N) {C0 : (Bool × mz_N) → Prop} (hr : ∀ (w : Bool) (N2 : mz_N), C0 (w, N2) → Q (.inl (some (.int (mz_b01 w)))) (mz_k S R N2 b t)) (hp : cp_23_30 o a1 N) (hC : C0 (cf_23_30 o a1 N)) : mz_G (d, mz_X0 L xs, some .boolean, [], mk_23, 5, Q) 30 mt_23_30 [(0, .ref o)] [] false (mz_k S R N b t) := by
  unfold cf_23_30 at hC
  unfold cp_23_30 at hp
  refine g_aload_n rfl (g_iconst mzi_0 (g_putI (mz_at hS (mz_oL0 ho (Nat.le_of_ble_eq_true rfl)) (mz_oA0 ho)) mzcf_7_4 (g_aload_n rfl (g_iconst mzi_0 (g_putI (mz_at hS (mz_oL0 ho (Nat.le_of_ble_eq_true rfl)) (mz_oA0 ho)) mzcf_7_5 (g_aload_n rfl (g_iconst mzi_0 ?_)))))))
  refine g_putI (mz_at hS (mz_oL0 ho (Nat.le_of_ble_eq_true rfl)) (mz_oA0 ho)) mzcf_7_6 (g_aload_n rfl (g_iconst mzi_0 (g_putI (mz_at hS (mz_oL0 ho (Nat.le_of_ble_eq_true rfl)) (mz_oA0 ho)) mzcf_7_7 (g_aload_n rfl (g_iconst mzi_0 (g_putI (mz_at hS (mz_oL0 ho (Nat.le_of_ble_eq_true rfl)) (mz_oA0 ho)) mzcf_7_8 (g_aload_n rfl ?_)))))))
  refine g_iconst mzi_0 (g_putI (mz_at hS (mz_oL0 ho (Nat.le_of_ble_eq_true rfl)) (mz_oA0 ho)) mzcf_7_12 (g_aload_n rfl (g_iconst mzi_0 (g_putI (mz_at hS (mz_oL0 ho (Nat.le_of_ble_eq_true rfl)) (mz_oA0 ho)) mzcf_7_15 (g_aload_n rfl (g_iconst mzi_0 (g_putI (mz_at hS (mz_oL0 ho (Nat.le_of_ble_eq_true rfl)) (mz_oA0 ho)) mzcf_7_16 ?_)))))))
  refine g_weak ?_ (g_cl (cg_23_70 hd hS hR o a1 ho hs1 (mz_pI (mz_pI (mz_pI (mz_pI (mz_pI (mz_pI (mz_pI (mz_pI N o 4 0) o 5 0) o 6 0) o 7 0) o 8 0) o 12 0) o 15 0) o 16 0) hr hp hC))
  exact ⟨rfl, trivial⟩
theorem cg_23_0 (hd : 4 ≤ d) (hS : mz_extR S 232) (hR : mz_rok R 232) (o : Nat) (a1 : Nat) (ho : o = 43 ∨ o = 48) (hs1 : S[a1]? = some (0, 196, [])) (v2 : Int32) (N : mz_N) {C0 : (Bool × mz_N) → Prop} (hr : ∀ (w : Bool) (N2 : mz_N), C0 (w, N2) → Q (.inl (some (.int (mz_b01 w)))) (mz_k S R N2 b t)) (hp : cp_23_0 o a1 v2 N) (hC : C0 (cf_23_0 o a1 v2 N)) : mz_G (d, mz_X0 L xs, some .boolean, [], mk_23, 5, Q) 0 mk_23 [(0, .ref o), (1, .ref a1), (2, .int v2)] [] true (mz_k S R N b t) := by
  unfold cf_23_0 at hC
  unfold cp_23_0 at hp
  refine g_aload_n rfl (g_iload_n rfl (g_aload_n rfl (g_len0 hS.1 hs1 mzn_196 (g_imin (Nat.le_of_ble_eq_true rfl) (g_sipush mzs_196 (g_imin (Nat.le_of_ble_eq_true rfl) (g_putI (mz_at hS (mz_oL0 ho (Nat.le_of_ble_eq_true rfl)) (mz_oA0 ho)) mzcf_7_1 ?_)))))))
  refine g_aload_n rfl (g_iconst mzi_0 (g_aload_n rfl (g_getR (mz_at hS (mz_oL0 ho (Nat.le_of_ble_eq_true rfl)) (mz_oA0 ho)) mzcf_7_0 (mz_rb hR (mz_oL0 ho (Nat.le_of_ble_eq_true rfl)) (mz_o41 ho) (mz_oR1 ho)) (g_iconst mzi_0 (g_aload_n rfl (g_getI (mz_at hS (mz_oL0 ho (Nat.le_of_ble_eq_true rfl)) (mz_oA0 ho)) mzcf_7_1 ?_))))))
  obtain ⟨h1, hp⟩ := hp
  refine g_cpI (Nat.le_of_ble_eq_true rfl) hs1 (mz_at hS (mz_oL1 ho (Nat.le_of_ble_eq_true rfl)) (mz_oA1 ho)) h1 ?_
  refine g_weak ?_ (g_cl (cg_23_30 hd hS hR o a1 ho hs1 (mz_yI (mz_pI N o 1 (mz_imin (mz_imin v2 196) 196)) a1 0 (o + 1) 0 ((mz_pI N o 1 (mz_imin (mz_imin v2 196) 196)).1 o 1)) hr hp hC))
  exact ⟨rfl, trivial⟩
theorem cs_23 (hd : 5 ≤ d) (hS : mz_extR S 232) (hR : mz_rok R 232) (o : Nat) (a1 : Nat) (ho : o = 43 ∨ o = 48) (hs1 : S[a1]? = some (0, 196, [])) (v2 : Int32) (N : mz_N) (hp : cp_23_0 o a1 v2 N) (hq : Q (.inl (some (.int (mz_b01 ((cf_23_0 o a1 v2 N).1))))) (mz_k S R ((cf_23_0 o a1 v2 N).2) b t)) : mz_Ed (mz_X0 L xs) d 23 [.ref o, .ref a1, .int v2] (mz_k S R N b t) Q :=
  by
  refine g_in mzq_23 (Nat.le_of_ble_eq_true rfl) (Nat.le_of_ble_eq_true rfl) (Nat.le_trans (Nat.le_of_ble_eq_true rfl) hd) ?_
  refine g_weak ?_ (cg_23_0 (d := d - 1) (by omega) hS hR o a1 ho hs1 v2 N (C0 := fun z => Q (.inl (some (.int (mz_b01 z.1)))) (mz_k S R z.2 b t)) (fun _ _ h => h) hp hq)
  exact ⟨rfl, rfl, rfl, trivial⟩
/-! 46 java/util/Arrays.rangeCheck (III)V -/
theorem ms_46_0 : mz_sf mk_46 0 = mk_46 := mz_sf_zero _
theorem ms_46_46 : mz_sf mk_46 46 = mt_46_46 := mz_sf_add ms_46_0 (t := 46) rfl rfl
theorem ms_46_59 : mz_sf mk_46 59 = mt_46_59 := mz_sf_add ms_46_46 (t := 13) rfl rfl
theorem ms_46_73 : mz_sf mk_46 73 = mt_46_73 := mz_sf_add ms_46_59 (t := 14) rfl rfl
set_option maxRecDepth 100000 in
theorem mzq_46 : mz_PG0 46 = some (14, ⟨"java/util/Arrays", "rangeCheck", "(III)V"⟩, prog_30_method_30_code, 3, none, [], mk_46, []) := rfl
theorem cg_46_0 (hd : 0 ≤ d) (hS : mz_extR S 0) (hR : mz_rok R 0)  (v0 : Int32) (v1 : Int32) (v2 : Int32) {C0 : (Unit) → Prop} (hr : C0 () → Q (.inl none) (mz_k S R N b t)) (hp : cp_46_0 v0 v1 v2) (hC : C0 (cf_46_0 v0 v1 v2)) : mz_G (d, mz_X0 L xs, none, [], mk_46, 3, Q) 0 mk_46 [(0, .int v0), (1, .int v1), (2, .int v2)] [] true (mz_k S R N b t) := by
  unfold cf_46_0 at hC
  unfold cp_46_0 at hp
  refine g_iload_n rfl (g_iload_n rfl ?_)
  refine g_icle (tg := 46) rfl ms_46_46 hC (fun h1 hC => ?_) (fun h1 hC => ?_)
  · have hp := hp.1 h1
    exact hp.elim
  · have hp := hp.2 h1
    refine g_iload_n rfl ?_
    refine g_ifge (tg := 59) rfl ms_46_59 hC (fun h2 hC => ?_) (fun h2 hC => ?_)
    · have hp := hp.1 h2
      exact hp.elim
    · have hp := hp.2 h2
      refine g_iload_n rfl (g_iload_n rfl ?_)
      refine g_icle (tg := 73) rfl ms_46_73 hC (fun h3 hC => ?_) (fun h3 hC => ?_)
      · have hp := hp.1 h3
        exact hp.elim
      · have hp := hp.2 h3
        exact g_vret rfl (hr hC)
theorem cs_46 (hd : 1 ≤ d) (hS : mz_extR S 0) (hR : mz_rok R 0)  (v0 : Int32) (v1 : Int32) (v2 : Int32) (hp : cp_46_0 v0 v1 v2) (hq : Q (.inl none) (mz_k S R N b t)) : mz_Ed (mz_X0 L xs) d 46 [.int v0, .int v1, .int v2] (mz_k S R N b t) Q :=
  by
  refine g_in mzq_46 (Nat.le_of_ble_eq_true rfl) (Nat.le_of_ble_eq_true rfl) (Nat.le_trans (Nat.le_of_ble_eq_true rfl) hd) ?_
  refine g_weak ?_ (cg_46_0 (d := d - 1) (by omega) hS hR v0 v1 v2 (C0 := fun z => Q (.inl none) (mz_k S R N b t)) (fun h => h) hp hq)
  exact ⟨rfl, rfl, rfl, trivial⟩
/-! 45 java/util/Arrays.fill ([IIII)V -/
theorem ms_45_0 : mz_sf mk_45 0 = mk_45 := mz_sf_zero _
theorem ms_45_10 : mz_sf mk_45 10 = mt_45_10 := mz_sf_add ms_45_0 (t := 10) rfl rfl
theorem ms_45_27 : mz_sf mk_45 27 = mt_45_27 := mz_sf_add ms_45_10 (t := 17) rfl rfl
set_option maxRecDepth 100000 in
theorem mzq_45 : mz_PG0 45 = some (14, ⟨"java/util/Arrays", "fill", "([IIII)V"⟩, prog_30_method_104_code, 5, none, [], mk_45, []) := rfl
theorem cb_45_10 (hd : 1 ≤ d) (hS : mz_extR S 0) (hR : mz_rok R 0) (a0 : Nat) (n0 : Nat) (hs0 : S[a0]? = some (0, n0, [])) (v2 : Int32) (v3 : Int32) (s : Int32 × mz_N) {C0 : (mz_N) → Prop} (hr : ∀ (N2 : mz_N), C0 N2 → Q (.inl none) (mz_k S R N2 b t)) {C1 : ((Int32 × mz_N) ⊕ (mz_N)) → Prop} (hc1 : ∀ s2, C1 (.inl s2) → mz_G (d, mz_X0 L xs, none, [], mk_45, 5, Q) 10 mt_45_10 [(0, .ref a0), (2, .int v2), (3, .int v3), (4, .int s2.1)] [] false (mz_k S R s2.2 b t)) (hx1 : ∀ z, C1 (.inr z) → C0 z) (hp : cd_45_10 a0 n0 v2 v3 s) (hC : C1 (cq_45_10 a0 n0 v2 v3 s)) : mz_G (d, mz_X0 L xs, none, [], mk_45, 5, Q) 10 mt_45_10 [(0, .ref a0), (2, .int v2), (3, .int v3), (4, .int s.1)] [] false (mz_k S R s.2 b t) := by
  unfold cq_45_10 at hC
  unfold cd_45_10 at hp
  refine g_iload rfl (g_iload_n rfl ?_)
  refine g_icge (tg := 27) rfl ms_45_27 hC (fun h1 hC => ?_) (fun h1 hC => ?_)
  · have hp := hp.1 h1
    refine g_aload_n rfl (g_iload rfl (g_iload_n rfl ?_))
    have h2 := hp
    refine g_iast hs0 h2 (g_iinc rfl mzi_1 (Nat.le_of_ble_eq_true rfl) rfl (g_goto (tg := 10) rfl ms_45_10 ?_))
    refine g_weak ?_ (g_cl (hc1 ((s.1 + 1), mz_wI s.2 a0 s.1 v3) hC))
    exact ⟨rfl, rfl, rfl, rfl, trivial⟩
  · have hp := hp.2 h1
    exact g_vret rfl (hr _ (hx1 _ hC))
theorem cg_45_10 (hd : 1 ≤ d) (hS : mz_extR S 0) (hR : mz_rok R 0) (a0 : Nat) (n0 : Nat) (hs0 : S[a0]? = some (0, n0, [])) (v2 : Int32) (v3 : Int32) (v4 : Int32) (N : mz_N) {C0 : (mz_N) → Prop} (hr : ∀ (N2 : mz_N), C0 N2 → Q (.inl none) (mz_k S R N2 b t)) (hp : cp_45_10 a0 n0 v2 v3 v4 N) (hC : C0 (cf_45_10 a0 n0 v2 v3 v4 N)) : mz_G (d, mz_X0 L xs, none, [], mk_45, 5, Q) 10 mt_45_10 [(0, .ref a0), (2, .int v2), (3, .int v3), (4, .int v4)] [] false (mz_k S R N b t) := by
  obtain ⟨n, hn⟩ := hp
  exact g_loop (G := fun s => mz_G (d, mz_X0 L xs, none, [], mk_45, 5, Q) 10 mt_45_10 [(0, .ref a0), (2, .int v2), (3, .int v3), (4, .int s.1)] [] false (mz_k S R s.2 b t)) (C := C0) (fun C2 hc hx s hP hC => cb_45_10 hd hS hR a0 n0 hs0 v2 v3 s hr hc hx hP hC) n (v4, N) hn hC
theorem cg_45_0 (hd : 1 ≤ d) (hS : mz_extR S 0) (hR : mz_rok R 0) (a0 : Nat) (n0 : Nat) (hs0 : S[a0]? = some (0, n0, [])) (v1 : Int32) (v2 : Int32) (v3 : Int32) (N : mz_N) {C0 : (mz_N) → Prop} (hr : ∀ (N2 : mz_N), C0 N2 → Q (.inl none) (mz_k S R N2 b t)) (hp : cp_45_0 a0 n0 v1 v2 v3 N) (hC : C0 (cf_45_0 a0 n0 v1 v2 v3 N)) : mz_G (d, mz_X0 L xs, none, [], mk_45, 5, Q) 0 mk_45 [(0, .ref a0), (1, .int v1), (2, .int v2), (3, .int v3)] [] true (mz_k S R N b t) := by
  unfold cf_45_0 at hC
  unfold cp_45_0 at hp
  refine g_aload_n rfl (g_len0 hS.1 hs0 rfl (g_iload_n rfl (g_iload_n rfl ?_)))
  obtain ⟨h1, hp⟩ := hp
  refine g_s3n (Nat.le_of_ble_eq_true rfl) (fun _ hq => cs_46 (Nat.le_trans (Nat.le_of_ble_eq_true rfl) hd) (hS.le (Nat.le_of_ble_eq_true rfl)) (hR.le (Nat.le_of_ble_eq_true rfl))  (Int32.ofNat n0) v1 v2 h1 hq) (g_iload_n rfl (g_istore (Nat.le_of_ble_eq_true rfl) rfl ?_))
  refine g_weak ?_ (g_cl (cg_45_10 hd hS hR a0 n0 hs0 v2 v3 v1 N hr hp hC))
  exact ⟨rfl, rfl, rfl, rfl, trivial⟩
theorem cs_45 (hd : 2 ≤ d) (hS : mz_extR S 0) (hR : mz_rok R 0) (a0 : Nat) (n0 : Nat) (hs0 : S[a0]? = some (0, n0, [])) (v1 : Int32) (v2 : Int32) (v3 : Int32) (N : mz_N) (hp : cp_45_0 a0 n0 v1 v2 v3 N) (hq : Q (.inl none) (mz_k S R (cf_45_0 a0 n0 v1 v2 v3 N) b t)) : mz_Ed (mz_X0 L xs) d 45 [.ref a0, .int v1, .int v2, .int v3] (mz_k S R N b t) Q :=
  by
  refine g_in mzq_45 (Nat.le_of_ble_eq_true rfl) (Nat.le_of_ble_eq_true rfl) (Nat.le_trans (Nat.le_of_ble_eq_true rfl) hd) ?_
  refine g_weak ?_ (cg_45_0 (d := d - 1) (by omega) hS hR a0 n0 hs0 v1 v2 v3 N (C0 := fun z => Q (.inl none) (mz_k S R z b t)) (fun _ h => h) hp hq)
  exact ⟨rfl, rfl, rfl, rfl, trivial⟩
/-! 44 KeptHouse$Program.setTargets ()V -/
theorem ms_44_0 : mz_sf mk_44 0 = mk_44 := mz_sf_zero _
theorem ms_44_25 : mz_sf mk_44 25 = mt_44_25 := mz_sf_add ms_44_0 (t := 25) rfl rfl
set_option maxRecDepth 100000 in
theorem mzq_44 : mz_PG0 44 = some (6, ⟨"KeptHouse$Program", "setTargets", "()V"⟩, prog_8_method_3_code, 1, none, [], mk_44, []) := rfl
theorem cg_44_0 (hd : 2 ≤ d) (hS : mz_extR S 232) (hR : mz_rok R 232)  (N : mz_N) {C0 : (mz_N) → Prop} (hr : ∀ (N2 : mz_N), C0 N2 → Q (.inl none) (mz_k S R N2 b t)) (hp : cp_44_0 N) (hC : C0 (cf_44_0 N)) : mz_G (d, mz_X0 L xs, none, [], mk_44, 1, Q) 0 mk_44 [(0, .ref 41)] [] true (mz_k S R N b t) := by
  unfold cf_44_0 at hC
  unfold cp_44_0 at hp
  refine g_aload_n rfl (g_getR (mz_at hS (Nat.le_of_ble_eq_true rfl) mzcS_41) mzcf_6_6 (mz_rb hR (Nat.le_of_ble_eq_true rfl) rfl mzcR_41_6) (g_iconst mzi_0 (g_bipush mzb_10 (g_sipush mzs_200 ?_))))
  obtain ⟨h1, hp⟩ := hp
  refine g_s4n (Nat.le_of_ble_eq_true rfl) (fun _ hq => cs_45 (Nat.le_trans (Nat.le_of_ble_eq_true rfl) hd) (hS.le (Nat.le_of_ble_eq_true rfl)) (hR.le (Nat.le_of_ble_eq_true rfl)) 53 53 (mz_at hS (Nat.le_of_ble_eq_true rfl) mzcS_53) 0 10 200 N h1 hq) (g_aload_n rfl (g_getR (mz_at hS (Nat.le_of_ble_eq_true rfl) mzcS_41) mzcf_6_6 (mz_rb hR (Nat.le_of_ble_eq_true rfl) rfl mzcR_41_6) (g_bipush mzb_10 (g_bipush mzb_16 (g_iconst mzi_1 ?_)))))
  have h2 := hp
  refine g_s4n (Nat.le_of_ble_eq_true rfl) (fun _ hq => cs_45 (Nat.le_trans (Nat.le_of_ble_eq_true rfl) hd) (hS.le (Nat.le_of_ble_eq_true rfl)) (hR.le (Nat.le_of_ble_eq_true rfl)) 53 53 (mz_at hS (Nat.le_of_ble_eq_true rfl) mzcS_53) 10 16 1 (cf_45_0 53 53 0 10 200 N) h2 hq) (g_aload_n rfl (g_getR (mz_at hS (Nat.le_of_ble_eq_true rfl) mzcS_41) mzcf_6_6 (mz_rb hR (Nat.le_of_ble_eq_true rfl) rfl mzcR_41_6) (g_bipush mzb_14 (g_iconst mzi_0 (g_iast (mz_at hS (Nat.le_of_ble_eq_true rfl) mzcS_53) (mz_ibd (by decide)) ?_)))))
  exact g_vret rfl (hr _ hC)
theorem cs_44 (hd : 3 ≤ d) (hS : mz_extR S 232) (hR : mz_rok R 232)  (N : mz_N) (hp : cp_44_0 N) (hq : Q (.inl none) (mz_k S R (cf_44_0 N) b t)) : mz_Ed (mz_X0 L xs) d 44 [.ref 41] (mz_k S R N b t) Q :=
  by
  refine g_in mzq_44 (Nat.le_of_ble_eq_true rfl) (Nat.le_of_ble_eq_true rfl) (Nat.le_trans (Nat.le_of_ble_eq_true rfl) hd) ?_
  refine g_weak ?_ (cg_44_0 (d := d - 1) (by omega) hS hR N (C0 := fun z => Q (.inl none) (mz_k S R z b t)) (fun _ h => h) hp hq)
  exact ⟨rfl, trivial⟩
/-! 22 KeptHouse$Program.setFirst ()V -/
theorem ms_22_0 : mz_sf mk_22 0 = mk_22 := mz_sf_zero _
theorem ms_22_28 : mz_sf mk_22 28 = mt_22_28 := mz_sf_add ms_22_0 (t := 28) rfl rfl
set_option maxRecDepth 100000 in
theorem mzq_22 : mz_PG0 22 = some (6, ⟨"KeptHouse$Program", "setFirst", "()V"⟩, prog_8_method_2_code, 1, none, [], mk_22, []) := rfl
theorem cg_22_28 (hd : 5 ≤ d) (hS : mz_extR S 232) (hR : mz_rok R 232)  (N : mz_N) (b : Bool) {C0 : (mz_N) → Prop} (hr : ∀ (N2 : mz_N), C0 N2 → Q (.inl none) (mz_k S R N2 b t)) (hp : cp_22_28 N b) (hC : C0 (cf_22_28 N b)) : mz_G (d, mz_X0 L xs, none, [], mk_22, 1, Q) 28 mt_22_28 [(0, .ref 41)] [] false (mz_k S R N b t) := by
  unfold cf_22_28 at hC
  unfold cp_22_28 at hp
  refine g_aload_n rfl ?_
  have h1 := hp
  refine g_v1n (Nat.le_of_ble_eq_true rfl) (mz_at hS (Nat.le_of_ble_eq_true rfl) mzcS_41) (fun _ hq => cs_44 (Nat.le_trans (Nat.le_of_ble_eq_true rfl) hd) (hS.le (Nat.le_of_ble_eq_true rfl)) (hR.le (Nat.le_of_ble_eq_true rfl))  N h1 hq) ?_
  exact g_vret rfl (hr _ hC)
theorem cg_22_0 (hd : 5 ≤ d) (hS : mz_extR S 232) (hR : mz_rok R 232)  (N : mz_N) (b : Bool) {C0 : (mz_N) → Prop} (hr : ∀ (N2 : mz_N), C0 N2 → Q (.inl none) (mz_k S R N2 b t)) (hp : cp_22_0 N b) (hC : C0 (cf_22_0 N b)) : mz_G (d, mz_X0 L xs, none, [], mk_22, 1, Q) 0 mk_22 [(0, .ref 41)] [] true (mz_k S R N b t) := by
  unfold cf_22_0 at hC
  unfold cp_22_0 at hp
  refine g_aload_n rfl (g_iconst mzi_0 (g_putI (mz_at hS (Nat.le_of_ble_eq_true rfl) mzcS_41) mzcf_6_1 (g_aload_n rfl (g_iconst mzi_m1 (g_putI (mz_at hS (Nat.le_of_ble_eq_true rfl) mzcS_41) mzcf_6_4 (g_aload_n rfl (g_iconst mzi_m1 ?_)))))))
  refine g_putI (mz_at hS (Nat.le_of_ble_eq_true rfl) mzcS_41) mzcf_6_5 (g_aload_n rfl (g_getR (mz_at hS (Nat.le_of_ble_eq_true rfl) mzcS_41) mzcf_6_2 (mz_rb_lv b hR (Nat.le_of_ble_eq_true rfl)) (g_aload_n rfl (g_getR (mz_at hS (Nat.le_of_ble_eq_true rfl) mzcS_41) mzcf_6_0 (mz_rb hR (Nat.le_of_ble_eq_true rfl) rfl mzcR_41_0) (g_iconst mzi_0 ?_)))))
  obtain ⟨h1, hp⟩ := hp
  refine g_v3v (Nat.le_of_ble_eq_true rfl) (mz_at hS (mz_oL0 (mz_lv_or b) (Nat.le_of_ble_eq_true rfl)) (mz_oA0 (mz_lv_or b))) (fun _ hq => cs_23 (Nat.le_trans (Nat.le_of_ble_eq_true rfl) hd) (hS.le (Nat.le_of_ble_eq_true rfl)) (hR.le (Nat.le_of_ble_eq_true rfl)) (mz_lv b) 42 (mz_lv_or b) (mz_at hS (Nat.le_of_ble_eq_true rfl) mzcS_42) 0 (mz_pI (mz_pI (mz_pI N 41 1 0) 41 4 (-1)) 41 5 (-1)) h1 hq) (g_pop rfl ?_)
  refine g_weak ?_ (g_cl (cg_22_28 hd hS hR ((cf_23_0 (mz_lv b) 42 0 (mz_pI (mz_pI (mz_pI N 41 1 0) 41 4 (-1)) 41 5 (-1))).2) b hr hp hC))
  exact ⟨rfl, trivial⟩
theorem cs_22 (hd : 6 ≤ d) (hS : mz_extR S 232) (hR : mz_rok R 232)  (N : mz_N) (b : Bool) (hp : cp_22_0 N b) (hq : Q (.inl none) (mz_k S R (cf_22_0 N b) b t)) : mz_Ed (mz_X0 L xs) d 22 [.ref 41] (mz_k S R N b t) Q :=
  by
  refine g_in mzq_22 (Nat.le_of_ble_eq_true rfl) (Nat.le_of_ble_eq_true rfl) (Nat.le_trans (Nat.le_of_ble_eq_true rfl) hd) ?_
  refine g_weak ?_ (cg_22_0 (d := d - 1) (by omega) hS hR N b (C0 := fun z => Q (.inl none) (mz_k S R z b t)) (fun _ h => h) hp hq)
  exact ⟨rfl, trivial⟩
/-! 47 KeptHouse$Supply.setFirst ()V -/
theorem ms_47_0 : mz_sf mk_47 0 = mk_47 := mz_sf_zero _
theorem ms_47_2 : mz_sf mk_47 2 = mt_47_2 := mz_sf_add ms_47_0 (t := 2) rfl rfl
theorem ms_47_24 : mz_sf mk_47 24 = mt_47_24 := mz_sf_add ms_47_2 (t := 22) rfl rfl
theorem ms_47_25 : mz_sf mk_47 25 = mt_47_25 := mz_sf_add ms_47_24 (t := 1) rfl rfl
theorem ms_47_34 : mz_sf mk_47 34 = mt_47_34 := mz_sf_add ms_47_25 (t := 9) rfl rfl
theorem ms_47_57 : mz_sf mk_47 57 = mt_47_57 := mz_sf_add ms_47_34 (t := 23) rfl rfl
theorem ms_47_79 : mz_sf mk_47 79 = mt_47_79 := mz_sf_add ms_47_57 (t := 22) rfl rfl
theorem ms_47_101 : mz_sf mk_47 101 = mt_47_101 := mz_sf_add ms_47_79 (t := 22) rfl rfl
set_option maxRecDepth 100000 in
theorem mzq_47 : mz_PG0 47 = some (9, ⟨"KeptHouse$Supply", "setFirst", "()V"⟩, prog_11_method_2_code, 2, none, [], mk_47, []) := rfl
theorem cg_47_25 (hd : 1 ≤ d) (hS : mz_extR S 232) (hR : mz_rok R 232)  (s0 : Nat) (s1 : Int32) (v1 : Int32) (N : mz_N) (hv0 : S[s0]? = some (0, 11, [])) {C0 : (mz_N) → Prop} (hr : ∀ (N2 : mz_N), C0 N2 → Q (.inl none) (mz_k S R N2 b t)) {C1 : ((Int32 × mz_N) ⊕ (mz_N)) → Prop} (hc1 : ∀ s2, C1 (.inl s2) → mz_G (d, mz_X0 L xs, none, [], mk_47, 2, Q) 2 mt_47_2 [(0, .ref 56), (1, .int s2.1)] [] false (mz_k S R s2.2 b t)) (hx1 : ∀ z, C1 (.inr z) → C0 z) (hp : cp_47_25 s0 s1 v1 N) (hC : C1 (cf_47_25 s0 s1 v1 N)) : mz_G (d, mz_X0 L xs, none, [], mk_47, 2, Q) 25 mt_47_25 [(0, .ref 56), (1, .int v1)] [.int s1, .ref s0] false (mz_k S R N b t) := by
  unfold cf_47_25 at hC
  unfold cp_47_25 at hp
  have h1 := hp
  refine g_s2n (Nat.le_of_ble_eq_true rfl) (fun _ hq => cs_13 (Nat.le_trans (Nat.le_of_ble_eq_true rfl) hd) (hS.le (Nat.le_of_ble_eq_true rfl)) (hR.le (Nat.le_of_ble_eq_true rfl)) s0 11 hv0 s1 N h1 hq) (g_iinc rfl mzi_1 (Nat.le_of_ble_eq_true rfl) rfl (g_goto (tg := 2) rfl ms_47_2 ?_))
  refine g_weak ?_ (g_cl (hc1 ((v1 + 1), (cf_13_0 s0 11 s1 N)) hC))
  exact ⟨rfl, rfl, trivial⟩
theorem cg_47_101 (hd : 1 ≤ d) (hS : mz_extR S 232) (hR : mz_rok R 232)  (N : mz_N) {C0 : (mz_N) → Prop} (hr : ∀ (N2 : mz_N), C0 N2 → Q (.inl none) (mz_k S R N2 b t)) (hp : cp_47_101 N) (hC : C0 (cf_47_101 N)) : mz_G (d, mz_X0 L xs, none, [], mk_47, 2, Q) 101 mt_47_101 [(0, .ref 56)] [] false (mz_k S R N b t) := by
  unfold cf_47_101 at hC
  unfold cp_47_101 at hp
  refine g_aload_n rfl (g_iconst mzi_0 (g_putI (mz_at hS (Nat.le_of_ble_eq_true rfl) mzcS_56) mzcf_9_13 (g_aload_n rfl (g_getR (mz_at hS (Nat.le_of_ble_eq_true rfl) mzcS_56) mzcf_9_14 (mz_rb hR (Nat.le_of_ble_eq_true rfl) rfl mzcR_56_14) (g_iconst mzi_0 ?_)))))
  have h1 := hp
  refine g_s2n (Nat.le_of_ble_eq_true rfl) (fun _ hq => cs_13 (Nat.le_trans (Nat.le_of_ble_eq_true rfl) hd) (hS.le (Nat.le_of_ble_eq_true rfl)) (hR.le (Nat.le_of_ble_eq_true rfl)) 64 10 (mz_at hS (Nat.le_of_ble_eq_true rfl) mzcS_64) 0 (mz_pI N 56 13 0) h1 hq) ?_
  exact g_vret rfl (hr _ hC)
theorem cg_47_79 (hd : 1 ≤ d) (hS : mz_extR S 232) (hR : mz_rok R 232)  (N : mz_N) {C0 : (mz_N) → Prop} (hr : ∀ (N2 : mz_N), C0 N2 → Q (.inl none) (mz_k S R N2 b t)) (hp : cp_47_79 N) (hC : C0 (cf_47_79 N)) : mz_G (d, mz_X0 L xs, none, [], mk_47, 2, Q) 79 mt_47_79 [(0, .ref 56)] [] false (mz_k S R N b t) := by
  unfold cf_47_79 at hC
  unfold cp_47_79 at hp
  refine g_aload_n rfl (g_iconst mzi_0 (g_putZ (z := false) (mz_at hS (Nat.le_of_ble_eq_true rfl) mzcS_56) mzcf_9_9 (g_aload_n rfl (g_iconst mzi_0 (g_putZ (z := false) (mz_at hS (Nat.le_of_ble_eq_true rfl) mzcS_56) mzcf_9_10 (g_aload_n rfl (g_sipush mzs_20000 ?_)))))))
  refine g_putI (mz_at hS (Nat.le_of_ble_eq_true rfl) mzcS_56) mzcf_9_11 (g_aload_n rfl (g_iconst mzi_0 (g_putI (mz_at hS (Nat.le_of_ble_eq_true rfl) mzcS_56) mzcf_9_12 ?_)))
  refine g_weak ?_ (g_cl (cg_47_101 hd hS hR (mz_pI (mz_pI (mz_pI (mz_pI N 56 9 (mz_b01 false)) 56 10 (mz_b01 false)) 56 11 20000) 56 12 0) hr hp hC))
  exact ⟨rfl, trivial⟩
theorem cg_47_57 (hd : 1 ≤ d) (hS : mz_extR S 232) (hR : mz_rok R 232)  (N : mz_N) {C0 : (mz_N) → Prop} (hr : ∀ (N2 : mz_N), C0 N2 → Q (.inl none) (mz_k S R N2 b t)) (hp : cp_47_57 N) (hC : C0 (cf_47_57 N)) : mz_G (d, mz_X0 L xs, none, [], mk_47, 2, Q) 57 mt_47_57 [(0, .ref 56)] [] false (mz_k S R N b t) := by
  unfold cf_47_57 at hC
  unfold cp_47_57 at hp
  refine g_aload_n rfl (g_iconst mzi_0 (g_putZ (z := false) (mz_at hS (Nat.le_of_ble_eq_true rfl) mzcS_56) mzcf_9_5 (g_aload_n rfl (g_iconst mzi_1 (g_putZ (z := true) (mz_at hS (Nat.le_of_ble_eq_true rfl) mzcS_56) mzcf_9_6 (g_aload_n rfl (g_sipush mzs_2000 ?_)))))))
  refine g_putI (mz_at hS (Nat.le_of_ble_eq_true rfl) mzcS_56) mzcf_9_7 (g_aload_n rfl (g_iconst mzi_0 (g_putZ (z := false) (mz_at hS (Nat.le_of_ble_eq_true rfl) mzcS_56) mzcf_9_8 ?_)))
  refine g_weak ?_ (g_cl (cg_47_79 hd hS hR (mz_pI (mz_pI (mz_pI (mz_pI N 56 5 (mz_b01 false)) 56 6 (mz_b01 true)) 56 7 2000) 56 8 (mz_b01 false)) hr hp hC))
  exact ⟨rfl, trivial⟩
theorem cb_47_2 (hd : 1 ≤ d) (hS : mz_extR S 232) (hR : mz_rok R 232)   (s : Int32 × mz_N) {C0 : (mz_N) → Prop} (hr : ∀ (N2 : mz_N), C0 N2 → Q (.inl none) (mz_k S R N2 b t)) {C1 : ((Int32 × mz_N) ⊕ (mz_N)) → Prop} (hc1 : ∀ s2, C1 (.inl s2) → mz_G (d, mz_X0 L xs, none, [], mk_47, 2, Q) 2 mt_47_2 [(0, .ref 56), (1, .int s2.1)] [] false (mz_k S R s2.2 b t)) (hx1 : ∀ z, C1 (.inr z) → C0 z) (hp : cd_47_2  s) (hC : C1 (cq_47_2  s)) : mz_G (d, mz_X0 L xs, none, [], mk_47, 2, Q) 2 mt_47_2 [(0, .ref 56), (1, .int s.1)] [] false (mz_k S R s.2 b t) := by
  unfold cq_47_2 at hC
  unfold cd_47_2 at hp
  refine g_iload_n rfl (g_bipush mzb_6 ?_)
  refine g_icge (tg := 34) rfl ms_47_34 hC (fun h1 hC => ?_) (fun h1 hC => ?_)
  · have hp := hp.1 h1
    refine g_aload_n rfl (g_getR (mz_at hS (Nat.le_of_ble_eq_true rfl) mzcS_56) mzcf_9_0 (mz_rb hR (Nat.le_of_ble_eq_true rfl) rfl mzcR_56_0) (g_iload_n rfl ?_))
    obtain ⟨h2, hp⟩ := hp
    refine g_aald4 (mz_at hS (Nat.le_of_ble_eq_true rfl) mzcS_57) h2 (mz_rb hR (Nat.le_of_ble_eq_true rfl) rfl (mzcR2_57 h2)) (g_iload_n rfl (g_iconst mzi_4 ?_))
    refine g_icne (tg := 24) rfl ms_47_24 hC (fun h3 hC => ?_) (fun h3 hC => ?_)
    · have hp := hp.1 h3
      refine g_bipush mzb_100 (g_goto (tg := 25) rfl ms_47_25 ?_)
      refine g_weak ?_ (g_cl (cg_47_25 hd hS hR (58 + s.1.toNatClampNeg) 100 s.1 s.2 (mz_at hS (mzcL2_57 h2 (Nat.le_of_ble_eq_true rfl)) (mzcS2_57 h2)) hr hc1 hx1 hp hC))
      exact ⟨rfl, rfl, trivial⟩
    · have hp := hp.2 h3
      refine g_iconst mzi_0 ?_
      refine g_weak ?_ (g_cl (cg_47_25 hd hS hR (58 + s.1.toNatClampNeg) 0 s.1 s.2 (mz_at hS (mzcL2_57 h2 (Nat.le_of_ble_eq_true rfl)) (mzcS2_57 h2)) hr hc1 hx1 hp hC))
      exact ⟨rfl, rfl, trivial⟩
  · have hp := hp.2 h1
    refine g_aload_n rfl (g_sipush mzs_1500 (g_putI (mz_at hS (Nat.le_of_ble_eq_true rfl) mzcS_56) mzcf_9_1 (g_aload_n rfl (g_bipush mzb_100 (g_putI (mz_at hS (Nat.le_of_ble_eq_true rfl) mzcS_56) mzcf_9_2 (g_aload_n rfl (g_iconst mzi_0 ?_)))))))
    refine g_putI (mz_at hS (Nat.le_of_ble_eq_true rfl) mzcS_56) mzcf_9_3 (g_aload_n rfl (g_iconst mzi_1 (g_putZ (z := true) (mz_at hS (Nat.le_of_ble_eq_true rfl) mzcS_56) mzcf_9_4 ?_)))
    refine g_weak ?_ (g_cl (cg_47_57 hd hS hR (mz_pI (mz_pI (mz_pI (mz_pI s.2 56 1 1500) 56 2 100) 56 3 0) 56 4 (mz_b01 true)) hr hp (hx1 _ hC)))
    exact ⟨rfl, trivial⟩
theorem cg_47_2 (hd : 1 ≤ d) (hS : mz_extR S 232) (hR : mz_rok R 232)  (v1 : Int32) (N : mz_N) {C0 : (mz_N) → Prop} (hr : ∀ (N2 : mz_N), C0 N2 → Q (.inl none) (mz_k S R N2 b t)) (hp : cp_47_2 v1 N) (hC : C0 (cf_47_2 v1 N)) : mz_G (d, mz_X0 L xs, none, [], mk_47, 2, Q) 2 mt_47_2 [(0, .ref 56), (1, .int v1)] [] false (mz_k S R N b t) := by
  obtain ⟨n, hn⟩ := hp
  exact g_loop (G := fun s => mz_G (d, mz_X0 L xs, none, [], mk_47, 2, Q) 2 mt_47_2 [(0, .ref 56), (1, .int s.1)] [] false (mz_k S R s.2 b t)) (C := C0) (fun C2 hc hx s hP hC => cb_47_2 hd hS hR  s hr hc hx hP hC) n (v1, N) hn hC
theorem cg_47_0 (hd : 1 ≤ d) (hS : mz_extR S 232) (hR : mz_rok R 232)  (N : mz_N) {C0 : (mz_N) → Prop} (hr : ∀ (N2 : mz_N), C0 N2 → Q (.inl none) (mz_k S R N2 b t)) (hp : cp_47_0 N) (hC : C0 (cf_47_0 N)) : mz_G (d, mz_X0 L xs, none, [], mk_47, 2, Q) 0 mk_47 [(0, .ref 56)] [] true (mz_k S R N b t) := by
  unfold cf_47_0 at hC
  unfold cp_47_0 at hp
  refine g_iconst mzi_0 (g_istore_n (Nat.le_of_ble_eq_true rfl) rfl ?_)
  refine g_weak ?_ (g_cl (cg_47_2 hd hS hR 0 N hr hp hC))
  exact ⟨rfl, rfl, trivial⟩
theorem cs_47 (hd : 2 ≤ d) (hS : mz_extR S 232) (hR : mz_rok R 232)  (N : mz_N) (hp : cp_47_0 N) (hq : Q (.inl none) (mz_k S R (cf_47_0 N) b t)) : mz_Ed (mz_X0 L xs) d 47 [.ref 56] (mz_k S R N b t) Q :=
  by
  refine g_in mzq_47 (Nat.le_of_ble_eq_true rfl) (Nat.le_of_ble_eq_true rfl) (Nat.le_trans (Nat.le_of_ble_eq_true rfl) hd) ?_
  refine g_weak ?_ (cg_47_0 (d := d - 1) (by omega) hS hR N (C0 := fun z => Q (.inl none) (mz_k S R z b t)) (fun _ h => h) hp hq)
  exact ⟨rfl, trivial⟩
/-! 49 java/util/Arrays.fill ([JJ)V -/
theorem ms_49_0 : mz_sf mk_49 0 = mk_49 := mz_sf_zero _
theorem ms_49_6 : mz_sf mk_49 6 = mt_49_6 := mz_sf_add ms_49_0 (t := 6) rfl rfl
theorem ms_49_22 : mz_sf mk_49 22 = mt_49_22 := mz_sf_add ms_49_6 (t := 16) rfl rfl
set_option maxRecDepth 100000 in
theorem mzq_49 : mz_PG0 49 = some (14, ⟨"java/util/Arrays", "fill", "([JJ)V"⟩, prog_30_method_101_code, 5, none, [], mk_49, []) := rfl
theorem cb_49_6 (hd : 0 ≤ d) (hS : mz_extR S 0) (hR : mz_rok R 0) (a0 : Nat) (n0 : Nat) (hs0 : S[a0]? = some (1, n0, [])) (v1 : Int64) (v4 : Int32) (s : Int32 × mz_N) {C0 : (mz_N) → Prop} (hr : ∀ (N2 : mz_N), C0 N2 → Q (.inl none) (mz_k S R N2 b t)) {C1 : ((Int32 × mz_N) ⊕ (mz_N)) → Prop} (hc1 : ∀ s2, C1 (.inl s2) → mz_G (d, mz_X0 L xs, none, [], mk_49, 5, Q) 6 mt_49_6 [(0, .ref a0), (1, .long v1), (3, .int s2.1), (4, .int v4)] [] false (mz_k S R s2.2 b t)) (hx1 : ∀ z, C1 (.inr z) → C0 z) (hp : cd_49_6 a0 n0 v1 v4 s) (hC : C1 (cq_49_6 a0 n0 v1 v4 s)) : mz_G (d, mz_X0 L xs, none, [], mk_49, 5, Q) 6 mt_49_6 [(0, .ref a0), (1, .long v1), (3, .int s.1), (4, .int v4)] [] false (mz_k S R s.2 b t) := by
  unfold cq_49_6 at hC
  unfold cd_49_6 at hp
  refine g_iload_n rfl (g_iload rfl ?_)
  refine g_icge (tg := 22) rfl ms_49_22 hC (fun h1 hC => ?_) (fun h1 hC => ?_)
  · have hp := hp.1 h1
    refine g_aload_n rfl (g_iload_n rfl (g_lload_n rfl ?_))
    have h2 := hp
    refine g_last hs0 h2 (g_iinc rfl mzi_1 (Nat.le_of_ble_eq_true rfl) rfl (g_goto (tg := 6) rfl ms_49_6 ?_))
    refine g_weak ?_ (g_cl (hc1 ((s.1 + 1), mz_wL s.2 a0 s.1 v1) hC))
    exact ⟨rfl, rfl, rfl, rfl, trivial⟩
  · have hp := hp.2 h1
    exact g_vret rfl (hr _ (hx1 _ hC))
theorem cg_49_6 (hd : 0 ≤ d) (hS : mz_extR S 0) (hR : mz_rok R 0) (a0 : Nat) (n0 : Nat) (hs0 : S[a0]? = some (1, n0, [])) (v1 : Int64) (v3 : Int32) (v4 : Int32) (N : mz_N) {C0 : (mz_N) → Prop} (hr : ∀ (N2 : mz_N), C0 N2 → Q (.inl none) (mz_k S R N2 b t)) (hp : cp_49_6 a0 n0 v1 v3 v4 N) (hC : C0 (cf_49_6 a0 n0 v1 v3 v4 N)) : mz_G (d, mz_X0 L xs, none, [], mk_49, 5, Q) 6 mt_49_6 [(0, .ref a0), (1, .long v1), (3, .int v3), (4, .int v4)] [] false (mz_k S R N b t) := by
  obtain ⟨n, hn⟩ := hp
  exact g_loop (G := fun s => mz_G (d, mz_X0 L xs, none, [], mk_49, 5, Q) 6 mt_49_6 [(0, .ref a0), (1, .long v1), (3, .int s.1), (4, .int v4)] [] false (mz_k S R s.2 b t)) (C := C0) (fun C2 hc hx s hP hC => cb_49_6 hd hS hR a0 n0 hs0 v1 v4 s hr hc hx hP hC) n (v3, N) hn hC
theorem cg_49_0 (hd : 0 ≤ d) (hS : mz_extR S 0) (hR : mz_rok R 0) (a0 : Nat) (n0 : Nat) (hs0 : S[a0]? = some (1, n0, [])) (v1 : Int64) (N : mz_N) {C0 : (mz_N) → Prop} (hr : ∀ (N2 : mz_N), C0 N2 → Q (.inl none) (mz_k S R N2 b t)) (hp : cp_49_0 a0 n0 v1 N) (hC : C0 (cf_49_0 a0 n0 v1 N)) : mz_G (d, mz_X0 L xs, none, [], mk_49, 5, Q) 0 mk_49 [(0, .ref a0), (1, .long v1)] [] true (mz_k S R N b t) := by
  unfold cf_49_0 at hC
  unfold cp_49_0 at hp
  refine g_iconst mzi_0 (g_istore_n (Nat.le_of_ble_eq_true rfl) rfl (g_aload_n rfl (g_len1 hS.1 hs0 rfl (g_istore (Nat.le_of_ble_eq_true rfl) rfl ?_))))
  refine g_weak ?_ (g_cl (cg_49_6 hd hS hR a0 n0 hs0 v1 0 (Int32.ofNat n0) N hr hp hC))
  exact ⟨rfl, rfl, rfl, rfl, trivial⟩
theorem cs_49 (hd : 1 ≤ d) (hS : mz_extR S 0) (hR : mz_rok R 0) (a0 : Nat) (n0 : Nat) (hs0 : S[a0]? = some (1, n0, [])) (v1 : Int64) (N : mz_N) (hp : cp_49_0 a0 n0 v1 N) (hq : Q (.inl none) (mz_k S R (cf_49_0 a0 n0 v1 N) b t)) : mz_Ed (mz_X0 L xs) d 49 [.ref a0, .long v1] (mz_k S R N b t) Q :=
  by
  refine g_in mzq_49 (Nat.le_of_ble_eq_true rfl) (Nat.le_of_ble_eq_true rfl) (Nat.le_trans (Nat.le_of_ble_eq_true rfl) hd) ?_
  refine g_weak ?_ (cg_49_0 (d := d - 1) (by omega) hS hR a0 n0 hs0 v1 N (C0 := fun z => Q (.inl none) (mz_k S R z b t)) (fun _ h => h) hp hq)
  exact ⟨rfl, rfl, trivial⟩
/-! 48 KeptHouse$Climate.setFirst ()V -/
theorem ms_48_0 : mz_sf mk_48 0 = mk_48 := mz_sf_zero _
theorem ms_48_26 : mz_sf mk_48 26 = mt_48_26 := mz_sf_add ms_48_0 (t := 26) rfl rfl
theorem ms_48_50 : mz_sf mk_48 50 = mt_48_50 := mz_sf_add ms_48_26 (t := 24) rfl rfl
set_option maxRecDepth 100000 in
theorem mzq_48 : mz_PG0 48 = some (3, ⟨"KeptHouse$Climate", "setFirst", "()V"⟩, prog_5_method_2_code, 1, none, [], mk_48, []) := rfl
theorem cg_48_50 (hd : 1 ≤ d) (hS : mz_extR S 232) (hR : mz_rok R 232)  (N : mz_N) {C0 : (mz_N) → Prop} (hr : ∀ (N2 : mz_N), C0 N2 → Q (.inl none) (mz_k S R N2 b t)) (hp : cp_48_50 N) (hC : C0 (cf_48_50 N)) : mz_G (d, mz_X0 L xs, none, [], mk_48, 1, Q) 50 mt_48_50 [(0, .ref 65)] [] false (mz_k S R N b t) := by
  unfold cf_48_50 at hC
  unfold cp_48_50 at hp
  refine g_aload_n rfl (g_getR (mz_at hS (Nat.le_of_ble_eq_true rfl) mzcS_65) mzcf_3_6 (mz_rb hR (Nat.le_of_ble_eq_true rfl) rfl mzcR_65_6) (g_iconst mzi_0 ?_))
  obtain ⟨h1, hp⟩ := hp
  refine g_s2n (Nat.le_of_ble_eq_true rfl) (fun _ hq => cs_13 (Nat.le_trans (Nat.le_of_ble_eq_true rfl) hd) (hS.le (Nat.le_of_ble_eq_true rfl)) (hR.le (Nat.le_of_ble_eq_true rfl)) 72 240 (mz_at hS (Nat.le_of_ble_eq_true rfl) mzcS_72) 0 N h1 hq) (g_aload_n rfl (g_getR (mz_at hS (Nat.le_of_ble_eq_true rfl) mzcS_65) mzcf_3_7 (mz_rb hR (Nat.le_of_ble_eq_true rfl) rfl mzcR_65_7) (g_iconst mzi_0 ?_)))
  have h2 := hp
  refine g_s2n (Nat.le_of_ble_eq_true rfl) (fun _ hq => cs_13 (Nat.le_trans (Nat.le_of_ble_eq_true rfl) hd) (hS.le (Nat.le_of_ble_eq_true rfl)) (hR.le (Nat.le_of_ble_eq_true rfl)) 73 240 (mz_at hS (Nat.le_of_ble_eq_true rfl) mzcS_73) 0 (cf_13_0 72 240 0 N) h2 hq) (g_aload_n rfl (g_iconst mzi_0 (g_putZ (z := false) (mz_at hS (Nat.le_of_ble_eq_true rfl) mzcS_65) mzcf_3_8 ?_)))
  exact g_vret rfl (hr _ hC)
theorem cg_48_0 (hd : 1 ≤ d) (hS : mz_extR S 232) (hR : mz_rok R 232)  (N : mz_N) {C0 : (mz_N) → Prop} (hr : ∀ (N2 : mz_N), C0 N2 → Q (.inl none) (mz_k S R N2 b t)) (hp : cp_48_0 N) (hC : C0 (cf_48_0 N)) : mz_G (d, mz_X0 L xs, none, [], mk_48, 1, Q) 0 mk_48 [(0, .ref 65)] [] true (mz_k S R N b t) := by
  unfold cf_48_0 at hC
  unfold cp_48_0 at hp
  refine g_aload_n rfl (g_getR (mz_at hS (Nat.le_of_ble_eq_true rfl) mzcS_65) mzcf_3_0 (mz_rb hR (Nat.le_of_ble_eq_true rfl) rfl mzcR_65_0) (g_iconst mzi_0 ?_))
  obtain ⟨h1, hp⟩ := hp
  refine g_s2n (Nat.le_of_ble_eq_true rfl) (fun _ hq => cs_13 (Nat.le_trans (Nat.le_of_ble_eq_true rfl) hd) (hS.le (Nat.le_of_ble_eq_true rfl)) (hR.le (Nat.le_of_ble_eq_true rfl)) 66 24 (mz_at hS (Nat.le_of_ble_eq_true rfl) mzcS_66) 0 N h1 hq) (g_aload_n rfl (g_getR (mz_at hS (Nat.le_of_ble_eq_true rfl) mzcS_65) mzcf_3_1 (mz_rb hR (Nat.le_of_ble_eq_true rfl) rfl mzcR_65_1) (g_iconst mzi_0 ?_)))
  obtain ⟨h2, hp⟩ := hp
  refine g_s2n (Nat.le_of_ble_eq_true rfl) (fun _ hq => cs_13 (Nat.le_trans (Nat.le_of_ble_eq_true rfl) hd) (hS.le (Nat.le_of_ble_eq_true rfl)) (hR.le (Nat.le_of_ble_eq_true rfl)) 67 96 (mz_at hS (Nat.le_of_ble_eq_true rfl) mzcS_67) 0 (cf_13_0 66 24 0 N) h2 hq) (g_aload_n rfl (g_getR (mz_at hS (Nat.le_of_ble_eq_true rfl) mzcS_65) mzcf_3_2 (mz_rb hR (Nat.le_of_ble_eq_true rfl) rfl mzcR_65_2) (g_con3 ?_)))
  obtain ⟨h3, hp⟩ := hp
  refine g_s2n (Nat.le_of_ble_eq_true rfl) (fun _ hq => cs_49 (Nat.le_trans (Nat.le_of_ble_eq_true rfl) hd) (hS.le (Nat.le_of_ble_eq_true rfl)) (hR.le (Nat.le_of_ble_eq_true rfl)) 68 240 (mz_at hS (Nat.le_of_ble_eq_true rfl) mzcS_68) 18000 (cf_13_0 67 96 0 (cf_13_0 66 24 0 N)) h3 hq) (g_aload_n rfl (g_getR (mz_at hS (Nat.le_of_ble_eq_true rfl) mzcS_65) mzcf_3_3 (mz_rb hR (Nat.le_of_ble_eq_true rfl) rfl mzcR_65_3) (g_lconst mzl_0 ?_)))
  obtain ⟨h4, hp⟩ := hp
  refine g_s2n (Nat.le_of_ble_eq_true rfl) (fun _ hq => cs_49 (Nat.le_trans (Nat.le_of_ble_eq_true rfl) hd) (hS.le (Nat.le_of_ble_eq_true rfl)) (hR.le (Nat.le_of_ble_eq_true rfl)) 69 240 (mz_at hS (Nat.le_of_ble_eq_true rfl) mzcS_69) 0 (cf_49_0 68 240 18000 (cf_13_0 67 96 0 (cf_13_0 66 24 0 N))) h4 hq) (g_aload_n rfl (g_getR (mz_at hS (Nat.le_of_ble_eq_true rfl) mzcS_65) mzcf_3_4 (mz_rb hR (Nat.le_of_ble_eq_true rfl) rfl mzcR_65_4) (g_lconst mzl_0 ?_)))
  obtain ⟨h5, hp⟩ := hp
  refine g_s2n (Nat.le_of_ble_eq_true rfl) (fun _ hq => cs_49 (Nat.le_trans (Nat.le_of_ble_eq_true rfl) hd) (hS.le (Nat.le_of_ble_eq_true rfl)) (hR.le (Nat.le_of_ble_eq_true rfl)) 70 240 (mz_at hS (Nat.le_of_ble_eq_true rfl) mzcS_70) 0 (cf_49_0 69 240 0 (cf_49_0 68 240 18000 (cf_13_0 67 96 0 (cf_13_0 66 24 0 N)))) h5 hq) (g_aload_n rfl (g_getR (mz_at hS (Nat.le_of_ble_eq_true rfl) mzcS_65) mzcf_3_5 (mz_rb hR (Nat.le_of_ble_eq_true rfl) rfl mzcR_65_5) (g_lconst mzl_0 ?_)))
  obtain ⟨h6, hp⟩ := hp
  refine g_s2n (Nat.le_of_ble_eq_true rfl) (fun _ hq => cs_49 (Nat.le_trans (Nat.le_of_ble_eq_true rfl) hd) (hS.le (Nat.le_of_ble_eq_true rfl)) (hR.le (Nat.le_of_ble_eq_true rfl)) 71 240 (mz_at hS (Nat.le_of_ble_eq_true rfl) mzcS_71) 0 (cf_49_0 70 240 0 (cf_49_0 69 240 0 (cf_49_0 68 240 18000 (cf_13_0 67 96 0 (cf_13_0 66 24 0 N))))) h6 hq) ?_
  refine g_weak ?_ (g_cl (cg_48_50 hd hS hR (cf_49_0 71 240 0 (cf_49_0 70 240 0 (cf_49_0 69 240 0 (cf_49_0 68 240 18000 (cf_13_0 67 96 0 (cf_13_0 66 24 0 N)))))) hr hp hC))
  exact ⟨rfl, trivial⟩
theorem cs_48 (hd : 2 ≤ d) (hS : mz_extR S 232) (hR : mz_rok R 232)  (N : mz_N) (hp : cp_48_0 N) (hq : Q (.inl none) (mz_k S R (cf_48_0 N) b t)) : mz_Ed (mz_X0 L xs) d 48 [.ref 65] (mz_k S R N b t) Q :=
  by
  refine g_in mzq_48 (Nat.le_of_ble_eq_true rfl) (Nat.le_of_ble_eq_true rfl) (Nat.le_trans (Nat.le_of_ble_eq_true rfl) hd) ?_
  refine g_weak ?_ (cg_48_0 (d := d - 1) (by omega) hS hR N (C0 := fun z => Q (.inl none) (mz_k S R z b t)) (fun _ h => h) hp hq)
  exact ⟨rfl, trivial⟩
/-! 50 KeptHouse$Watch.setFirst ()V -/
theorem ms_50_0 : mz_sf mk_50 0 = mk_50 := mz_sf_zero _
theorem ms_50_10 : mz_sf mk_50 10 = mt_50_10 := mz_sf_add ms_50_0 (t := 10) rfl rfl
theorem ms_50_29 : mz_sf mk_50 29 = mt_50_29 := mz_sf_add ms_50_10 (t := 19) rfl rfl
set_option maxRecDepth 100000 in
theorem mzq_50 : mz_PG0 50 = some (10, ⟨"KeptHouse$Watch", "setFirst", "()V"⟩, prog_12_method_2_code, 2, none, [], mk_50, []) := rfl
theorem cb_50_10 (hd : 1 ≤ d) (hS : mz_extR S 232) (hR : mz_rok R 232)   (s : Int32 × mz_N) {C0 : (mz_N) → Prop} (hr : ∀ (N2 : mz_N), C0 N2 → Q (.inl none) (mz_k S R N2 b t)) {C1 : ((Int32 × mz_N) ⊕ (mz_N)) → Prop} (hc1 : ∀ s2, C1 (.inl s2) → mz_G (d, mz_X0 L xs, none, [], mk_50, 2, Q) 10 mt_50_10 [(0, .ref 81), (1, .int s2.1)] [] false (mz_k S R s2.2 b t)) (hx1 : ∀ z, C1 (.inr z) → C0 z) (hp : cd_50_10  s) (hC : C1 (cq_50_10  s)) : mz_G (d, mz_X0 L xs, none, [], mk_50, 2, Q) 10 mt_50_10 [(0, .ref 81), (1, .int s.1)] [] false (mz_k S R s.2 b t) := by
  unfold cq_50_10 at hC
  unfold cd_50_10 at hp
  refine g_iload_n rfl (g_bipush mzb_18 ?_)
  refine g_icge (tg := 29) rfl ms_50_29 hC (fun h1 hC => ?_) (fun h1 hC => ?_)
  · have hp := hp.1 h1
    refine g_aload_n rfl (g_getR (mz_at hS (Nat.le_of_ble_eq_true rfl) mzcS_81) mzcf_10_1 (mz_rb hR (Nat.le_of_ble_eq_true rfl) rfl mzcR_81_1) (g_iload_n rfl (g_iconst mzi_0 ?_)))
    have h2 := hp
    refine g_zast (z := false) (mz_at hS (Nat.le_of_ble_eq_true rfl) mzcS_83) h2 (g_iinc rfl mzi_1 (Nat.le_of_ble_eq_true rfl) rfl (g_goto (tg := 10) rfl ms_50_10 ?_))
    refine g_weak ?_ (g_cl (hc1 ((s.1 + 1), mz_wI s.2 83 s.1 (mz_b01 false)) hC))
    exact ⟨rfl, rfl, trivial⟩
  · have hp := hp.2 h1
    refine g_aload_n rfl (g_iconst mzi_0 (g_putI (mz_at hS (Nat.le_of_ble_eq_true rfl) mzcS_81) mzcf_10_3 (g_aload_n rfl (g_getR (mz_at hS (Nat.le_of_ble_eq_true rfl) mzcS_81) mzcf_10_4 (mz_rb hR (Nat.le_of_ble_eq_true rfl) rfl mzcR_81_4) (g_iconst mzi_0 ?_)))))
    obtain ⟨h3, hp⟩ := hp
    refine g_s2n (Nat.le_of_ble_eq_true rfl) (fun _ hq => cs_13 (Nat.le_trans (Nat.le_of_ble_eq_true rfl) hd) (hS.le (Nat.le_of_ble_eq_true rfl)) (hR.le (Nat.le_of_ble_eq_true rfl)) 87 8 (mz_at hS (Nat.le_of_ble_eq_true rfl) mzcS_87) 0 (mz_pI s.2 81 3 0) h3 hq) (g_aload_n rfl (g_getR (mz_at hS (Nat.le_of_ble_eq_true rfl) mzcS_81) mzcf_10_8 (mz_rb hR (Nat.le_of_ble_eq_true rfl) rfl mzcR_81_8) (g_iconst mzi_0 ?_)))
    have h4 := hp
    refine g_s2n (Nat.le_of_ble_eq_true rfl) (fun _ hq => cs_13 (Nat.le_trans (Nat.le_of_ble_eq_true rfl) hd) (hS.le (Nat.le_of_ble_eq_true rfl)) (hR.le (Nat.le_of_ble_eq_true rfl)) 99 8 (mz_at hS (Nat.le_of_ble_eq_true rfl) mzcS_99) 0 (cf_13_0 87 8 0 (mz_pI s.2 81 3 0)) h4 hq) ?_
    exact g_vret rfl (hr _ (hx1 _ hC))
theorem cg_50_10 (hd : 1 ≤ d) (hS : mz_extR S 232) (hR : mz_rok R 232)  (v1 : Int32) (N : mz_N) {C0 : (mz_N) → Prop} (hr : ∀ (N2 : mz_N), C0 N2 → Q (.inl none) (mz_k S R N2 b t)) (hp : cp_50_10 v1 N) (hC : C0 (cf_50_10 v1 N)) : mz_G (d, mz_X0 L xs, none, [], mk_50, 2, Q) 10 mt_50_10 [(0, .ref 81), (1, .int v1)] [] false (mz_k S R N b t) := by
  obtain ⟨n, hn⟩ := hp
  exact g_loop (G := fun s => mz_G (d, mz_X0 L xs, none, [], mk_50, 2, Q) 10 mt_50_10 [(0, .ref 81), (1, .int s.1)] [] false (mz_k S R s.2 b t)) (C := C0) (fun C2 hc hx s hP hC => cb_50_10 hd hS hR  s hr hc hx hP hC) n (v1, N) hn hC
theorem cg_50_0 (hd : 1 ≤ d) (hS : mz_extR S 232) (hR : mz_rok R 232)  (N : mz_N) {C0 : (mz_N) → Prop} (hr : ∀ (N2 : mz_N), C0 N2 → Q (.inl none) (mz_k S R N2 b t)) (hp : cp_50_0 N) (hC : C0 (cf_50_0 N)) : mz_G (d, mz_X0 L xs, none, [], mk_50, 2, Q) 0 mk_50 [(0, .ref 81)] [] true (mz_k S R N b t) := by
  unfold cf_50_0 at hC
  unfold cp_50_0 at hp
  refine g_aload_n rfl (g_getR (mz_at hS (Nat.le_of_ble_eq_true rfl) mzcS_81) mzcf_10_0 (mz_rb hR (Nat.le_of_ble_eq_true rfl) rfl mzcR_81_0) (g_iconst mzi_0 ?_))
  obtain ⟨h1, hp⟩ := hp
  refine g_s2n (Nat.le_of_ble_eq_true rfl) (fun _ hq => cs_13 (Nat.le_trans (Nat.le_of_ble_eq_true rfl) hd) (hS.le (Nat.le_of_ble_eq_true rfl)) (hR.le (Nat.le_of_ble_eq_true rfl)) 82 10 (mz_at hS (Nat.le_of_ble_eq_true rfl) mzcS_82) 0 N h1 hq) (g_iconst mzi_0 (g_istore_n (Nat.le_of_ble_eq_true rfl) rfl ?_))
  refine g_weak ?_ (g_cl (cg_50_10 hd hS hR 0 (cf_13_0 82 10 0 N) hr hp hC))
  exact ⟨rfl, rfl, trivial⟩
theorem cs_50 (hd : 2 ≤ d) (hS : mz_extR S 232) (hR : mz_rok R 232)  (N : mz_N) (hp : cp_50_0 N) (hq : Q (.inl none) (mz_k S R (cf_50_0 N) b t)) : mz_Ed (mz_X0 L xs) d 50 [.ref 81] (mz_k S R N b t) Q :=
  by
  refine g_in mzq_50 (Nat.le_of_ble_eq_true rfl) (Nat.le_of_ble_eq_true rfl) (Nat.le_trans (Nat.le_of_ble_eq_true rfl) hd) ?_
  refine g_weak ?_ (cg_50_0 (d := d - 1) (by omega) hS hR N (C0 := fun z => Q (.inl none) (mz_k S R z b t)) (fun _ h => h) hp hq)
  exact ⟨rfl, trivial⟩
/-! 51 KeptHouse$Access.setFirst ()V -/
theorem ms_51_0 : mz_sf mk_51 0 = mk_51 := mz_sf_zero _
theorem ms_51_24 : mz_sf mk_51 24 = mt_51_24 := mz_sf_add ms_51_0 (t := 24) rfl rfl
set_option maxRecDepth 100000 in
theorem mzq_51 : mz_PG0 51 = some (0, ⟨"KeptHouse$Access", "setFirst", "()V"⟩, prog_2_method_2_code, 1, none, [], mk_51, []) := rfl
theorem cg_51_0 (hd : 1 ≤ d) (hS : mz_extR S 232) (hR : mz_rok R 232)  (N : mz_N) {C0 : (mz_N) → Prop} (hr : ∀ (N2 : mz_N), C0 N2 → Q (.inl none) (mz_k S R N2 b t)) (hp : cp_51_0 N) (hC : C0 (cf_51_0 N)) : mz_G (d, mz_X0 L xs, none, [], mk_51, 1, Q) 0 mk_51 [(0, .ref 100)] [] true (mz_k S R N b t) := by
  unfold cf_51_0 at hC
  unfold cp_51_0 at hp
  refine g_aload_n rfl (g_getR (mz_at hS (Nat.le_of_ble_eq_true rfl) mzcS_100) mzcf_0_0 (mz_rb hR (Nat.le_of_ble_eq_true rfl) rfl mzcR_100_0) (g_iconst mzi_0 ?_))
  obtain ⟨h1, hp⟩ := hp
  refine g_s2n (Nat.le_of_ble_eq_true rfl) (fun _ hq => cs_13 (Nat.le_trans (Nat.le_of_ble_eq_true rfl) hd) (hS.le (Nat.le_of_ble_eq_true rfl)) (hR.le (Nat.le_of_ble_eq_true rfl)) 101 20 (mz_at hS (Nat.le_of_ble_eq_true rfl) mzcS_101) 0 N h1 hq) (g_aload_n rfl (g_getR (mz_at hS (Nat.le_of_ble_eq_true rfl) mzcS_100) mzcf_0_3 (mz_rb hR (Nat.le_of_ble_eq_true rfl) rfl mzcR_100_3) (g_iconst mzi_0 ?_)))
  obtain ⟨h2, hp⟩ := hp
  refine g_s2n (Nat.le_of_ble_eq_true rfl) (fun _ hq => cs_13 (Nat.le_trans (Nat.le_of_ble_eq_true rfl) hd) (hS.le (Nat.le_of_ble_eq_true rfl)) (hR.le (Nat.le_of_ble_eq_true rfl)) 104 40 (mz_at hS (Nat.le_of_ble_eq_true rfl) mzcS_104) 0 (cf_13_0 101 20 0 N) h2 hq) (g_aload_n rfl (g_getR (mz_at hS (Nat.le_of_ble_eq_true rfl) mzcS_100) mzcf_0_8 (mz_rb hR (Nat.le_of_ble_eq_true rfl) rfl mzcR_100_8) (g_iconst mzi_m1 ?_)))
  have h3 := hp
  refine g_s2n (Nat.le_of_ble_eq_true rfl) (fun _ hq => cs_13 (Nat.le_trans (Nat.le_of_ble_eq_true rfl) hd) (hS.le (Nat.le_of_ble_eq_true rfl)) (hR.le (Nat.le_of_ble_eq_true rfl)) 109 40 (mz_at hS (Nat.le_of_ble_eq_true rfl) mzcS_109) (-1) (cf_13_0 104 40 0 (cf_13_0 101 20 0 N)) h3 hq) (g_aload_n rfl (g_iconst mzi_0 (g_putI (mz_at hS (Nat.le_of_ble_eq_true rfl) mzcS_100) mzcf_0_10 ?_)))
  exact g_vret rfl (hr _ hC)
theorem cs_51 (hd : 2 ≤ d) (hS : mz_extR S 232) (hR : mz_rok R 232)  (N : mz_N) (hp : cp_51_0 N) (hq : Q (.inl none) (mz_k S R (cf_51_0 N) b t)) : mz_Ed (mz_X0 L xs) d 51 [.ref 100] (mz_k S R N b t) Q :=
  by
  refine g_in mzq_51 (Nat.le_of_ble_eq_true rfl) (Nat.le_of_ble_eq_true rfl) (Nat.le_trans (Nat.le_of_ble_eq_true rfl) hd) ?_
  refine g_weak ?_ (cg_51_0 (d := d - 1) (by omega) hS hR N (C0 := fun z => Q (.inl none) (mz_k S R z b t)) (fun _ h => h) hp hq)
  exact ⟨rfl, trivial⟩
/-! 52 KeptHouse$Care.setFirst ()V -/
theorem ms_52_0 : mz_sf mk_52 0 = mk_52 := mz_sf_zero _
theorem ms_52_25 : mz_sf mk_52 25 = mt_52_25 := mz_sf_add ms_52_0 (t := 25) rfl rfl
theorem ms_52_45 : mz_sf mk_52 45 = mt_52_45 := mz_sf_add ms_52_25 (t := 20) rfl rfl
theorem ms_52_68 : mz_sf mk_52 68 = mt_52_68 := mz_sf_add ms_52_45 (t := 23) rfl rfl
set_option maxRecDepth 100000 in
theorem mzq_52 : mz_PG0 52 = some (2, ⟨"KeptHouse$Care", "setFirst", "()V"⟩, prog_4_method_2_code, 1, none, [], mk_52, []) := rfl
theorem cg_52_45 (hd : 1 ≤ d) (hS : mz_extR S 232) (hR : mz_rok R 232)  (N : mz_N) {C0 : (mz_N) → Prop} (hr : ∀ (N2 : mz_N), C0 N2 → Q (.inl none) (mz_k S R N2 b t)) (hp : cp_52_45 N) (hC : C0 (cf_52_45 N)) : mz_G (d, mz_X0 L xs, none, [], mk_52, 1, Q) 45 mt_52_45 [(0, .ref 115)] [] false (mz_k S R N b t) := by
  unfold cf_52_45 at hC
  unfold cp_52_45 at hp
  refine g_aload_n rfl (g_getR (mz_at hS (Nat.le_of_ble_eq_true rfl) mzcS_115) mzcf_2_3 (mz_rb hR (Nat.le_of_ble_eq_true rfl) rfl mzcR_115_3) (g_iconst mzi_3 (g_aald4 (m := 128) (mz_at hS (Nat.le_of_ble_eq_true rfl) mzcS_124) (mz_ibd (by decide)) (mz_rb hR (Nat.le_of_ble_eq_true rfl) rfl mzcRr_124_3) (g_iconst mzi_0 ?_))))
  obtain ⟨h1, hp⟩ := hp
  refine g_s2n (Nat.le_of_ble_eq_true rfl) (fun _ hq => cs_13 (Nat.le_trans (Nat.le_of_ble_eq_true rfl) hd) (hS.le (Nat.le_of_ble_eq_true rfl)) (hR.le (Nat.le_of_ble_eq_true rfl)) 128 3 (mz_at hS (Nat.le_of_ble_eq_true rfl) mzcS_128) 0 N h1 hq) (g_aload_n rfl (g_iconst mzi_0 (g_putI (mz_at hS (Nat.le_of_ble_eq_true rfl) mzcS_115) mzcf_2_5 (g_aload_n rfl (g_getR (mz_at hS (Nat.le_of_ble_eq_true rfl) mzcS_115) mzcf_2_6 (mz_rb hR (Nat.le_of_ble_eq_true rfl) rfl mzcR_115_6) (g_iconst mzi_0 ?_))))))
  have h2 := hp
  refine g_s2n (Nat.le_of_ble_eq_true rfl) (fun _ hq => cs_13 (Nat.le_trans (Nat.le_of_ble_eq_true rfl) hd) (hS.le (Nat.le_of_ble_eq_true rfl)) (hR.le (Nat.le_of_ble_eq_true rfl)) 133 2 (mz_at hS (Nat.le_of_ble_eq_true rfl) mzcS_133) 0 (mz_pI (cf_13_0 128 3 0 N) 115 5 0) h2 hq) ?_
  exact g_vret rfl (hr _ hC)
theorem cg_52_0 (hd : 1 ≤ d) (hS : mz_extR S 232) (hR : mz_rok R 232)  (N : mz_N) {C0 : (mz_N) → Prop} (hr : ∀ (N2 : mz_N), C0 N2 → Q (.inl none) (mz_k S R N2 b t)) (hp : cp_52_0 N) (hC : C0 (cf_52_0 N)) : mz_G (d, mz_X0 L xs, none, [], mk_52, 1, Q) 0 mk_52 [(0, .ref 115)] [] true (mz_k S R N b t) := by
  unfold cf_52_0 at hC
  unfold cp_52_0 at hp
  refine g_aload_n rfl (g_getR (mz_at hS (Nat.le_of_ble_eq_true rfl) mzcS_115) mzcf_2_1 (mz_rb hR (Nat.le_of_ble_eq_true rfl) rfl mzcR_115_1) (g_iconst mzi_0 ?_))
  obtain ⟨h1, hp⟩ := hp
  refine g_s2n (Nat.le_of_ble_eq_true rfl) (fun _ hq => cs_13 (Nat.le_trans (Nat.le_of_ble_eq_true rfl) hd) (hS.le (Nat.le_of_ble_eq_true rfl)) (hR.le (Nat.le_of_ble_eq_true rfl)) 123 16 (mz_at hS (Nat.le_of_ble_eq_true rfl) mzcS_123) 0 N h1 hq) (g_aload_n rfl (g_iconst mzi_0 (g_putI (mz_at hS (Nat.le_of_ble_eq_true rfl) mzcS_115) mzcf_2_2 (g_aload_n rfl (g_getR (mz_at hS (Nat.le_of_ble_eq_true rfl) mzcS_115) mzcf_2_3 (mz_rb hR (Nat.le_of_ble_eq_true rfl) rfl mzcR_115_3) (g_iconst mzi_0 (g_aald4 (m := 125) (mz_at hS (Nat.le_of_ble_eq_true rfl) mzcS_124) (mz_ibd (by decide)) (mz_rb hR (Nat.le_of_ble_eq_true rfl) rfl mzcRr_124_0) ?_)))))))
  refine g_sipush mzs_5000 ?_
  obtain ⟨h2, hp⟩ := hp
  refine g_s2n (Nat.le_of_ble_eq_true rfl) (fun _ hq => cs_13 (Nat.le_trans (Nat.le_of_ble_eq_true rfl) hd) (hS.le (Nat.le_of_ble_eq_true rfl)) (hR.le (Nat.le_of_ble_eq_true rfl)) 125 3 (mz_at hS (Nat.le_of_ble_eq_true rfl) mzcS_125) 5000 (mz_pI (cf_13_0 123 16 0 N) 115 2 0) h2 hq) (g_aload_n rfl (g_getR (mz_at hS (Nat.le_of_ble_eq_true rfl) mzcS_115) mzcf_2_3 (mz_rb hR (Nat.le_of_ble_eq_true rfl) rfl mzcR_115_3) (g_iconst mzi_1 (g_aald4 (m := 126) (mz_at hS (Nat.le_of_ble_eq_true rfl) mzcS_124) (mz_ibd (by decide)) (mz_rb hR (Nat.le_of_ble_eq_true rfl) rfl mzcRr_124_1) (g_iconst mzi_0 ?_)))))
  obtain ⟨h3, hp⟩ := hp
  refine g_s2n (Nat.le_of_ble_eq_true rfl) (fun _ hq => cs_13 (Nat.le_trans (Nat.le_of_ble_eq_true rfl) hd) (hS.le (Nat.le_of_ble_eq_true rfl)) (hR.le (Nat.le_of_ble_eq_true rfl)) 126 3 (mz_at hS (Nat.le_of_ble_eq_true rfl) mzcS_126) 0 (cf_13_0 125 3 5000 (mz_pI (cf_13_0 123 16 0 N) 115 2 0)) h3 hq) (g_aload_n rfl (g_getR (mz_at hS (Nat.le_of_ble_eq_true rfl) mzcS_115) mzcf_2_3 (mz_rb hR (Nat.le_of_ble_eq_true rfl) rfl mzcR_115_3) (g_iconst mzi_2 (g_aald4 (m := 127) (mz_at hS (Nat.le_of_ble_eq_true rfl) mzcS_124) (mz_ibd (by decide)) (mz_rb hR (Nat.le_of_ble_eq_true rfl) rfl mzcRr_124_2) (g_iconst mzi_0 ?_)))))
  obtain ⟨h4, hp⟩ := hp
  refine g_s2n (Nat.le_of_ble_eq_true rfl) (fun _ hq => cs_13 (Nat.le_trans (Nat.le_of_ble_eq_true rfl) hd) (hS.le (Nat.le_of_ble_eq_true rfl)) (hR.le (Nat.le_of_ble_eq_true rfl)) 127 3 (mz_at hS (Nat.le_of_ble_eq_true rfl) mzcS_127) 0 (cf_13_0 126 3 0 (cf_13_0 125 3 5000 (mz_pI (cf_13_0 123 16 0 N) 115 2 0))) h4 hq) ?_
  refine g_weak ?_ (g_cl (cg_52_45 hd hS hR (cf_13_0 127 3 0 (cf_13_0 126 3 0 (cf_13_0 125 3 5000 (mz_pI (cf_13_0 123 16 0 N) 115 2 0)))) hr hp hC))
  exact ⟨rfl, trivial⟩
theorem cs_52 (hd : 2 ≤ d) (hS : mz_extR S 232) (hR : mz_rok R 232)  (N : mz_N) (hp : cp_52_0 N) (hq : Q (.inl none) (mz_k S R (cf_52_0 N) b t)) : mz_Ed (mz_X0 L xs) d 52 [.ref 115] (mz_k S R N b t) Q :=
  by
  refine g_in mzq_52 (Nat.le_of_ble_eq_true rfl) (Nat.le_of_ble_eq_true rfl) (Nat.le_trans (Nat.le_of_ble_eq_true rfl) hd) ?_
  refine g_weak ?_ (cg_52_0 (d := d - 1) (by omega) hS hR N (C0 := fun z => Q (.inl none) (mz_k S R z b t)) (fun _ h => h) hp hq)
  exact ⟨rfl, trivial⟩
/-! 54 KeptHouse$Books.clearMonth ()V -/
theorem ms_54_0 : mz_sf mk_54 0 = mk_54 := mz_sf_zero _
theorem ms_54_2 : mz_sf mk_54 2 = mt_54_2 := mz_sf_add ms_54_0 (t := 2) rfl rfl
theorem ms_54_23 : mz_sf mk_54 23 = mt_54_23 := mz_sf_add ms_54_2 (t := 21) rfl rfl
set_option maxRecDepth 100000 in
theorem mzq_54 : mz_PG0 54 = some (1, ⟨"KeptHouse$Books", "clearMonth", "()V"⟩, prog_3_method_4_code, 2, none, [], mk_54, []) := rfl
theorem cb_54_2 (hd : 1 ≤ d) (hS : mz_extR S 232) (hR : mz_rok R 232)   (s : Int32 × mz_N) {C0 : (mz_N) → Prop} (hr : ∀ (N2 : mz_N), C0 N2 → Q (.inl none) (mz_k S R N2 b t)) {C1 : ((Int32 × mz_N) ⊕ (mz_N)) → Prop} (hc1 : ∀ s2, C1 (.inl s2) → mz_G (d, mz_X0 L xs, none, [], mk_54, 2, Q) 2 mt_54_2 [(0, .ref 208), (1, .int s2.1)] [] false (mz_k S R s2.2 b t)) (hx1 : ∀ z, C1 (.inr z) → C0 z) (hp : cd_54_2  s) (hC : C1 (cq_54_2  s)) : mz_G (d, mz_X0 L xs, none, [], mk_54, 2, Q) 2 mt_54_2 [(0, .ref 208), (1, .int s.1)] [] false (mz_k S R s.2 b t) := by
  unfold cq_54_2 at hC
  unfold cd_54_2 at hp
  refine g_iload_n rfl (g_iconst mzi_3 ?_)
  refine g_icge (tg := 23) rfl ms_54_23 hC (fun h1 hC => ?_) (fun h1 hC => ?_)
  · have hp := hp.1 h1
    refine g_aload_n rfl (g_getR (mz_at hS (Nat.le_of_ble_eq_true rfl) mzcS_208) mzcf_1_5 (mz_rb hR (Nat.le_of_ble_eq_true rfl) rfl mzcR_208_5) (g_iload_n rfl ?_))
    obtain ⟨h2, hp⟩ := hp
    refine g_aald4 (mz_at hS (Nat.le_of_ble_eq_true rfl) mzcS_209) h2 (mz_rb hR (Nat.le_of_ble_eq_true rfl) rfl (mzcR2_209 h2)) (g_iconst mzi_0 ?_)
    have h3 := hp
    refine g_s2n (Nat.le_of_ble_eq_true rfl) (fun _ hq => cs_13 (Nat.le_trans (Nat.le_of_ble_eq_true rfl) hd) (hS.le (Nat.le_of_ble_eq_true rfl)) (hR.le (Nat.le_of_ble_eq_true rfl)) (210 + s.1.toNatClampNeg) 11 (mz_at hS (mzcL2_209 h2 (Nat.le_of_ble_eq_true rfl)) (mzcS2_209 h2)) 0 s.2 h3 hq) (g_iinc rfl mzi_1 (Nat.le_of_ble_eq_true rfl) rfl (g_goto (tg := 2) rfl ms_54_2 ?_))
    refine g_weak ?_ (g_cl (hc1 ((s.1 + 1), (cf_13_0 (210 + s.1.toNatClampNeg) 11 0 s.2)) hC))
    exact ⟨rfl, rfl, trivial⟩
  · have hp := hp.2 h1
    refine g_aload_n rfl (g_iconst mzi_0 (g_putI (mz_at hS (Nat.le_of_ble_eq_true rfl) mzcS_208) mzcf_1_3 (g_aload_n rfl (g_iconst mzi_0 (g_putI (mz_at hS (Nat.le_of_ble_eq_true rfl) mzcS_208) mzcf_1_4 ?_)))))
    exact g_vret rfl (hr _ (hx1 _ hC))
theorem cg_54_2 (hd : 1 ≤ d) (hS : mz_extR S 232) (hR : mz_rok R 232)  (v1 : Int32) (N : mz_N) {C0 : (mz_N) → Prop} (hr : ∀ (N2 : mz_N), C0 N2 → Q (.inl none) (mz_k S R N2 b t)) (hp : cp_54_2 v1 N) (hC : C0 (cf_54_2 v1 N)) : mz_G (d, mz_X0 L xs, none, [], mk_54, 2, Q) 2 mt_54_2 [(0, .ref 208), (1, .int v1)] [] false (mz_k S R N b t) := by
  obtain ⟨n, hn⟩ := hp
  exact g_loop (G := fun s => mz_G (d, mz_X0 L xs, none, [], mk_54, 2, Q) 2 mt_54_2 [(0, .ref 208), (1, .int s.1)] [] false (mz_k S R s.2 b t)) (C := C0) (fun C2 hc hx s hP hC => cb_54_2 hd hS hR  s hr hc hx hP hC) n (v1, N) hn hC
theorem cg_54_0 (hd : 1 ≤ d) (hS : mz_extR S 232) (hR : mz_rok R 232)  (N : mz_N) {C0 : (mz_N) → Prop} (hr : ∀ (N2 : mz_N), C0 N2 → Q (.inl none) (mz_k S R N2 b t)) (hp : cp_54_0 N) (hC : C0 (cf_54_0 N)) : mz_G (d, mz_X0 L xs, none, [], mk_54, 2, Q) 0 mk_54 [(0, .ref 208)] [] true (mz_k S R N b t) := by
  unfold cf_54_0 at hC
  unfold cp_54_0 at hp
  refine g_iconst mzi_0 (g_istore_n (Nat.le_of_ble_eq_true rfl) rfl ?_)
  refine g_weak ?_ (g_cl (cg_54_2 hd hS hR 0 N hr hp hC))
  exact ⟨rfl, rfl, trivial⟩
theorem cs_54 (hd : 2 ≤ d) (hS : mz_extR S 232) (hR : mz_rok R 232)  (N : mz_N) (hp : cp_54_0 N) (hq : Q (.inl none) (mz_k S R (cf_54_0 N) b t)) : mz_Ed (mz_X0 L xs) d 54 [.ref 208] (mz_k S R N b t) Q :=
  by
  refine g_in mzq_54 (Nat.le_of_ble_eq_true rfl) (Nat.le_of_ble_eq_true rfl) (Nat.le_trans (Nat.le_of_ble_eq_true rfl) hd) ?_
  refine g_weak ?_ (cg_54_0 (d := d - 1) (by omega) hS hR N (C0 := fun z => Q (.inl none) (mz_k S R z b t)) (fun _ h => h) hp hq)
  exact ⟨rfl, trivial⟩
/-! 53 KeptHouse$Books.setFirst ()V -/
theorem ms_53_0 : mz_sf mk_53 0 = mk_53 := mz_sf_zero _
theorem ms_53_23 : mz_sf mk_53 23 = mt_53_23 := mz_sf_add ms_53_0 (t := 23) rfl rfl
theorem ms_53_48 : mz_sf mk_53 48 = mt_53_48 := mz_sf_add ms_53_23 (t := 25) rfl rfl
set_option maxRecDepth 100000 in
theorem mzq_53 : mz_PG0 53 = some (1, ⟨"KeptHouse$Books", "setFirst", "()V"⟩, prog_3_method_3_code, 1, none, [], mk_53, []) := rfl
theorem cg_53_48 (hd : 2 ≤ d) (hS : mz_extR S 232) (hR : mz_rok R 232)  (N : mz_N) {C0 : (mz_N) → Prop} (hr : ∀ (N2 : mz_N), C0 N2 → Q (.inl none) (mz_k S R N2 b t)) (hp : cp_53_48 N) (hC : C0 (cf_53_48 N)) : mz_G (d, mz_X0 L xs, none, [], mk_53, 1, Q) 48 mt_53_48 [(0, .ref 208)] [] false (mz_k S R N b t) := by
  unfold cf_53_48 at hC
  unfold cp_53_48 at hp
  refine g_aload_n rfl ?_
  have h1 := hp
  refine g_v1n (Nat.le_of_ble_eq_true rfl) (mz_at hS (Nat.le_of_ble_eq_true rfl) mzcS_208) (fun _ hq => cs_54 (Nat.le_trans (Nat.le_of_ble_eq_true rfl) hd) (hS.le (Nat.le_of_ble_eq_true rfl)) (hR.le (Nat.le_of_ble_eq_true rfl))  N h1 hq) ?_
  exact g_vret rfl (hr _ hC)
theorem cg_53_0 (hd : 2 ≤ d) (hS : mz_extR S 232) (hR : mz_rok R 232)  (N : mz_N) {C0 : (mz_N) → Prop} (hr : ∀ (N2 : mz_N), C0 N2 → Q (.inl none) (mz_k S R N2 b t)) (hp : cp_53_0 N) (hC : C0 (cf_53_0 N)) : mz_G (d, mz_X0 L xs, none, [], mk_53, 1, Q) 0 mk_53 [(0, .ref 208)] [] true (mz_k S R N b t) := by
  unfold cf_53_0 at hC
  unfold cp_53_0 at hp
  refine g_aload_n rfl (g_iconst mzi_0 (g_putI (mz_at hS (Nat.le_of_ble_eq_true rfl) mzcS_208) mzcf_1_0 (g_aload_n rfl (g_lconst mzl_0 (g_putL (mz_at hS (Nat.le_of_ble_eq_true rfl) mzcS_208) mzcf_1_1 (g_aload_n rfl (g_lconst mzl_0 ?_)))))))
  refine g_putL (mz_at hS (Nat.le_of_ble_eq_true rfl) mzcS_208) mzcf_1_2 (g_aload_n rfl (g_getR (mz_at hS (Nat.le_of_ble_eq_true rfl) mzcS_208) mzcf_1_6 (mz_rb hR (Nat.le_of_ble_eq_true rfl) rfl mzcR_208_6) (g_lconst mzl_0 ?_)))
  obtain ⟨h1, hp⟩ := hp
  refine g_s2n (Nat.le_of_ble_eq_true rfl) (fun _ hq => cs_49 (Nat.le_trans (Nat.le_of_ble_eq_true rfl) hd) (hS.le (Nat.le_of_ble_eq_true rfl)) (hR.le (Nat.le_of_ble_eq_true rfl)) 213 10 (mz_at hS (Nat.le_of_ble_eq_true rfl) mzcS_213) 0 (mz_pL (mz_pL (mz_pI N 208 0 0) 208 1 0) 208 2 0) h1 hq) (g_aload_n rfl (g_getR (mz_at hS (Nat.le_of_ble_eq_true rfl) mzcS_208) mzcf_1_7 (mz_rb hR (Nat.le_of_ble_eq_true rfl) rfl mzcR_208_7) (g_lconst mzl_0 ?_)))
  obtain ⟨h2, hp⟩ := hp
  refine g_s2n (Nat.le_of_ble_eq_true rfl) (fun _ hq => cs_49 (Nat.le_trans (Nat.le_of_ble_eq_true rfl) hd) (hS.le (Nat.le_of_ble_eq_true rfl)) (hR.le (Nat.le_of_ble_eq_true rfl)) 214 10 (mz_at hS (Nat.le_of_ble_eq_true rfl) mzcS_214) 0 (cf_49_0 213 10 0 (mz_pL (mz_pL (mz_pI N 208 0 0) 208 1 0) 208 2 0)) h2 hq) (g_aload_n rfl (g_getR (mz_at hS (Nat.le_of_ble_eq_true rfl) mzcS_208) mzcf_1_8 (mz_rb hR (Nat.le_of_ble_eq_true rfl) rfl mzcR_208_8) (g_iconst mzi_0 ?_)))
  obtain ⟨h3, hp⟩ := hp
  refine g_s2n (Nat.le_of_ble_eq_true rfl) (fun _ hq => cs_13 (Nat.le_trans (Nat.le_of_ble_eq_true rfl) hd) (hS.le (Nat.le_of_ble_eq_true rfl)) (hR.le (Nat.le_of_ble_eq_true rfl)) 215 4 (mz_at hS (Nat.le_of_ble_eq_true rfl) mzcS_215) 0 (cf_49_0 214 10 0 (cf_49_0 213 10 0 (mz_pL (mz_pL (mz_pI N 208 0 0) 208 1 0) 208 2 0))) h3 hq) (g_aload_n rfl (g_getR (mz_at hS (Nat.le_of_ble_eq_true rfl) mzcS_208) mzcf_1_8 (mz_rb hR (Nat.le_of_ble_eq_true rfl) rfl mzcR_208_8) (g_iconst mzi_0 (g_sipush mzs_5000 (g_iast (mz_at hS (Nat.le_of_ble_eq_true rfl) mzcS_215) (mz_ibd (by decide)) ?_)))))
  refine g_weak ?_ (g_cl (cg_53_48 hd hS hR (mz_wI (cf_13_0 215 4 0 (cf_49_0 214 10 0 (cf_49_0 213 10 0 (mz_pL (mz_pL (mz_pI N 208 0 0) 208 1 0) 208 2 0)))) 215 0 5000) hr hp hC))
  exact ⟨rfl, trivial⟩
theorem cs_53 (hd : 3 ≤ d) (hS : mz_extR S 232) (hR : mz_rok R 232)  (N : mz_N) (hp : cp_53_0 N) (hq : Q (.inl none) (mz_k S R (cf_53_0 N) b t)) : mz_Ed (mz_X0 L xs) d 53 [.ref 208] (mz_k S R N b t) Q :=
  by
  refine g_in mzq_53 (Nat.le_of_ble_eq_true rfl) (Nat.le_of_ble_eq_true rfl) (Nat.le_trans (Nat.le_of_ble_eq_true rfl) hd) ?_
  refine g_weak ?_ (cg_53_0 (d := d - 1) (by omega) hS hR N (C0 := fun z => Q (.inl none) (mz_k S R z b t)) (fun _ h => h) hp hq)
  exact ⟨rfl, trivial⟩
/-! 55 KeptHouse$Store.kindOf (I)I -/
theorem ms_55_0 : mz_sf mk_55 0 = mk_55 := mz_sf_zero _
theorem ms_55_2 : mz_sf mk_55 2 = mt_55_2 := mz_sf_add ms_55_0 (t := 2) rfl rfl
theorem ms_55_19 : mz_sf mk_55 19 = mt_55_19 := mz_sf_add ms_55_2 (t := 17) rfl rfl
theorem ms_55_25 : mz_sf mk_55 25 = mt_55_25 := mz_sf_add ms_55_19 (t := 6) rfl rfl
set_option maxRecDepth 100000 in
theorem mzq_55 : mz_PG0 55 = some (8, ⟨"KeptHouse$Store", "kindOf", "(I)I"⟩, prog_10_method_8_code, 2, some .int, [], mk_55, []) := rfl
theorem cb_55_2 (hd : 0 ≤ d) (hS : mz_extR S 232) (hR : mz_rok R 232)  (v0 : Int32) (s : Int32) {C0 : (Int32) → Prop} (hr : ∀ (w : Int32), C0 w → Q (.inl (some (.int w))) (mz_k S R N b t)) {C1 : ((Int32) ⊕ (Int32)) → Prop} (hc1 : ∀ s2, C1 (.inl s2) → mz_G (d, mz_X0 L xs, some .int, [], mk_55, 2, Q) 2 mt_55_2 [(0, .int v0), (1, .int s2)] [] false (mz_k S R N b t)) (hx1 : ∀ z, C1 (.inr z) → C0 z) (hp : cd_55_2 v0 s) (hC : C1 (cq_55_2 v0 s)) : mz_G (d, mz_X0 L xs, some .int, [], mk_55, 2, Q) 2 mt_55_2 [(0, .int v0), (1, .int s)] [] false (mz_k S R N b t) := by
  unfold cq_55_2 at hC
  unfold cd_55_2 at hp
  refine g_iload_n rfl (g_bipush mzb_15 ?_)
  refine g_icge (tg := 25) rfl ms_55_25 hC (fun h1 hC => ?_) (fun h1 hC => ?_)
  · have hp := hp.1 h1
    refine g_iload_n rfl (g_gst (g_iload_n rfl ?_))
    have h2 := hp
    refine g_iald1000 h2 ?_
    refine g_icge (tg := 19) rfl ms_55_19 hC (fun h3 hC => ?_) (fun h3 hC => ?_)
    · refine g_iload_n rfl ?_
      exact g_iret rfl (hr _ (hx1 _ hC))
    · refine g_iinc rfl mzi_1 (Nat.le_of_ble_eq_true rfl) rfl (g_goto (tg := 2) rfl ms_55_2 ?_)
      refine g_weak ?_ (g_cl (hc1 ((s + 1)) hC))
      exact ⟨rfl, rfl, trivial⟩
  · have hp := hp.2 h1
    refine g_bipush mzb_15 ?_
    exact g_iret rfl (hr _ (hx1 _ hC))
theorem cg_55_2 (hd : 0 ≤ d) (hS : mz_extR S 232) (hR : mz_rok R 232)  (v0 : Int32) (v1 : Int32) {C0 : (Int32) → Prop} (hr : ∀ (w : Int32), C0 w → Q (.inl (some (.int w))) (mz_k S R N b t)) (hp : cp_55_2 v0 v1) (hC : C0 (cf_55_2 v0 v1)) : mz_G (d, mz_X0 L xs, some .int, [], mk_55, 2, Q) 2 mt_55_2 [(0, .int v0), (1, .int v1)] [] false (mz_k S R N b t) := by
  obtain ⟨n, hn⟩ := hp
  exact g_loop (G := fun s => mz_G (d, mz_X0 L xs, some .int, [], mk_55, 2, Q) 2 mt_55_2 [(0, .int v0), (1, .int s)] [] false (mz_k S R N b t)) (C := C0) (fun C2 hc hx s hP hC => cb_55_2 hd hS hR v0 s hr hc hx hP hC) n (v1) hn hC
theorem cg_55_0 (hd : 0 ≤ d) (hS : mz_extR S 232) (hR : mz_rok R 232)  (v0 : Int32) {C0 : (Int32) → Prop} (hr : ∀ (w : Int32), C0 w → Q (.inl (some (.int w))) (mz_k S R N b t)) (hp : cp_55_0 v0) (hC : C0 (cf_55_0 v0)) : mz_G (d, mz_X0 L xs, some .int, [], mk_55, 2, Q) 0 mk_55 [(0, .int v0)] [] true (mz_k S R N b t) := by
  unfold cf_55_0 at hC
  unfold cp_55_0 at hp
  refine g_iconst mzi_1 (g_istore_n (Nat.le_of_ble_eq_true rfl) rfl ?_)
  refine g_weak ?_ (g_cl (cg_55_2 hd hS hR v0 1 hr hp hC))
  exact ⟨rfl, rfl, trivial⟩
theorem cs_55 (hd : 1 ≤ d) (hS : mz_extR S 232) (hR : mz_rok R 232)  (v0 : Int32) (hp : cp_55_0 v0) (hq : Q (.inl (some (.int (cf_55_0 v0)))) (mz_k S R N b t)) : mz_Ed (mz_X0 L xs) d 55 [.int v0] (mz_k S R N b t) Q :=
  by
  refine g_in mzq_55 (Nat.le_of_ble_eq_true rfl) (Nat.le_of_ble_eq_true rfl) (Nat.le_trans (Nat.le_of_ble_eq_true rfl) hd) ?_
  refine g_weak ?_ (cg_55_0 (d := d - 1) (by omega) hS hR v0 (C0 := fun z => Q (.inl (some (.int z))) (mz_k S R N b t)) (fun _ h => h) hp hq)
  exact ⟨rfl, trivial⟩
/-! 56 KeptHouse$Store.indexOf (I)I -/
theorem ms_56_0 : mz_sf mk_56 0 = mk_56 := mz_sf_zero _
set_option maxRecDepth 100000 in
theorem mzq_56 : mz_PG0 56 = some (8, ⟨"KeptHouse$Store", "indexOf", "(I)I"⟩, prog_10_method_9_code, 1, some .int, [], mk_56, []) := rfl
theorem cg_56_0 (hd : 1 ≤ d) (hS : mz_extR S 232) (hR : mz_rok R 232)  (v0 : Int32) {C0 : (Int32) → Prop} (hr : ∀ (w : Int32), C0 w → Q (.inl (some (.int w))) (mz_k S R N b t)) (hp : cp_56_0 v0) (hC : C0 (cf_56_0 v0)) : mz_G (d, mz_X0 L xs, some .int, [], mk_56, 1, Q) 0 mk_56 [(0, .int v0)] [] true (mz_k S R N b t) := by
  unfold cf_56_0 at hC
  unfold cp_56_0 at hp
  refine g_iload_n rfl (g_gst (g_iload_n rfl ?_))
  obtain ⟨h1, hp⟩ := hp
  refine g_s1v (Nat.le_of_ble_eq_true rfl) (fun _ hq => cs_55 (Nat.le_trans (Nat.le_of_ble_eq_true rfl) hd) (hS.le (Nat.le_of_ble_eq_true rfl)) (hR.le (Nat.le_of_ble_eq_true rfl))  v0 h1 hq) (g_iconst mzi_1 (g_isub ?_))
  have h2 := hp
  refine g_iald1000 h2 (g_isub ?_)
  exact g_iret rfl (hr _ hC)
theorem cs_56 (hd : 2 ≤ d) (hS : mz_extR S 232) (hR : mz_rok R 232)  (v0 : Int32) (hp : cp_56_0 v0) (hq : Q (.inl (some (.int (cf_56_0 v0)))) (mz_k S R N b t)) : mz_Ed (mz_X0 L xs) d 56 [.int v0] (mz_k S R N b t) Q :=
  by
  refine g_in mzq_56 (Nat.le_of_ble_eq_true rfl) (Nat.le_of_ble_eq_true rfl) (Nat.le_trans (Nat.le_of_ble_eq_true rfl) hd) ?_
  refine g_weak ?_ (cg_56_0 (d := d - 1) (by omega) hS hR v0 (C0 := fun z => Q (.inl (some (.int z))) (mz_k S R N b t)) (fun _ h => h) hp hq)
  exact ⟨rfl, trivial⟩
end Fn1
