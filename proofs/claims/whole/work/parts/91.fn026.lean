/-! THE FUNCTIONS: written by program: each method comes to its function. -/
section Fn26
variable {L : Nat} {xs : Nat → Int32} {d : Nat} {S : mz_S} {R : Nat → Nat → Option Nat} {Q : mz_Q} {N : mz_N} {b : Bool} {t : Nat}
/-! 488 KeptHouseModel.sumOf ([JI)J -/
theorem ms_488_0 : mz_sf mk_488 0 = mk_488 := mz_sf_zero _
theorem ms_488_5 : mz_sf mk_488 5 = mt_488_5 := mz_sf_add ms_488_0 (t := 5) rfl rfl
theorem ms_488_32 : mz_sf mk_488 32 = mt_488_32 := mz_sf_add ms_488_5 (t := 27) rfl rfl
theorem ms_488_33 : mz_sf mk_488 33 = mt_488_33 := mz_sf_add ms_488_32 (t := 1) rfl rfl
theorem ms_488_41 : mz_sf mk_488 41 = mt_488_41 := mz_sf_add ms_488_33 (t := 8) rfl rfl
set_option maxRecDepth 100000 in
theorem mzq_488 : mz_PG0 488 = some (12, ⟨"KeptHouseModel", "sumOf", "([JI)J"⟩, prog_14_method_80_code, 6, some .long, [], mk_488, []) := rfl
theorem cg_488_33 (hd : 0 ≤ d) (hS : mz_extR S 342) (hR : mz_rok R 342) (a1 : Nat) (hs1 : S[a1]? = some (1, 240, [])) (s0 : Int64) (s1 : Int64) (v2 : Int32) (v5 : Int32) (N : mz_N) {C0 : (Int64) → Prop} (hr : ∀ (w : Int64), C0 w → Q (.inl (some (.long w))) (mz_k S R N b t)) {C1 : ((Int64 × Int32) ⊕ (Int64)) → Prop} (hc1 : ∀ s2, C1 (.inl s2) → mz_G (d, mz_X0 L xs, some .long, [], mk_488, 6, Q) 5 mt_488_5 [(0, .ref 232), (1, .ref a1), (2, .int v2), (3, .long s2.1), (5, .int s2.2)] [] false (mz_k S R N b t)) (hx1 : ∀ z, C1 (.inr z) → C0 z) (hp : cp_488_33 a1 s0 s1 v2 v5 N) (hC : C1 (cf_488_33 a1 s0 s1 v2 v5 N)) : mz_G (d, mz_X0 L xs, some .long, [], mk_488, 6, Q) 33 mt_488_33 [(0, .ref 232), (1, .ref a1), (2, .int v2), (5, .int v5)] [.long s1, .long s0] false (mz_k S R N b t) := by
  unfold cf_488_33 at hC
  unfold cp_488_33 at hp
  refine g_ladd (g_lstore_n (Nat.le_of_ble_eq_true rfl) rfl rfl (g_iinc rfl mzi_1 (Nat.le_of_ble_eq_true rfl) rfl (g_goto (tg := 5) rfl ms_488_5 ?_)))
  refine g_weak ?_ (g_cl (hc1 ((s0 + s1), (v5 + 1)) hC))
  exact ⟨rfl, rfl, rfl, rfl, rfl, trivial⟩
theorem cb_488_5 (hd : 0 ≤ d) (hS : mz_extR S 342) (hR : mz_rok R 342) (a1 : Nat) (hs1 : S[a1]? = some (1, 240, [])) (v2 : Int32) (N : mz_N) (s : Int64 × Int32) {C0 : (Int64) → Prop} (hr : ∀ (w : Int64), C0 w → Q (.inl (some (.long w))) (mz_k S R N b t)) {C1 : ((Int64 × Int32) ⊕ (Int64)) → Prop} (hc1 : ∀ s2, C1 (.inl s2) → mz_G (d, mz_X0 L xs, some .long, [], mk_488, 6, Q) 5 mt_488_5 [(0, .ref 232), (1, .ref a1), (2, .int v2), (3, .long s2.1), (5, .int s2.2)] [] false (mz_k S R N b t)) (hx1 : ∀ z, C1 (.inr z) → C0 z) (hp : cd_488_5 a1 v2 N s) (hC : C1 (cq_488_5 a1 v2 N s)) : mz_G (d, mz_X0 L xs, some .long, [], mk_488, 6, Q) 5 mt_488_5 [(0, .ref 232), (1, .ref a1), (2, .int v2), (3, .long s.1), (5, .int s.2)] [] false (mz_k S R N b t) := by
  unfold cq_488_5 at hC
  unfold cd_488_5 at hp
  refine g_iload rfl (g_sipush mzs_240 ?_)
  refine g_icge (tg := 41) rfl ms_488_41 hC (fun h1 hC => ?_) (fun h1 hC => ?_)
  · have hp := hp.1 h1
    refine g_lload_n rfl (g_aload_n rfl (g_getR (mz_at hS (Nat.le_of_ble_eq_true rfl) mzcS_232) mzcf_12_6 (mz_rb hR (Nat.le_of_ble_eq_true rfl) rfl mzcR_232_6) (g_iload rfl ?_)))
    obtain ⟨h2, hp⟩ := hp
    refine g_iald hS.1 (mz_at hS (Nat.le_of_ble_eq_true rfl) mzcS_235) h2 (g_iload_n rfl ?_)
    refine g_icne (tg := 32) rfl ms_488_32 hC (fun h3 hC => ?_) (fun h3 hC => ?_)
    · have hp := hp.1 h3
      refine g_aload_n rfl (g_iload rfl ?_)
      obtain ⟨h4, hp⟩ := hp
      refine g_lald hs1 h4 (g_goto (tg := 33) rfl ms_488_33 ?_)
      refine g_weak ?_ (g_cl (cg_488_33 hd hS hR a1 hs1 s.1 (mz_gL N a1 s.2) v2 s.2 N hr hc1 hx1 hp hC))
      exact ⟨rfl, rfl, rfl, rfl, trivial⟩
    · have hp := hp.2 h3
      refine g_lconst mzl_0 ?_
      refine g_weak ?_ (g_cl (cg_488_33 hd hS hR a1 hs1 s.1 0 v2 s.2 N hr hc1 hx1 hp hC))
      exact ⟨rfl, rfl, rfl, rfl, trivial⟩
  · have hp := hp.2 h1
    refine g_lload_n rfl ?_
    exact g_lret rfl (hr _ (hx1 _ hC))
theorem cg_488_5 (hd : 0 ≤ d) (hS : mz_extR S 342) (hR : mz_rok R 342) (a1 : Nat) (hs1 : S[a1]? = some (1, 240, [])) (v2 : Int32) (v3 : Int64) (v5 : Int32) (N : mz_N) {C0 : (Int64) → Prop} (hr : ∀ (w : Int64), C0 w → Q (.inl (some (.long w))) (mz_k S R N b t)) (hp : cp_488_5 a1 v2 v3 v5 N) (hC : C0 (cf_488_5 a1 v2 v3 v5 N)) : mz_G (d, mz_X0 L xs, some .long, [], mk_488, 6, Q) 5 mt_488_5 [(0, .ref 232), (1, .ref a1), (2, .int v2), (3, .long v3), (5, .int v5)] [] false (mz_k S R N b t) := by
  obtain ⟨n, hn⟩ := hp
  exact g_loop (G := fun s => mz_G (d, mz_X0 L xs, some .long, [], mk_488, 6, Q) 5 mt_488_5 [(0, .ref 232), (1, .ref a1), (2, .int v2), (3, .long s.1), (5, .int s.2)] [] false (mz_k S R N b t)) (C := C0) (fun C2 hc hx s hP hC => cb_488_5 hd hS hR a1 hs1 v2 N s hr hc hx hP hC) n (v3, v5) hn hC
theorem cg_488_0 (hd : 0 ≤ d) (hS : mz_extR S 342) (hR : mz_rok R 342) (a1 : Nat) (hs1 : S[a1]? = some (1, 240, [])) (v2 : Int32) (N : mz_N) {C0 : (Int64) → Prop} (hr : ∀ (w : Int64), C0 w → Q (.inl (some (.long w))) (mz_k S R N b t)) (hp : cp_488_0 a1 v2 N) (hC : C0 (cf_488_0 a1 v2 N)) : mz_G (d, mz_X0 L xs, some .long, [], mk_488, 6, Q) 0 mk_488 [(0, .ref 232), (1, .ref a1), (2, .int v2)] [] true (mz_k S R N b t) := by
  unfold cf_488_0 at hC
  unfold cp_488_0 at hp
  refine g_lconst mzl_0 (g_lstore_n (Nat.le_of_ble_eq_true rfl) rfl rfl (g_iconst mzi_0 (g_istore (Nat.le_of_ble_eq_true rfl) rfl ?_)))
  refine g_weak ?_ (g_cl (cg_488_5 hd hS hR a1 hs1 v2 0 0 N hr hp hC))
  exact ⟨rfl, rfl, rfl, rfl, rfl, trivial⟩
theorem cs_488 (hd : 1 ≤ d) (hS : mz_extR S 342) (hR : mz_rok R 342) (a1 : Nat) (hs1 : S[a1]? = some (1, 240, [])) (v2 : Int32) (N : mz_N) (hp : cp_488_0 a1 v2 N) (hq : Q (.inl (some (.long (cf_488_0 a1 v2 N)))) (mz_k S R N b t)) : mz_Ed (mz_X0 L xs) d 488 [.ref 232, .ref a1, .int v2] (mz_k S R N b t) Q :=
  by
  refine g_in mzq_488 (Nat.le_of_ble_eq_true rfl) (Nat.le_of_ble_eq_true rfl) (Nat.le_trans (Nat.le_of_ble_eq_true rfl) hd) ?_
  refine g_weak ?_ (cg_488_0 (d := d - 1) (by omega) hS hR a1 hs1 v2 N (C0 := fun z => Q (.inl (some (.long z))) (mz_k S R N b t)) (fun _ h => h) hp hq)
  exact ⟨rfl, rfl, rfl, trivial⟩
/-! 489 KeptHouseModel.by (JJ)J -/
theorem ms_489_0 : mz_sf mk_489 0 = mk_489 := mz_sf_zero _
theorem ms_489_20 : mz_sf mk_489 20 = mt_489_20 := mz_sf_add ms_489_0 (t := 20) rfl rfl
theorem ms_489_22 : mz_sf mk_489 22 = mt_489_22 := mz_sf_add ms_489_20 (t := 2) rfl rfl
set_option maxRecDepth 100000 in
theorem mzq_489 : mz_PG0 489 = some (12, ⟨"KeptHouseModel", "by", "(JJ)J"⟩, prog_14_method_6_code, 6, some .long, [], mk_489, []) := rfl
theorem cg_489_0 (hd : 0 ≤ d) (hS : mz_extR S 342) (hR : mz_rok R 342)  (v0 : Int64) (v2 : Int64) {C0 : (Int64) → Prop} (hr : ∀ (w : Int64), C0 w → Q (.inl (some (.long w))) (mz_k S R N b t)) (hp : cp_489_0 v0 v2) (hC : C0 (cf_489_0 v0 v2)) : mz_G (d, mz_X0 L xs, some .long, [], mk_489, 6, Q) 0 mk_489 [(0, .long v0), (2, .long v2)] [] true (mz_k S R N b t) := by
  unfold cf_489_0 at hC
  unfold cp_489_0 at hp
  refine g_lload_n rfl (g_lload_n rfl ?_)
  obtain ⟨h1, hp⟩ := hp
  refine g_ldiv h1 (g_lstore (Nat.le_of_ble_eq_true rfl) rfl rfl (g_lload_n rfl (g_lload_n rfl ?_)))
  have h2 := hp
  refine g_lrem h2 (g_lconst mzl_0 (g_lcmp ?_))
  refine g_lge (tg := 20) rfl ms_489_20 hC (fun h3 hC => ?_) (fun h3 hC => ?_)
  · refine g_lload rfl (g_lconst mzl_1 (g_lsub (g_goto (tg := 22) rfl ms_489_22 ?_)))
    exact g_lret rfl (hr _ hC)
  · refine g_lload rfl ?_
    exact g_lret rfl (hr _ hC)
theorem cs_489 (hd : 1 ≤ d) (hS : mz_extR S 342) (hR : mz_rok R 342)  (v0 : Int64) (v2 : Int64) (hp : cp_489_0 v0 v2) (hq : Q (.inl (some (.long (cf_489_0 v0 v2)))) (mz_k S R N b t)) : mz_Ed (mz_X0 L xs) d 489 [.long v0, .long v2] (mz_k S R N b t) Q :=
  by
  refine g_in mzq_489 (Nat.le_of_ble_eq_true rfl) (Nat.le_of_ble_eq_true rfl) (Nat.le_trans (Nat.le_of_ble_eq_true rfl) hd) ?_
  refine g_weak ?_ (cg_489_0 (d := d - 1) (by omega) hS hR v0 v2 (C0 := fun z => Q (.inl (some (.long z))) (mz_k S R N b t)) (fun _ h => h) hp hq)
  exact ⟨rfl, rfl, trivial⟩
/-! 487 KeptHouseModel.warmthOf (I)J -/
theorem ms_487_0 : mz_sf mk_487 0 = mk_487 := mz_sf_zero _
set_option maxRecDepth 100000 in
theorem mzq_487 : mz_PG0 487 = some (12, ⟨"KeptHouseModel", "warmthOf", "(I)J"⟩, prog_14_method_81_code, 2, some .long, [], mk_487, []) := rfl
theorem cg_487_0 (hd : 1 ≤ d) (hS : mz_extR S 342) (hR : mz_rok R 342)  (v1 : Int32) (N : mz_N) {C0 : (Int64) → Prop} (hr : ∀ (w : Int64), C0 w → Q (.inl (some (.long w))) (mz_k S R N b t)) (hp : cp_487_0 v1 N) (hC : C0 (cf_487_0 v1 N)) : mz_G (d, mz_X0 L xs, some .long, [], mk_487, 2, Q) 0 mk_487 [(0, .ref 232), (1, .int v1)] [] true (mz_k S R N b t) := by
  unfold cf_487_0 at hC
  unfold cp_487_0 at hp
  refine g_aload_n rfl (g_aload_n rfl (g_getR (mz_at hS (Nat.le_of_ble_eq_true rfl) mzcS_232) mzcf_12_40 (mz_rb hR (Nat.le_of_ble_eq_true rfl) rfl mzcR_232_40) (g_iload_n rfl ?_)))
  obtain ⟨h1, hp⟩ := hp
  refine g_v3v (Nat.le_of_ble_eq_true rfl) (mz_at hS (Nat.le_of_ble_eq_true rfl) mzcS_232) (fun _ hq => cs_488 (Nat.le_trans (Nat.le_of_ble_eq_true rfl) hd) (hS.le (Nat.le_of_ble_eq_true rfl)) (hR.le (Nat.le_of_ble_eq_true rfl)) 260 (mz_at hS (Nat.le_of_ble_eq_true rfl) mzcS_260) v1 N h1 hq) (g_con3 (g_aload_n rfl (g_getR (mz_at hS (Nat.le_of_ble_eq_true rfl) mzcS_232) mzcf_12_9 (mz_rb hR (Nat.le_of_ble_eq_true rfl) rfl mzcR_232_9) (g_iload_n rfl ?_))))
  obtain ⟨h2, hp⟩ := hp
  refine g_iald hS.1 (mz_at hS (Nat.le_of_ble_eq_true rfl) mzcS_237) h2 (g_i2l (g_lmul ?_))
  have h3 := hp
  refine g_s2v (Nat.le_of_ble_eq_true rfl) (fun _ hq => cs_489 (Nat.le_trans (Nat.le_of_ble_eq_true rfl) hd) (hS.le (Nat.le_of_ble_eq_true rfl)) (hR.le (Nat.le_of_ble_eq_true rfl))  (cf_488_0 260 v1 N) (100 * ((mz_gI N 237 v1).toInt64)) h3 hq) ?_
  exact g_lret rfl (hr _ hC)
theorem cs_487 (hd : 2 ≤ d) (hS : mz_extR S 342) (hR : mz_rok R 342)  (v1 : Int32) (N : mz_N) (hp : cp_487_0 v1 N) (hq : Q (.inl (some (.long (cf_487_0 v1 N)))) (mz_k S R N b t)) : mz_Ed (mz_X0 L xs) d 487 [.ref 232, .int v1] (mz_k S R N b t) Q :=
  by
  refine g_in mzq_487 (Nat.le_of_ble_eq_true rfl) (Nat.le_of_ble_eq_true rfl) (Nat.le_trans (Nat.le_of_ble_eq_true rfl) hd) ?_
  refine g_weak ?_ (cg_487_0 (d := d - 1) (by omega) hS hR v1 N (C0 := fun z => Q (.inl (some (.long z))) (mz_k S R N b t)) (fun _ h => h) hp hq)
  exact ⟨rfl, rfl, trivial⟩
/-! 486 KeptHouseModel.space (II)I -/
theorem ms_486_0 : mz_sf mk_486 0 = mk_486 := mz_sf_zero _
theorem ms_486_33 : mz_sf mk_486 33 = mt_486_33 := mz_sf_add ms_486_0 (t := 33) rfl rfl
theorem ms_486_34 : mz_sf mk_486 34 = mt_486_34 := mz_sf_add ms_486_33 (t := 1) rfl rfl
theorem ms_486_43 : mz_sf mk_486 43 = mt_486_43 := mz_sf_add ms_486_34 (t := 9) rfl rfl
theorem ms_486_94 : mz_sf mk_486 94 = mt_486_94 := mz_sf_add ms_486_43 (t := 51) rfl rfl
theorem ms_486_104 : mz_sf mk_486 104 = mt_486_104 := mz_sf_add ms_486_94 (t := 10) rfl rfl
theorem ms_486_111 : mz_sf mk_486 111 = mt_486_111 := mz_sf_add ms_486_104 (t := 7) rfl rfl
theorem ms_486_117 : mz_sf mk_486 117 = mt_486_117 := mz_sf_add ms_486_111 (t := 6) rfl rfl
theorem ms_486_124 : mz_sf mk_486 124 = mt_486_124 := mz_sf_add ms_486_117 (t := 7) rfl rfl
theorem ms_486_131 : mz_sf mk_486 131 = mt_486_131 := mz_sf_add ms_486_124 (t := 7) rfl rfl
set_option maxRecDepth 100000 in
theorem mzq_486 : mz_PG0 486 = some (12, ⟨"KeptHouseModel", "space", "(II)I"⟩, prog_14_method_36_code, 3, some .int, [], mk_486, []) := rfl
theorem cg_486_34 (hd : 2 ≤ d) (hS : mz_extR S 342) (hR : mz_rok R 342)  (s1 : Bool) (v1 : Int32) (v2 : Int32) (N : mz_N) {C0 : (Int32 × mz_N) → Prop} (hr : ∀ (w : Int32) (N2 : mz_N), C0 (w, N2) → Q (.inl (some (.int w))) (mz_k S R N2 b t)) (hp : cp_486_34 s1 v1 v2 N) (hC : C0 (cf_486_34 s1 v1 v2 N)) : mz_G (d, mz_X0 L xs, some .int, [], mk_486, 3, Q) 34 mt_486_34 [(0, .ref 232), (1, .int v1), (2, .int v2)] [.int (mz_b01 s1), .ref 232] false (mz_k S R N b t) := by
  unfold cf_486_34 at hC
  unfold cp_486_34 at hp
  refine g_iconst mzi_1 ?_
  obtain ⟨h1, hp⟩ := hp
  refine g_v3v (Nat.le_of_ble_eq_true rfl) (mz_at hS (Nat.le_of_ble_eq_true rfl) mzcS_232) (fun _ hq => cs_462 (Nat.le_trans (Nat.le_of_ble_eq_true rfl) hd) (hS.le (Nat.le_of_ble_eq_true rfl)) (hR.le (Nat.le_of_ble_eq_true rfl))  s1 true N h1 hq) ?_
  refine g_zeq (tg := 43) rfl ms_486_43 hC (fun h2 hC => ?_) (fun h2 hC => ?_)
  · have hp := hp.1 h2
    refine g_iconst mzi_0 ?_
    exact g_iret rfl (hr _ _ hC)
  · have hp := hp.2 h2
    refine g_iload_n rfl ?_
    refine mz_cs hC (fun h3 hC => ?_) (fun h3 hC => ?_)
    · have hp := hp.1 h3
      refine g_brn (tg := 84) (by rw [h3]; rfl) (by decide) rfl ?_
      refine g_aload_n rfl (g_getR (mz_at hS (Nat.le_of_ble_eq_true rfl) mzcS_232) mzcf_12_8 (mz_rb hR (Nat.le_of_ble_eq_true rfl) rfl mzcR_232_8) (g_iload_n rfl ?_))
      have h15 := hp
      refine g_iald hS.1 (mz_at hS (Nat.le_of_ble_eq_true rfl) mzcS_236) h15 (g_bipush mzb_48 (g_idiv (by decide) ?_))
      exact g_iret rfl (hr _ _ hC)
    · have hp := hp.2 h3
      refine mz_cs hC (fun h4 hC => ?_) (fun h4 hC => ?_)
      · have hp := hp.1 h4
        refine g_br (tg := 94) (by rw [h4]; rfl) ms_486_94 ?_
        refine g_aload_n rfl (g_getR (mz_at hS (Nat.le_of_ble_eq_true rfl) mzcS_232) mzcf_12_8 (mz_rb hR (Nat.le_of_ble_eq_true rfl) rfl mzcR_232_8) (g_iload_n rfl ?_))
        have h14 := hp
        refine g_iald hS.1 (mz_at hS (Nat.le_of_ble_eq_true rfl) mzcS_236) h14 (g_bipush mzb_48 (g_irem (by decide) ?_))
        exact g_iret rfl (hr _ _ hC)
      · have hp := hp.2 h4
        refine mz_cs hC (fun h5 hC => ?_) (fun h5 hC => ?_)
        · have hp := hp.1 h5
          refine g_br (tg := 104) (by rw [h5]; rfl) ms_486_104 ?_
          refine g_aload_n rfl (g_getR (mz_at hS (Nat.le_of_ble_eq_true rfl) mzcS_232) mzcf_12_9 (mz_rb hR (Nat.le_of_ble_eq_true rfl) rfl mzcR_232_9) (g_iload_n rfl ?_))
          have h13 := hp
          refine g_iald hS.1 (mz_at hS (Nat.le_of_ble_eq_true rfl) mzcS_237) h13 ?_
          exact g_iret rfl (hr _ _ hC)
        · have hp := hp.2 h5
          refine mz_cs hC (fun h6 hC => ?_) (fun h6 hC => ?_)
          · have hp := hp.1 h6
            refine g_br (tg := 111) (by rw [h6]; rfl) ms_486_111 ?_
            refine g_aload_n rfl (g_iload_n rfl ?_)
            have h12 := hp
            refine g_v2v (Nat.le_of_ble_eq_true rfl) (mz_at hS (Nat.le_of_ble_eq_true rfl) mzcS_232) (fun _ hq => cs_436 (Nat.le_trans (Nat.le_of_ble_eq_true rfl) hd) (hS.le (Nat.le_of_ble_eq_true rfl)) (hR.le (Nat.le_of_ble_eq_true rfl))  v1 ((cf_462_0 s1 true N).2) h12 hq) ?_
            exact g_iret rfl (hr _ _ hC)
          · have hp := hp.2 h6
            refine mz_cs hC (fun h7 hC => ?_) (fun h7 hC => ?_)
            · have hp := hp.1 h7
              refine g_br (tg := 117) (by rw [h7]; rfl) ms_486_117 ?_
              refine g_aload_n rfl (g_getR (mz_at hS (Nat.le_of_ble_eq_true rfl) mzcS_232) mzcf_12_12 (mz_rb hR (Nat.le_of_ble_eq_true rfl) rfl mzcR_232_12) (g_iload_n rfl ?_))
              have h11 := hp
              refine g_iald hS.1 (mz_at hS (Nat.le_of_ble_eq_true rfl) mzcS_240) h11 ?_
              exact g_iret rfl (hr _ _ hC)
            · have hp := hp.2 h7
              refine mz_cs hC (fun h8 hC => ?_) (fun h8 hC => ?_)
              · have hp := hp.1 h8
                refine g_br (tg := 124) (by rw [h8]; rfl) ms_486_124 ?_
                refine g_aload_n rfl (g_getR (mz_at hS (Nat.le_of_ble_eq_true rfl) mzcS_232) mzcf_12_13 (mz_rb hR (Nat.le_of_ble_eq_true rfl) rfl mzcR_232_13) (g_iload_n rfl ?_))
                have h10 := hp
                refine g_iald hS.1 (mz_at hS (Nat.le_of_ble_eq_true rfl) mzcS_241) h10 ?_
                exact g_iret rfl (hr _ _ hC)
              · have hp := hp.2 h8
                refine g_br (tg := 131) ((mz_tsw_d (l := [0, 1, 2, 3, 4, 5]) (mz_rng 0 5) ⟨h3, h4, h5, h6, h7, h8, trivial⟩).trans (mz_tg_t rfl)) ms_486_131 ?_
                refine g_aload_n rfl (g_iload_n rfl ?_)
                have h9 := hp
                refine g_v2v (Nat.le_of_ble_eq_true rfl) (mz_at hS (Nat.le_of_ble_eq_true rfl) mzcS_232) (fun _ hq => cs_487 (Nat.le_trans (Nat.le_of_ble_eq_true rfl) hd) (hS.le (Nat.le_of_ble_eq_true rfl)) (hR.le (Nat.le_of_ble_eq_true rfl))  v1 ((cf_462_0 s1 true N).2) h9 hq) (g_l2i ?_)
                exact g_iret rfl (hr _ _ hC)
theorem cg_486_33 (hd : 2 ≤ d) (hS : mz_extR S 342) (hR : mz_rok R 342)  (v1 : Int32) (v2 : Int32) (N : mz_N) {C0 : (Int32 × mz_N) → Prop} (hr : ∀ (w : Int32) (N2 : mz_N), C0 (w, N2) → Q (.inl (some (.int w))) (mz_k S R N2 b t)) (hp : cp_486_33 v1 v2 N) (hC : C0 (cf_486_33 v1 v2 N)) : mz_G (d, mz_X0 L xs, some .int, [], mk_486, 3, Q) 33 mt_486_33 [(0, .ref 232), (1, .int v1), (2, .int v2)] [.ref 232] false (mz_k S R N b t) := by
  unfold cf_486_33 at hC
  unfold cp_486_33 at hp
  refine g_iconst mzi_0 ?_
  refine g_weak ?_ (g_cl (cg_486_34 hd hS hR false v1 v2 N hr hp hC))
  exact ⟨rfl, rfl, rfl, trivial⟩
theorem cg_486_0 (hd : 2 ≤ d) (hS : mz_extR S 342) (hR : mz_rok R 342)  (v1 : Int32) (v2 : Int32) (N : mz_N) {C0 : (Int32 × mz_N) → Prop} (hr : ∀ (w : Int32) (N2 : mz_N), C0 (w, N2) → Q (.inl (some (.int w))) (mz_k S R N2 b t)) (hp : cp_486_0 v1 v2 N) (hC : C0 (cf_486_0 v1 v2 N)) : mz_G (d, mz_X0 L xs, some .int, [], mk_486, 3, Q) 0 mk_486 [(0, .ref 232), (1, .int v1), (2, .int v2)] [] true (mz_k S R N b t) := by
  unfold cf_486_0 at hC
  unfold cp_486_0 at hp
  refine g_aload_n rfl (g_iload_n rfl (g_i2l (g_lconst mzl_0 (g_aload_n rfl (g_getI (mz_at hS (Nat.le_of_ble_eq_true rfl) mzcS_232) mzcf_12_7 (g_iconst mzi_1 (g_isub ?_)))))))
  refine g_i2l ?_
  refine g_s3v (Nat.le_of_ble_eq_true rfl) (fun _ hq => cs_466 (Nat.le_trans (Nat.le_of_ble_eq_true rfl) hd) (hS.le (Nat.le_of_ble_eq_true rfl)) (hR.le (Nat.le_of_ble_eq_true rfl))  v1.toInt64 0 (((N.1 232 7) - 1).toInt64) trivial hq) ?_
  refine g_zeq (tg := 33) rfl ms_486_33 hC (fun h2 hC => ?_) (fun h2 hC => ?_)
  · have hp := hp.1 h2
    refine g_iload_n rfl (g_i2l (g_lconst mzl_0 (g_con3 ?_)))
    refine g_s3v (Nat.le_of_ble_eq_true rfl) (fun _ hq => cs_466 (Nat.le_trans (Nat.le_of_ble_eq_true rfl) hd) (hS.le (Nat.le_of_ble_eq_true rfl)) (hR.le (Nat.le_of_ble_eq_true rfl))  v2.toInt64 0 6 trivial hq) ?_
    refine g_zeq (tg := 33) rfl ms_486_33 hC (fun h4 hC => ?_) (fun h4 hC => ?_)
    · have hp := hp.1 h4
      refine g_iconst mzi_1 (g_goto (tg := 34) rfl ms_486_34 ?_)
      refine g_weak ?_ (g_cl (cg_486_34 hd hS hR true v1 v2 N hr hp hC))
      exact ⟨rfl, rfl, rfl, trivial⟩
    · have hp := hp.2 h4
      refine g_weak ?_ (g_cl (cg_486_33 hd hS hR v1 v2 N hr hp hC))
      exact ⟨rfl, rfl, rfl, trivial⟩
  · have hp := hp.2 h2
    refine g_weak ?_ (g_cl (cg_486_33 hd hS hR v1 v2 N hr hp hC))
    exact ⟨rfl, rfl, rfl, trivial⟩
theorem cs_486 (hd : 3 ≤ d) (hS : mz_extR S 342) (hR : mz_rok R 342)  (v1 : Int32) (v2 : Int32) (N : mz_N) (hp : cp_486_0 v1 v2 N) (hq : Q (.inl (some (.int ((cf_486_0 v1 v2 N).1)))) (mz_k S R ((cf_486_0 v1 v2 N).2) b t)) : mz_Ed (mz_X0 L xs) d 486 [.ref 232, .int v1, .int v2] (mz_k S R N b t) Q :=
  by
  refine g_in mzq_486 (Nat.le_of_ble_eq_true rfl) (Nat.le_of_ble_eq_true rfl) (Nat.le_trans (Nat.le_of_ble_eq_true rfl) hd) ?_
  refine g_weak ?_ (cg_486_0 (d := d - 1) (by omega) hS hR v1 v2 N (C0 := fun z => Q (.inl (some (.int z.1))) (mz_k S R z.2 b t)) (fun _ _ h => h) hp hq)
  exact ⟨rfl, rfl, rfl, trivial⟩
/-! 491 KeptHouseModel.isCell (II)Z -/
theorem ms_491_0 : mz_sf mk_491 0 = mk_491 := mz_sf_zero _
theorem ms_491_21 : mz_sf mk_491 21 = mt_491_21 := mz_sf_add ms_491_0 (t := 21) rfl rfl
theorem ms_491_22 : mz_sf mk_491 22 = mt_491_22 := mz_sf_add ms_491_21 (t := 1) rfl rfl
set_option maxRecDepth 100000 in
theorem mzq_491 : mz_PG0 491 = some (12, ⟨"KeptHouseModel", "isCell", "(II)Z"⟩, prog_14_method_20_code, 2, some .boolean, [], mk_491, []) := rfl
theorem cg_491_0 (hd : 1 ≤ d) (hS : mz_extR S 342) (hR : mz_rok R 342)  (v0 : Int32) (v1 : Int32) {C0 : (Bool) → Prop} (hr : ∀ (w : Bool), C0 w → Q (.inl (some (.int (mz_b01 w)))) (mz_k S R N b t)) (hp : cp_491_0 v0 v1) (hC : C0 (cf_491_0 v0 v1)) : mz_G (d, mz_X0 L xs, some .boolean, [], mk_491, 2, Q) 0 mk_491 [(0, .int v0), (1, .int v1)] [] true (mz_k S R N b t) := by
  unfold cf_491_0 at hC
  unfold cp_491_0 at hp
  refine g_iload_n rfl ?_
  refine g_s1v (Nat.le_of_ble_eq_true rfl) (fun _ hq => cs_465 (Nat.le_trans (Nat.le_of_ble_eq_true rfl) hd) (hS.le (Nat.le_of_ble_eq_true rfl)) (hR.le (Nat.le_of_ble_eq_true rfl))  v0 trivial hq) ?_
  refine g_zeq (tg := 21) rfl ms_491_21 hC (fun h2 hC => ?_) (fun h2 hC => ?_)
  · refine g_iload_n rfl ?_
    refine g_iflt (tg := 21) rfl ms_491_21 hC (fun h3 hC => ?_) (fun h3 hC => ?_)
    · refine g_iconst mzi_0 ?_
      exact g_zret (z := false) rfl (hr _ hC)
    · refine g_iload_n rfl (g_bipush mzb_48 ?_)
      refine g_icge (tg := 21) rfl ms_491_21 hC (fun h4 hC => ?_) (fun h4 hC => ?_)
      · refine g_iconst mzi_1 (g_goto (tg := 22) rfl ms_491_22 ?_)
        exact g_zret (z := true) rfl (hr _ hC)
      · refine g_iconst mzi_0 ?_
        exact g_zret (z := false) rfl (hr _ hC)
  · refine g_iconst mzi_0 ?_
    exact g_zret (z := false) rfl (hr _ hC)
theorem cs_491 (hd : 2 ≤ d) (hS : mz_extR S 342) (hR : mz_rok R 342)  (v0 : Int32) (v1 : Int32) (hp : cp_491_0 v0 v1) (hq : Q (.inl (some (.int (mz_b01 (cf_491_0 v0 v1))))) (mz_k S R N b t)) : mz_Ed (mz_X0 L xs) d 491 [.int v0, .int v1] (mz_k S R N b t) Q :=
  by
  refine g_in mzq_491 (Nat.le_of_ble_eq_true rfl) (Nat.le_of_ble_eq_true rfl) (Nat.le_trans (Nat.le_of_ble_eq_true rfl) hd) ?_
  refine g_weak ?_ (cg_491_0 (d := d - 1) (by omega) hS hR v0 v1 (C0 := fun z => Q (.inl (some (.int (mz_b01 z)))) (mz_k S R N b t)) (fun _ h => h) hp hq)
  exact ⟨rfl, rfl, trivial⟩
/-! 490 KeptHouseModel.spaceAt (II)I -/
theorem ms_490_0 : mz_sf mk_490 0 = mk_490 := mz_sf_zero _
theorem ms_490_17 : mz_sf mk_490 17 = mt_490_17 := mz_sf_add ms_490_0 (t := 17) rfl rfl
theorem ms_490_28 : mz_sf mk_490 28 = mt_490_28 := mz_sf_add ms_490_17 (t := 11) rfl rfl
set_option maxRecDepth 100000 in
theorem mzq_490 : mz_PG0 490 = some (12, ⟨"KeptHouseModel", "spaceAt", "(II)I"⟩, prog_14_method_37_code, 3, some .int, [], mk_490, []) := rfl
theorem cg_490_0 (hd : 2 ≤ d) (hS : mz_extR S 342) (hR : mz_rok R 342)  (v1 : Int32) (v2 : Int32) (N : mz_N) {C0 : (Int32 × mz_N) → Prop} (hr : ∀ (w : Int32) (N2 : mz_N), C0 (w, N2) → Q (.inl (some (.int w))) (mz_k S R N2 b t)) (hp : cp_490_0 v1 v2 N) (hC : C0 (cf_490_0 v1 v2 N)) : mz_G (d, mz_X0 L xs, some .int, [], mk_490, 3, Q) 0 mk_490 [(0, .ref 232), (1, .int v1), (2, .int v2)] [] true (mz_k S R N b t) := by
  unfold cf_490_0 at hC
  unfold cp_490_0 at hp
  refine g_aload_n rfl (g_iload_n rfl (g_iload_n rfl ?_))
  refine g_s2v (Nat.le_of_ble_eq_true rfl) (fun _ hq => cs_491 (Nat.le_trans (Nat.le_of_ble_eq_true rfl) hd) (hS.le (Nat.le_of_ble_eq_true rfl)) (hR.le (Nat.le_of_ble_eq_true rfl))  v1 v2 trivial hq) (g_iconst mzi_1 ?_)
  obtain ⟨h2, hp⟩ := hp
  refine g_v3v (Nat.le_of_ble_eq_true rfl) (mz_at hS (Nat.le_of_ble_eq_true rfl) mzcS_232) (fun _ hq => cs_462 (Nat.le_trans (Nat.le_of_ble_eq_true rfl) hd) (hS.le (Nat.le_of_ble_eq_true rfl)) (hR.le (Nat.le_of_ble_eq_true rfl))  (cf_491_0 v1 v2) true N h2 hq) ?_
  refine g_zeq (tg := 17) rfl ms_490_17 hC (fun h3 hC => ?_) (fun h3 hC => ?_)
  · have hp := hp.1 h3
    refine g_iconst mzi_0 (g_goto (tg := 28) rfl ms_490_28 ?_)
    exact g_iret rfl (hr _ _ hC)
  · have hp := hp.2 h3
    refine g_aload_n rfl (g_getR (mz_at hS (Nat.le_of_ble_eq_true rfl) mzcS_232) mzcf_12_6 (mz_rb hR (Nat.le_of_ble_eq_true rfl) rfl mzcR_232_6) (g_bipush mzb_48 (g_iload_n rfl (g_imul (g_iload_n rfl (g_iadd ?_))))))
    have h4 := hp
    refine g_iald hS.1 (mz_at hS (Nat.le_of_ble_eq_true rfl) mzcS_235) h4 ?_
    exact g_iret rfl (hr _ _ hC)
theorem cs_490 (hd : 3 ≤ d) (hS : mz_extR S 342) (hR : mz_rok R 342)  (v1 : Int32) (v2 : Int32) (N : mz_N) (hp : cp_490_0 v1 v2 N) (hq : Q (.inl (some (.int ((cf_490_0 v1 v2 N).1)))) (mz_k S R ((cf_490_0 v1 v2 N).2) b t)) : mz_Ed (mz_X0 L xs) d 490 [.ref 232, .int v1, .int v2] (mz_k S R N b t) Q :=
  by
  refine g_in mzq_490 (Nat.le_of_ble_eq_true rfl) (Nat.le_of_ble_eq_true rfl) (Nat.le_trans (Nat.le_of_ble_eq_true rfl) hd) ?_
  refine g_weak ?_ (cg_490_0 (d := d - 1) (by omega) hS hR v1 v2 N (C0 := fun z => Q (.inl (some (.int z.1))) (mz_k S R z.2 b t)) (fun _ _ h => h) hp hq)
  exact ⟨rfl, rfl, rfl, trivial⟩
/-! 492 KeptHouseModel.between (III)I -/
theorem ms_492_0 : mz_sf mk_492 0 = mk_492 := mz_sf_zero _
theorem ms_492_49 : mz_sf mk_492 49 = mt_492_49 := mz_sf_add ms_492_0 (t := 49) rfl rfl
theorem ms_492_50 : mz_sf mk_492 50 = mt_492_50 := mz_sf_add ms_492_49 (t := 1) rfl rfl
theorem ms_492_59 : mz_sf mk_492 59 = mt_492_59 := mz_sf_add ms_492_50 (t := 9) rfl rfl
set_option maxRecDepth 100000 in
theorem mzq_492 : mz_PG0 492 = some (12, ⟨"KeptHouseModel", "between", "(III)I"⟩, prog_14_method_38_code, 4, some .int, [], mk_492, []) := rfl
theorem cg_492_50 (hd : 1 ≤ d) (hS : mz_extR S 342) (hR : mz_rok R 342)  (s1 : Bool) (v1 : Int32) (v2 : Int32) (v3 : Int32) (N : mz_N) {C0 : (Int32 × mz_N) → Prop} (hr : ∀ (w : Int32) (N2 : mz_N), C0 (w, N2) → Q (.inl (some (.int w))) (mz_k S R N2 b t)) (hp : cp_492_50 s1 v1 v2 v3 N) (hC : C0 (cf_492_50 s1 v1 v2 v3 N)) : mz_G (d, mz_X0 L xs, some .int, [], mk_492, 4, Q) 50 mt_492_50 [(0, .ref 232), (1, .int v1), (2, .int v2), (3, .int v3)] [.int (mz_b01 s1), .ref 232] false (mz_k S R N b t) := by
  unfold cf_492_50 at hC
  unfold cp_492_50 at hp
  refine g_iconst mzi_1 ?_
  obtain ⟨h1, hp⟩ := hp
  refine g_v3v (Nat.le_of_ble_eq_true rfl) (mz_at hS (Nat.le_of_ble_eq_true rfl) mzcS_232) (fun _ hq => cs_462 (Nat.le_trans (Nat.le_of_ble_eq_true rfl) hd) (hS.le (Nat.le_of_ble_eq_true rfl)) (hR.le (Nat.le_of_ble_eq_true rfl))  s1 true N h1 hq) ?_
  refine g_zeq (tg := 59) rfl ms_492_59 hC (fun h2 hC => ?_) (fun h2 hC => ?_)
  · have hp := hp.1 h2
    refine g_iconst mzi_0 ?_
    exact g_iret rfl (hr _ _ hC)
  · have hp := hp.2 h2
    refine g_aload_n rfl (g_getR (mz_at hS (Nat.le_of_ble_eq_true rfl) mzcS_232) mzcf_12_11 (mz_rb hR (Nat.le_of_ble_eq_true rfl) rfl mzcR_232_11) (g_iconst mzi_4 (g_bipush mzb_40 (g_iload_n rfl (g_imul (g_iload_n rfl (g_iadd ?_)))))))
    refine g_imul (g_iload_n rfl (g_iadd ?_))
    have h3 := hp
    refine g_iald hS.1 (mz_at hS (Nat.le_of_ble_eq_true rfl) mzcS_239) h3 ?_
    exact g_iret rfl (hr _ _ hC)
theorem cg_492_49 (hd : 1 ≤ d) (hS : mz_extR S 342) (hR : mz_rok R 342)  (v1 : Int32) (v2 : Int32) (v3 : Int32) (N : mz_N) {C0 : (Int32 × mz_N) → Prop} (hr : ∀ (w : Int32) (N2 : mz_N), C0 (w, N2) → Q (.inl (some (.int w))) (mz_k S R N2 b t)) (hp : cp_492_49 v1 v2 v3 N) (hC : C0 (cf_492_49 v1 v2 v3 N)) : mz_G (d, mz_X0 L xs, some .int, [], mk_492, 4, Q) 49 mt_492_49 [(0, .ref 232), (1, .int v1), (2, .int v2), (3, .int v3)] [.ref 232] false (mz_k S R N b t) := by
  unfold cf_492_49 at hC
  unfold cp_492_49 at hp
  refine g_iconst mzi_0 ?_
  refine g_weak ?_ (g_cl (cg_492_50 hd hS hR false v1 v2 v3 N hr hp hC))
  exact ⟨rfl, rfl, rfl, rfl, trivial⟩
theorem cg_492_0 (hd : 1 ≤ d) (hS : mz_extR S 342) (hR : mz_rok R 342)  (v1 : Int32) (v2 : Int32) (v3 : Int32) (N : mz_N) {C0 : (Int32 × mz_N) → Prop} (hr : ∀ (w : Int32) (N2 : mz_N), C0 (w, N2) → Q (.inl (some (.int w))) (mz_k S R N2 b t)) (hp : cp_492_0 v1 v2 v3 N) (hC : C0 (cf_492_0 v1 v2 v3 N)) : mz_G (d, mz_X0 L xs, some .int, [], mk_492, 4, Q) 0 mk_492 [(0, .ref 232), (1, .int v1), (2, .int v2), (3, .int v3)] [] true (mz_k S R N b t) := by
  unfold cf_492_0 at hC
  unfold cp_492_0 at hp
  refine g_aload_n rfl (g_iload_n rfl (g_i2l (g_lconst mzl_0 (g_aload_n rfl (g_getI (mz_at hS (Nat.le_of_ble_eq_true rfl) mzcS_232) mzcf_12_7 (g_iconst mzi_1 (g_isub ?_)))))))
  refine g_i2l ?_
  refine g_s3v (Nat.le_of_ble_eq_true rfl) (fun _ hq => cs_466 (Nat.le_trans (Nat.le_of_ble_eq_true rfl) hd) (hS.le (Nat.le_of_ble_eq_true rfl)) (hR.le (Nat.le_of_ble_eq_true rfl))  v1.toInt64 0 (((N.1 232 7) - 1).toInt64) trivial hq) ?_
  refine g_zeq (tg := 49) rfl ms_492_49 hC (fun h2 hC => ?_) (fun h2 hC => ?_)
  · have hp := hp.1 h2
    refine g_iload_n rfl (g_i2l (g_lconst mzl_0 (g_aload_n rfl (g_getI (mz_at hS (Nat.le_of_ble_eq_true rfl) mzcS_232) mzcf_12_7 (g_iconst mzi_1 (g_isub (g_i2l ?_)))))))
    refine g_s3v (Nat.le_of_ble_eq_true rfl) (fun _ hq => cs_466 (Nat.le_trans (Nat.le_of_ble_eq_true rfl) hd) (hS.le (Nat.le_of_ble_eq_true rfl)) (hR.le (Nat.le_of_ble_eq_true rfl))  v2.toInt64 0 (((N.1 232 7) - 1).toInt64) trivial hq) ?_
    refine g_zeq (tg := 49) rfl ms_492_49 hC (fun h4 hC => ?_) (fun h4 hC => ?_)
    · have hp := hp.1 h4
      refine g_iload_n rfl (g_i2l (g_lconst mzl_0 (g_con3 ?_)))
      refine g_s3v (Nat.le_of_ble_eq_true rfl) (fun _ hq => cs_466 (Nat.le_trans (Nat.le_of_ble_eq_true rfl) hd) (hS.le (Nat.le_of_ble_eq_true rfl)) (hR.le (Nat.le_of_ble_eq_true rfl))  v3.toInt64 0 3 trivial hq) ?_
      refine g_zeq (tg := 49) rfl ms_492_49 hC (fun h6 hC => ?_) (fun h6 hC => ?_)
      · have hp := hp.1 h6
        refine g_iconst mzi_1 (g_goto (tg := 50) rfl ms_492_50 ?_)
        refine g_weak ?_ (g_cl (cg_492_50 hd hS hR true v1 v2 v3 N hr hp hC))
        exact ⟨rfl, rfl, rfl, rfl, trivial⟩
      · have hp := hp.2 h6
        refine g_weak ?_ (g_cl (cg_492_49 hd hS hR v1 v2 v3 N hr hp hC))
        exact ⟨rfl, rfl, rfl, rfl, trivial⟩
    · have hp := hp.2 h4
      refine g_weak ?_ (g_cl (cg_492_49 hd hS hR v1 v2 v3 N hr hp hC))
      exact ⟨rfl, rfl, rfl, rfl, trivial⟩
  · have hp := hp.2 h2
    refine g_weak ?_ (g_cl (cg_492_49 hd hS hR v1 v2 v3 N hr hp hC))
    exact ⟨rfl, rfl, rfl, rfl, trivial⟩
theorem cs_492 (hd : 2 ≤ d) (hS : mz_extR S 342) (hR : mz_rok R 342)  (v1 : Int32) (v2 : Int32) (v3 : Int32) (N : mz_N) (hp : cp_492_0 v1 v2 v3 N) (hq : Q (.inl (some (.int ((cf_492_0 v1 v2 v3 N).1)))) (mz_k S R ((cf_492_0 v1 v2 v3 N).2) b t)) : mz_Ed (mz_X0 L xs) d 492 [.ref 232, .int v1, .int v2, .int v3] (mz_k S R N b t) Q :=
  by
  refine g_in mzq_492 (Nat.le_of_ble_eq_true rfl) (Nat.le_of_ble_eq_true rfl) (Nat.le_trans (Nat.le_of_ble_eq_true rfl) hd) ?_
  refine g_weak ?_ (cg_492_0 (d := d - 1) (by omega) hS hR v1 v2 v3 N (C0 := fun z => Q (.inl (some (.int z.1))) (mz_k S R z.2 b t)) (fun _ _ h => h) hp hq)
  exact ⟨rfl, rfl, rfl, rfl, trivial⟩
/-! 494 KeptHouseModel.writeOne (II)Z -/
theorem ms_494_0 : mz_sf mk_494 0 = mk_494 := mz_sf_zero _
set_option maxRecDepth 100000 in
theorem mzq_494 : mz_PG0 494 = some (12, ⟨"KeptHouseModel", "writeOne", "(II)Z"⟩, prog_14_method_164_code, 3, some .boolean, [], mk_494, []) := rfl
theorem cg_494_0 (hd : 5 ≤ d) (hS : mz_extR S 342) (hR : mz_rok R 342)  (v1 : Int32) (v2 : Int32) (N : mz_N) {C0 : (Bool × mz_N) → Prop} (hr : ∀ (w : Bool) (N2 : mz_N), C0 (w, N2) → Q (.inl (some (.int (mz_b01 w)))) (mz_k S R N2 b t)) (hp : cp_494_0 v1 v2 N) (hC : C0 (cf_494_0 v1 v2 N)) : mz_G (d, mz_X0 L xs, some .boolean, [], mk_494, 3, Q) 0 mk_494 [(0, .ref 232), (1, .int v1), (2, .int v2)] [] true (mz_k S R N b t) := by
  unfold cf_494_0 at hC
  unfold cp_494_0 at hp
  refine g_aload_n rfl ?_
  refine g_v1n (Nat.le_of_ble_eq_true rfl) (mz_at hS (Nat.le_of_ble_eq_true rfl) mzcS_232) (fun _ hq => cs_471 (Nat.le_trans (Nat.le_of_ble_eq_true rfl) hd) (hS.le (Nat.le_of_ble_eq_true rfl)) (hR.le (Nat.le_of_ble_eq_true rfl))  N trivial hq) (g_aload_n rfl (g_iload_n rfl (g_iload_n rfl ?_)))
  obtain ⟨h2, hp⟩ := hp
  refine g_v3n (Nat.le_of_ble_eq_true rfl) (mz_at hS (Nat.le_of_ble_eq_true rfl) mzcS_232) (fun _ hq => cs_472 (Nat.le_trans (Nat.le_of_ble_eq_true rfl) hd) (hS.le (Nat.le_of_ble_eq_true rfl)) (hR.le (Nat.le_of_ble_eq_true rfl))  v1 v2 (cf_471_0 N) h2 hq) (g_aload_n rfl ?_)
  have h3 := hp
  refine g_v1v (Nat.le_of_ble_eq_true rfl) (mz_at hS (Nat.le_of_ble_eq_true rfl) mzcS_232) (fun _ hq => cs_474 (Nat.le_trans (Nat.le_of_ble_eq_true rfl) hd) (hS.le (Nat.le_of_ble_eq_true rfl)) (hR.le (Nat.le_of_ble_eq_true rfl))  (cf_472_0 v1 v2 (cf_471_0 N)) h3 hq) ?_
  exact g_zret (z := ((cf_474_0 (cf_472_0 v1 v2 (cf_471_0 N))).1)) rfl (hr _ _ hC)
theorem cs_494 (hd : 6 ≤ d) (hS : mz_extR S 342) (hR : mz_rok R 342)  (v1 : Int32) (v2 : Int32) (N : mz_N) (hp : cp_494_0 v1 v2 N) (hq : Q (.inl (some (.int (mz_b01 ((cf_494_0 v1 v2 N).1))))) (mz_k S R ((cf_494_0 v1 v2 N).2) b t)) : mz_Ed (mz_X0 L xs) d 494 [.ref 232, .int v1, .int v2] (mz_k S R N b t) Q :=
  by
  refine g_in mzq_494 (Nat.le_of_ble_eq_true rfl) (Nat.le_of_ble_eq_true rfl) (Nat.le_trans (Nat.le_of_ble_eq_true rfl) hd) ?_
  refine g_weak ?_ (cg_494_0 (d := d - 1) (by omega) hS hR v1 v2 N (C0 := fun z => Q (.inl (some (.int (mz_b01 z.1)))) (mz_k S R z.2 b t)) (fun _ _ h => h) hp hq)
  exact ⟨rfl, rfl, rfl, trivial⟩
/-! 493 KeptHouseModel.flat (III)I -/
theorem ms_493_0 : mz_sf mk_493 0 = mk_493 := mz_sf_zero _
theorem ms_493_27 : mz_sf mk_493 27 = mt_493_27 := mz_sf_add ms_493_0 (t := 27) rfl rfl
theorem ms_493_31 : mz_sf mk_493 31 = mt_493_31 := mz_sf_add ms_493_27 (t := 4) rfl rfl
theorem ms_493_32 : mz_sf mk_493 32 = mt_493_32 := mz_sf_add ms_493_31 (t := 1) rfl rfl
theorem ms_493_41 : mz_sf mk_493 41 = mt_493_41 := mz_sf_add ms_493_32 (t := 9) rfl rfl
theorem ms_493_66 : mz_sf mk_493 66 = mt_493_66 := mz_sf_add ms_493_41 (t := 25) rfl rfl
theorem ms_493_84 : mz_sf mk_493 84 = mt_493_84 := mz_sf_add ms_493_66 (t := 18) rfl rfl
theorem ms_493_87 : mz_sf mk_493 87 = mt_493_87 := mz_sf_add ms_493_84 (t := 3) rfl rfl
set_option maxRecDepth 100000 in
theorem mzq_493 : mz_PG0 493 = some (12, ⟨"KeptHouseModel", "flat", "(III)I"⟩, prog_14_method_39_code, 5, some .int, [], mk_493, []) := rfl
theorem cg_493_84 (hd : 6 ≤ d) (hS : mz_extR S 342) (hR : mz_rok R 342)  (N : mz_N) {C0 : (Int32 × mz_N) → Prop} (hr : ∀ (w : Int32) (N2 : mz_N), C0 (w, N2) → Q (.inl (some (.int w))) (mz_k S R N2 b t)) (hp : cp_493_84 N) (hC : C0 (cf_493_84 N)) : mz_G (d, mz_X0 L xs, some .int, [], mk_493, 5, Q) 84 mt_493_84 [] [] false (mz_k S R N b t) := by
  unfold cf_493_84 at hC
  unfold cp_493_84 at hp
  refine g_sipush mzs_m1001 ?_
  exact g_iret rfl (hr _ _ hC)
theorem cg_493_32 (hd : 6 ≤ d) (hS : mz_extR S 342) (hR : mz_rok R 342)  (s1 : Bool) (v1 : Int32) (v2 : Int32) (v3 : Int32) (N : mz_N) {C0 : (Int32 × mz_N) → Prop} (hr : ∀ (w : Int32) (N2 : mz_N), C0 (w, N2) → Q (.inl (some (.int w))) (mz_k S R N2 b t)) (hp : cp_493_32 s1 v1 v2 v3 N) (hC : C0 (cf_493_32 s1 v1 v2 v3 N)) : mz_G (d, mz_X0 L xs, some .int, [], mk_493, 5, Q) 32 mt_493_32 [(0, .ref 232), (1, .int v1), (2, .int v2), (3, .int v3)] [.int (mz_b01 s1), .ref 232] false (mz_k S R N b t) := by
  unfold cf_493_32 at hC
  unfold cp_493_32 at hp
  refine g_iconst mzi_1 ?_
  obtain ⟨h1, hp⟩ := hp
  refine g_v3v (Nat.le_of_ble_eq_true rfl) (mz_at hS (Nat.le_of_ble_eq_true rfl) mzcS_232) (fun _ hq => cs_462 (Nat.le_trans (Nat.le_of_ble_eq_true rfl) hd) (hS.le (Nat.le_of_ble_eq_true rfl)) (hR.le (Nat.le_of_ble_eq_true rfl))  s1 true N h1 hq) ?_
  refine g_zeq (tg := 41) rfl ms_493_41 hC (fun h2 hC => ?_) (fun h2 hC => ?_)
  · have hp := hp.1 h2
    refine g_iconst mzi_0 ?_
    exact g_iret rfl (hr _ _ hC)
  · have hp := hp.2 h2
    refine g_aload_n rfl (g_getR (mz_at hS (Nat.le_of_ble_eq_true rfl) mzcS_232) mzcf_12_5 (mz_rb hR (Nat.le_of_ble_eq_true rfl) rfl mzcR_232_5) (g_bipush mzb_48 (g_iload_n rfl (g_imul (g_iload_n rfl (g_iadd ?_))))))
    obtain ⟨h3, hp⟩ := hp
    refine g_iald hS.1 (mz_at hS (Nat.le_of_ble_eq_true rfl) mzcS_234) h3 (g_istore (Nat.le_of_ble_eq_true rfl) rfl (g_aload_n rfl (g_getR (mz_at hS (Nat.le_of_ble_eq_true rfl) mzcS_232) mzcf_12_5 (mz_rb hR (Nat.le_of_ble_eq_true rfl) rfl mzcR_232_5) (g_bipush mzb_48 (g_iload_n rfl (g_imul (g_iload_n rfl ?_)))))))
    refine g_iadd (g_iload_n rfl ?_)
    obtain ⟨h4, hp⟩ := hp
    refine g_iast (mz_at hS (Nat.le_of_ble_eq_true rfl) mzcS_234) h4 (g_aload_n rfl ?_)
    obtain ⟨h5, hp⟩ := hp
    refine g_v1n (Nat.le_of_ble_eq_true rfl) (mz_at hS (Nat.le_of_ble_eq_true rfl) mzcS_232) (fun _ hq => cs_435 (Nat.le_trans (Nat.le_of_ble_eq_true rfl) hd) (hS.le (Nat.le_of_ble_eq_true rfl)) (hR.le (Nat.le_of_ble_eq_true rfl))  (mz_wI ((cf_462_0 s1 true N).2) 234 ((48 * v1) + v2) v3) h5 hq) (g_aload_n rfl (g_iconst mzi_2 (g_iload_n rfl ?_)))
    obtain ⟨h6, hp⟩ := hp
    refine g_v3v (Nat.le_of_ble_eq_true rfl) (mz_at hS (Nat.le_of_ble_eq_true rfl) mzcS_232) (fun _ hq => cs_494 (Nat.le_trans (Nat.le_of_ble_eq_true rfl) hd) (hS.le (Nat.le_of_ble_eq_true rfl)) (hR.le (Nat.le_of_ble_eq_true rfl))  2 v1 (cf_435_0 (mz_wI ((cf_462_0 s1 true N).2) 234 ((48 * v1) + v2) v3)) h6 hq) ?_
    refine g_zeq (tg := 84) rfl ms_493_84 hC (fun h7 hC => ?_) (fun h7 hC => ?_)
    · have hp := hp.1 h7
      refine g_iload rfl (g_goto (tg := 87) rfl ms_493_87 ?_)
      exact g_iret rfl (hr _ _ hC)
    · have hp := hp.2 h7
      refine g_weak ?_ (g_cl (cg_493_84 hd hS hR ((cf_494_0 2 v1 (cf_435_0 (mz_wI ((cf_462_0 s1 true N).2) 234 ((48 * v1) + v2) v3))).2) hr hp hC))
      exact trivial
theorem cg_493_27 (hd : 6 ≤ d) (hS : mz_extR S 342) (hR : mz_rok R 342)  (v1 : Int32) (v2 : Int32) (v3 : Int32) (N : mz_N) {C0 : (Int32 × mz_N) → Prop} (hr : ∀ (w : Int32) (N2 : mz_N), C0 (w, N2) → Q (.inl (some (.int w))) (mz_k S R N2 b t)) (hp : cp_493_27 v1 v2 v3 N) (hC : C0 (cf_493_27 v1 v2 v3 N)) : mz_G (d, mz_X0 L xs, some .int, [], mk_493, 5, Q) 27 mt_493_27 [(0, .ref 232), (1, .int v1), (2, .int v2), (3, .int v3)] [.ref 232] false (mz_k S R N b t) := by
  unfold cf_493_27 at hC
  unfold cp_493_27 at hp
  refine g_iconst mzi_1 (g_goto (tg := 32) rfl ms_493_32 ?_)
  refine g_weak ?_ (g_cl (cg_493_32 hd hS hR true v1 v2 v3 N hr hp hC))
  exact ⟨rfl, rfl, rfl, rfl, trivial⟩
theorem cg_493_31 (hd : 6 ≤ d) (hS : mz_extR S 342) (hR : mz_rok R 342)  (v1 : Int32) (v2 : Int32) (v3 : Int32) (N : mz_N) {C0 : (Int32 × mz_N) → Prop} (hr : ∀ (w : Int32) (N2 : mz_N), C0 (w, N2) → Q (.inl (some (.int w))) (mz_k S R N2 b t)) (hp : cp_493_31 v1 v2 v3 N) (hC : C0 (cf_493_31 v1 v2 v3 N)) : mz_G (d, mz_X0 L xs, some .int, [], mk_493, 5, Q) 31 mt_493_31 [(0, .ref 232), (1, .int v1), (2, .int v2), (3, .int v3)] [.ref 232] false (mz_k S R N b t) := by
  unfold cf_493_31 at hC
  unfold cp_493_31 at hp
  refine g_iconst mzi_0 ?_
  refine g_weak ?_ (g_cl (cg_493_32 hd hS hR false v1 v2 v3 N hr hp hC))
  exact ⟨rfl, rfl, rfl, rfl, trivial⟩
theorem cg_493_0 (hd : 6 ≤ d) (hS : mz_extR S 342) (hR : mz_rok R 342)  (v1 : Int32) (v2 : Int32) (v3 : Int32) (N : mz_N) {C0 : (Int32 × mz_N) → Prop} (hr : ∀ (w : Int32) (N2 : mz_N), C0 (w, N2) → Q (.inl (some (.int w))) (mz_k S R N2 b t)) (hp : cp_493_0 v1 v2 v3 N) (hC : C0 (cf_493_0 v1 v2 v3 N)) : mz_G (d, mz_X0 L xs, some .int, [], mk_493, 5, Q) 0 mk_493 [(0, .ref 232), (1, .int v1), (2, .int v2), (3, .int v3)] [] true (mz_k S R N b t) := by
  unfold cf_493_0 at hC
  unfold cp_493_0 at hp
  refine g_aload_n rfl (g_iload_n rfl (g_iload_n rfl ?_))
  refine g_s2v (Nat.le_of_ble_eq_true rfl) (fun _ hq => cs_491 (Nat.le_trans (Nat.le_of_ble_eq_true rfl) hd) (hS.le (Nat.le_of_ble_eq_true rfl)) (hR.le (Nat.le_of_ble_eq_true rfl))  v1 v2 trivial hq) ?_
  refine g_zeq (tg := 31) rfl ms_493_31 hC (fun h2 hC => ?_) (fun h2 hC => ?_)
  · have hp := hp.1 h2
    refine g_iload_n rfl (g_i2l (g_lconst mzl_0 (g_con3 ?_)))
    refine g_s3v (Nat.le_of_ble_eq_true rfl) (fun _ hq => cs_466 (Nat.le_trans (Nat.le_of_ble_eq_true rfl) hd) (hS.le (Nat.le_of_ble_eq_true rfl)) (hR.le (Nat.le_of_ble_eq_true rfl))  v3.toInt64 0 9 trivial hq) ?_
    refine g_zne (tg := 27) rfl ms_493_27 hC (fun h4 hC => ?_) (fun h4 hC => ?_)
    · have hp := hp.1 h4
      refine g_weak ?_ (g_cl (cg_493_27 hd hS hR v1 v2 v3 N hr hp hC))
      exact ⟨rfl, rfl, rfl, rfl, trivial⟩
    · have hp := hp.2 h4
      refine g_iload_n rfl (g_bipush mzb_15 ?_)
      refine g_icne (tg := 31) rfl ms_493_31 hC (fun h5 hC => ?_) (fun h5 hC => ?_)
      · have hp := hp.1 h5
        refine g_weak ?_ (g_cl (cg_493_27 hd hS hR v1 v2 v3 N hr hp hC))
        exact ⟨rfl, rfl, rfl, rfl, trivial⟩
      · have hp := hp.2 h5
        refine g_weak ?_ (g_cl (cg_493_31 hd hS hR v1 v2 v3 N hr hp hC))
        exact ⟨rfl, rfl, rfl, rfl, trivial⟩
  · have hp := hp.2 h2
    refine g_weak ?_ (g_cl (cg_493_31 hd hS hR v1 v2 v3 N hr hp hC))
    exact ⟨rfl, rfl, rfl, rfl, trivial⟩
theorem cs_493 (hd : 7 ≤ d) (hS : mz_extR S 342) (hR : mz_rok R 342)  (v1 : Int32) (v2 : Int32) (v3 : Int32) (N : mz_N) (hp : cp_493_0 v1 v2 v3 N) (hq : Q (.inl (some (.int ((cf_493_0 v1 v2 v3 N).1)))) (mz_k S R ((cf_493_0 v1 v2 v3 N).2) b t)) : mz_Ed (mz_X0 L xs) d 493 [.ref 232, .int v1, .int v2, .int v3] (mz_k S R N b t) Q :=
  by
  refine g_in mzq_493 (Nat.le_of_ble_eq_true rfl) (Nat.le_of_ble_eq_true rfl) (Nat.le_trans (Nat.le_of_ble_eq_true rfl) hd) ?_
  refine g_weak ?_ (cg_493_0 (d := d - 1) (by omega) hS hR v1 v2 v3 N (C0 := fun z => Q (.inl (some (.int z.1))) (mz_k S R z.2 b t)) (fun _ _ h => h) hp hq)
  exact ⟨rfl, rfl, rfl, rfl, trivial⟩
/-! 495 KeptHouseModel.people (III)I -/
theorem ms_495_0 : mz_sf mk_495 0 = mk_495 := mz_sf_zero _
theorem ms_495_41 : mz_sf mk_495 41 = mt_495_41 := mz_sf_add ms_495_0 (t := 41) rfl rfl
theorem ms_495_42 : mz_sf mk_495 42 = mt_495_42 := mz_sf_add ms_495_41 (t := 1) rfl rfl
theorem ms_495_51 : mz_sf mk_495 51 = mt_495_51 := mz_sf_add ms_495_42 (t := 9) rfl rfl
theorem ms_495_76 : mz_sf mk_495 76 = mt_495_76 := mz_sf_add ms_495_51 (t := 25) rfl rfl
theorem ms_495_90 : mz_sf mk_495 90 = mt_495_90 := mz_sf_add ms_495_76 (t := 14) rfl rfl
theorem ms_495_93 : mz_sf mk_495 93 = mt_495_93 := mz_sf_add ms_495_90 (t := 3) rfl rfl
set_option maxRecDepth 100000 in
theorem mzq_495 : mz_PG0 495 = some (12, ⟨"KeptHouseModel", "people", "(III)I"⟩, prog_14_method_40_code, 5, some .int, [], mk_495, []) := rfl
theorem cg_495_90 (hd : 6 ≤ d) (hS : mz_extR S 342) (hR : mz_rok R 342)  (N : mz_N) {C0 : (Int32 × mz_N) → Prop} (hr : ∀ (w : Int32) (N2 : mz_N), C0 (w, N2) → Q (.inl (some (.int w))) (mz_k S R N2 b t)) (hp : cp_495_90 N) (hC : C0 (cf_495_90 N)) : mz_G (d, mz_X0 L xs, some .int, [], mk_495, 5, Q) 90 mt_495_90 [] [] false (mz_k S R N b t) := by
  unfold cf_495_90 at hC
  unfold cp_495_90 at hp
  refine g_sipush mzs_m1001 ?_
  exact g_iret rfl (hr _ _ hC)
theorem cg_495_42 (hd : 6 ≤ d) (hS : mz_extR S 342) (hR : mz_rok R 342)  (s1 : Bool) (v1 : Int32) (v2 : Int32) (v3 : Int32) (N : mz_N) {C0 : (Int32 × mz_N) → Prop} (hr : ∀ (w : Int32) (N2 : mz_N), C0 (w, N2) → Q (.inl (some (.int w))) (mz_k S R N2 b t)) (hp : cp_495_42 s1 v1 v2 v3 N) (hC : C0 (cf_495_42 s1 v1 v2 v3 N)) : mz_G (d, mz_X0 L xs, some .int, [], mk_495, 5, Q) 42 mt_495_42 [(0, .ref 232), (1, .int v1), (2, .int v2), (3, .int v3)] [.int (mz_b01 s1), .ref 232] false (mz_k S R N b t) := by
  unfold cf_495_42 at hC
  unfold cp_495_42 at hp
  refine g_iconst mzi_1 ?_
  obtain ⟨h1, hp⟩ := hp
  refine g_v3v (Nat.le_of_ble_eq_true rfl) (mz_at hS (Nat.le_of_ble_eq_true rfl) mzcS_232) (fun _ hq => cs_462 (Nat.le_trans (Nat.le_of_ble_eq_true rfl) hd) (hS.le (Nat.le_of_ble_eq_true rfl)) (hR.le (Nat.le_of_ble_eq_true rfl))  s1 true N h1 hq) ?_
  refine g_zeq (tg := 51) rfl ms_495_51 hC (fun h2 hC => ?_) (fun h2 hC => ?_)
  · have hp := hp.1 h2
    refine g_iconst mzi_0 ?_
    exact g_iret rfl (hr _ _ hC)
  · have hp := hp.2 h2
    refine g_aload_n rfl (g_getR (mz_at hS (Nat.le_of_ble_eq_true rfl) mzcS_232) mzcf_12_16 (mz_rb hR (Nat.le_of_ble_eq_true rfl) rfl mzcR_232_16) (g_bipush mzb_24 (g_iload_n rfl (g_imul (g_iload_n rfl (g_iadd ?_))))))
    obtain ⟨h3, hp⟩ := hp
    refine g_iald hS.1 (mz_at hS (Nat.le_of_ble_eq_true rfl) mzcS_244) h3 (g_istore (Nat.le_of_ble_eq_true rfl) rfl (g_aload_n rfl (g_getR (mz_at hS (Nat.le_of_ble_eq_true rfl) mzcS_232) mzcf_12_16 (mz_rb hR (Nat.le_of_ble_eq_true rfl) rfl mzcR_232_16) (g_bipush mzb_24 (g_iload_n rfl (g_imul (g_iload_n rfl ?_)))))))
    refine g_iadd (g_iload_n rfl ?_)
    obtain ⟨h4, hp⟩ := hp
    refine g_iast (mz_at hS (Nat.le_of_ble_eq_true rfl) mzcS_244) h4 (g_aload_n rfl (g_iconst mzi_3 (g_iload_n rfl ?_)))
    obtain ⟨h5, hp⟩ := hp
    refine g_v3v (Nat.le_of_ble_eq_true rfl) (mz_at hS (Nat.le_of_ble_eq_true rfl) mzcS_232) (fun _ hq => cs_494 (Nat.le_trans (Nat.le_of_ble_eq_true rfl) hd) (hS.le (Nat.le_of_ble_eq_true rfl)) (hR.le (Nat.le_of_ble_eq_true rfl))  3 v1 (mz_wI ((cf_462_0 s1 true N).2) 244 ((24 * v1) + v2) v3) h5 hq) ?_
    refine g_zeq (tg := 90) rfl ms_495_90 hC (fun h6 hC => ?_) (fun h6 hC => ?_)
    · have hp := hp.1 h6
      refine g_iload rfl (g_goto (tg := 93) rfl ms_495_93 ?_)
      exact g_iret rfl (hr _ _ hC)
    · have hp := hp.2 h6
      refine g_weak ?_ (g_cl (cg_495_90 hd hS hR ((cf_494_0 3 v1 (mz_wI ((cf_462_0 s1 true N).2) 244 ((24 * v1) + v2) v3)).2) hr hp hC))
      exact trivial
theorem cg_495_41 (hd : 6 ≤ d) (hS : mz_extR S 342) (hR : mz_rok R 342)  (v1 : Int32) (v2 : Int32) (v3 : Int32) (N : mz_N) {C0 : (Int32 × mz_N) → Prop} (hr : ∀ (w : Int32) (N2 : mz_N), C0 (w, N2) → Q (.inl (some (.int w))) (mz_k S R N2 b t)) (hp : cp_495_41 v1 v2 v3 N) (hC : C0 (cf_495_41 v1 v2 v3 N)) : mz_G (d, mz_X0 L xs, some .int, [], mk_495, 5, Q) 41 mt_495_41 [(0, .ref 232), (1, .int v1), (2, .int v2), (3, .int v3)] [.ref 232] false (mz_k S R N b t) := by
  unfold cf_495_41 at hC
  unfold cp_495_41 at hp
  refine g_iconst mzi_0 ?_
  refine g_weak ?_ (g_cl (cg_495_42 hd hS hR false v1 v2 v3 N hr hp hC))
  exact ⟨rfl, rfl, rfl, rfl, trivial⟩
theorem cg_495_0 (hd : 6 ≤ d) (hS : mz_extR S 342) (hR : mz_rok R 342)  (v1 : Int32) (v2 : Int32) (v3 : Int32) (N : mz_N) {C0 : (Int32 × mz_N) → Prop} (hr : ∀ (w : Int32) (N2 : mz_N), C0 (w, N2) → Q (.inl (some (.int w))) (mz_k S R N2 b t)) (hp : cp_495_0 v1 v2 v3 N) (hC : C0 (cf_495_0 v1 v2 v3 N)) : mz_G (d, mz_X0 L xs, some .int, [], mk_495, 5, Q) 0 mk_495 [(0, .ref 232), (1, .int v1), (2, .int v2), (3, .int v3)] [] true (mz_k S R N b t) := by
  unfold cf_495_0 at hC
  unfold cp_495_0 at hp
  refine g_aload_n rfl (g_iload_n rfl (g_i2l (g_lconst mzl_0 (g_con3 ?_))))
  refine g_s3v (Nat.le_of_ble_eq_true rfl) (fun _ hq => cs_466 (Nat.le_trans (Nat.le_of_ble_eq_true rfl) hd) (hS.le (Nat.le_of_ble_eq_true rfl)) (hR.le (Nat.le_of_ble_eq_true rfl))  v1.toInt64 0 9 trivial hq) ?_
  refine g_zeq (tg := 41) rfl ms_495_41 hC (fun h2 hC => ?_) (fun h2 hC => ?_)
  · have hp := hp.1 h2
    refine g_iload_n rfl (g_i2l (g_lconst mzl_0 (g_con3 ?_)))
    refine g_s3v (Nat.le_of_ble_eq_true rfl) (fun _ hq => cs_466 (Nat.le_trans (Nat.le_of_ble_eq_true rfl) hd) (hS.le (Nat.le_of_ble_eq_true rfl)) (hR.le (Nat.le_of_ble_eq_true rfl))  v2.toInt64 0 23 trivial hq) ?_
    refine g_zeq (tg := 41) rfl ms_495_41 hC (fun h4 hC => ?_) (fun h4 hC => ?_)
    · have hp := hp.1 h4
      refine g_iload_n rfl (g_i2l (g_lconst mzl_0 (g_con3 ?_)))
      refine g_s3v (Nat.le_of_ble_eq_true rfl) (fun _ hq => cs_466 (Nat.le_trans (Nat.le_of_ble_eq_true rfl) hd) (hS.le (Nat.le_of_ble_eq_true rfl)) (hR.le (Nat.le_of_ble_eq_true rfl))  v3.toInt64 0 20 trivial hq) ?_
      refine g_zeq (tg := 41) rfl ms_495_41 hC (fun h6 hC => ?_) (fun h6 hC => ?_)
      · have hp := hp.1 h6
        refine g_iconst mzi_1 (g_goto (tg := 42) rfl ms_495_42 ?_)
        refine g_weak ?_ (g_cl (cg_495_42 hd hS hR true v1 v2 v3 N hr hp hC))
        exact ⟨rfl, rfl, rfl, rfl, trivial⟩
      · have hp := hp.2 h6
        refine g_weak ?_ (g_cl (cg_495_41 hd hS hR v1 v2 v3 N hr hp hC))
        exact ⟨rfl, rfl, rfl, rfl, trivial⟩
    · have hp := hp.2 h4
      refine g_weak ?_ (g_cl (cg_495_41 hd hS hR v1 v2 v3 N hr hp hC))
      exact ⟨rfl, rfl, rfl, rfl, trivial⟩
  · have hp := hp.2 h2
    refine g_weak ?_ (g_cl (cg_495_41 hd hS hR v1 v2 v3 N hr hp hC))
    exact ⟨rfl, rfl, rfl, rfl, trivial⟩
theorem cs_495 (hd : 7 ≤ d) (hS : mz_extR S 342) (hR : mz_rok R 342)  (v1 : Int32) (v2 : Int32) (v3 : Int32) (N : mz_N) (hp : cp_495_0 v1 v2 v3 N) (hq : Q (.inl (some (.int ((cf_495_0 v1 v2 v3 N).1)))) (mz_k S R ((cf_495_0 v1 v2 v3 N).2) b t)) : mz_Ed (mz_X0 L xs) d 495 [.ref 232, .int v1, .int v2, .int v3] (mz_k S R N b t) Q :=
  by
  refine g_in mzq_495 (Nat.le_of_ble_eq_true rfl) (Nat.le_of_ble_eq_true rfl) (Nat.le_trans (Nat.le_of_ble_eq_true rfl) hd) ?_
  refine g_weak ?_ (cg_495_0 (d := d - 1) (by omega) hS hR v1 v2 v3 N (C0 := fun z => Q (.inl (some (.int z.1))) (mz_k S R z.2 b t)) (fun _ _ h => h) hp hq)
  exact ⟨rfl, rfl, rfl, rfl, trivial⟩
/-! 496 KeptHouseModel.weather (II)I -/
theorem ms_496_0 : mz_sf mk_496 0 = mk_496 := mz_sf_zero _
theorem ms_496_31 : mz_sf mk_496 31 = mt_496_31 := mz_sf_add ms_496_0 (t := 31) rfl rfl
theorem ms_496_32 : mz_sf mk_496 32 = mt_496_32 := mz_sf_add ms_496_31 (t := 1) rfl rfl
theorem ms_496_41 : mz_sf mk_496 41 = mt_496_41 := mz_sf_add ms_496_32 (t := 9) rfl rfl
theorem ms_496_67 : mz_sf mk_496 67 = mt_496_67 := mz_sf_add ms_496_41 (t := 26) rfl rfl
theorem ms_496_71 : mz_sf mk_496 71 = mt_496_71 := mz_sf_add ms_496_67 (t := 4) rfl rfl
theorem ms_496_74 : mz_sf mk_496 74 = mt_496_74 := mz_sf_add ms_496_71 (t := 3) rfl rfl
set_option maxRecDepth 100000 in
theorem mzq_496 : mz_PG0 496 = some (12, ⟨"KeptHouseModel", "weather", "(II)I"⟩, prog_14_method_41_code, 4, some .int, [], mk_496, []) := rfl
theorem cg_496_32 (hd : 6 ≤ d) (hS : mz_extR S 342) (hR : mz_rok R 342)  (s1 : Bool) (v1 : Int32) (v2 : Int32) (N : mz_N) {C0 : (Int32 × mz_N) → Prop} (hr : ∀ (w : Int32) (N2 : mz_N), C0 (w, N2) → Q (.inl (some (.int w))) (mz_k S R N2 b t)) (hp : cp_496_32 s1 v1 v2 N) (hC : C0 (cf_496_32 s1 v1 v2 N)) : mz_G (d, mz_X0 L xs, some .int, [], mk_496, 4, Q) 32 mt_496_32 [(0, .ref 232), (1, .int v1), (2, .int v2)] [.int (mz_b01 s1), .ref 232] false (mz_k S R N b t) := by
  unfold cf_496_32 at hC
  unfold cp_496_32 at hp
  refine g_iconst mzi_1 ?_
  obtain ⟨h1, hp⟩ := hp
  refine g_v3v (Nat.le_of_ble_eq_true rfl) (mz_at hS (Nat.le_of_ble_eq_true rfl) mzcS_232) (fun _ hq => cs_462 (Nat.le_trans (Nat.le_of_ble_eq_true rfl) hd) (hS.le (Nat.le_of_ble_eq_true rfl)) (hR.le (Nat.le_of_ble_eq_true rfl))  s1 true N h1 hq) ?_
  refine g_zeq (tg := 41) rfl ms_496_41 hC (fun h2 hC => ?_) (fun h2 hC => ?_)
  · have hp := hp.1 h2
    refine g_iconst mzi_0 ?_
    exact g_iret rfl (hr _ _ hC)
  · have hp := hp.2 h2
    refine g_aload_n rfl (g_getR (mz_at hS (Nat.le_of_ble_eq_true rfl) mzcS_232) mzcf_12_17 (mz_rb hR (Nat.le_of_ble_eq_true rfl) rfl mzcR_232_17) (g_iload_n rfl ?_))
    obtain ⟨h3, hp⟩ := hp
    refine g_iald hS.1 (mz_at hS (Nat.le_of_ble_eq_true rfl) mzcS_245) h3 (g_istore_n (Nat.le_of_ble_eq_true rfl) rfl (g_aload_n rfl (g_getR (mz_at hS (Nat.le_of_ble_eq_true rfl) mzcS_232) mzcf_12_17 (mz_rb hR (Nat.le_of_ble_eq_true rfl) rfl mzcR_232_17) (g_iload_n rfl (g_iload_n rfl ?_)))))
    obtain ⟨h4, hp⟩ := hp
    refine g_iast (mz_at hS (Nat.le_of_ble_eq_true rfl) mzcS_245) h4 (g_aload_n rfl (g_iconst mzi_4 (g_iload_n rfl (g_bipush mzb_12 (g_idiv (by decide) ?_)))))
    have h5 := hp
    refine g_v3v (Nat.le_of_ble_eq_true rfl) (mz_at hS (Nat.le_of_ble_eq_true rfl) mzcS_232) (fun _ hq => cs_494 (Nat.le_trans (Nat.le_of_ble_eq_true rfl) hd) (hS.le (Nat.le_of_ble_eq_true rfl)) (hR.le (Nat.le_of_ble_eq_true rfl))  4 (v1 / 12) (mz_wI ((cf_462_0 s1 true N).2) 245 v1 v2) h5 hq) ?_
    refine g_zeq (tg := 71) rfl ms_496_71 hC (fun h6 hC => ?_) (fun h6 hC => ?_)
    · refine g_iload_n rfl (g_goto (tg := 74) rfl ms_496_74 ?_)
      exact g_iret rfl (hr _ _ hC)
    · refine g_sipush mzs_m1001 ?_
      exact g_iret rfl (hr _ _ hC)
theorem cg_496_31 (hd : 6 ≤ d) (hS : mz_extR S 342) (hR : mz_rok R 342)  (v1 : Int32) (v2 : Int32) (N : mz_N) {C0 : (Int32 × mz_N) → Prop} (hr : ∀ (w : Int32) (N2 : mz_N), C0 (w, N2) → Q (.inl (some (.int w))) (mz_k S R N2 b t)) (hp : cp_496_31 v1 v2 N) (hC : C0 (cf_496_31 v1 v2 N)) : mz_G (d, mz_X0 L xs, some .int, [], mk_496, 4, Q) 31 mt_496_31 [(0, .ref 232), (1, .int v1), (2, .int v2)] [.ref 232] false (mz_k S R N b t) := by
  unfold cf_496_31 at hC
  unfold cp_496_31 at hp
  refine g_iconst mzi_0 ?_
  refine g_weak ?_ (g_cl (cg_496_32 hd hS hR false v1 v2 N hr hp hC))
  exact ⟨rfl, rfl, rfl, trivial⟩
theorem cg_496_0 (hd : 6 ≤ d) (hS : mz_extR S 342) (hR : mz_rok R 342)  (v1 : Int32) (v2 : Int32) (N : mz_N) {C0 : (Int32 × mz_N) → Prop} (hr : ∀ (w : Int32) (N2 : mz_N), C0 (w, N2) → Q (.inl (some (.int w))) (mz_k S R N2 b t)) (hp : cp_496_0 v1 v2 N) (hC : C0 (cf_496_0 v1 v2 N)) : mz_G (d, mz_X0 L xs, some .int, [], mk_496, 4, Q) 0 mk_496 [(0, .ref 232), (1, .int v1), (2, .int v2)] [] true (mz_k S R N b t) := by
  unfold cf_496_0 at hC
  unfold cp_496_0 at hp
  refine g_aload_n rfl (g_iload_n rfl (g_i2l (g_lconst mzl_0 (g_con3 ?_))))
  refine g_s3v (Nat.le_of_ble_eq_true rfl) (fun _ hq => cs_466 (Nat.le_trans (Nat.le_of_ble_eq_true rfl) hd) (hS.le (Nat.le_of_ble_eq_true rfl)) (hR.le (Nat.le_of_ble_eq_true rfl))  v1.toInt64 0 23 trivial hq) ?_
  refine g_zeq (tg := 31) rfl ms_496_31 hC (fun h2 hC => ?_) (fun h2 hC => ?_)
  · have hp := hp.1 h2
    refine g_iload_n rfl (g_i2l (g_con3 (g_con3 ?_)))
    refine g_s3v (Nat.le_of_ble_eq_true rfl) (fun _ hq => cs_466 (Nat.le_trans (Nat.le_of_ble_eq_true rfl) hd) (hS.le (Nat.le_of_ble_eq_true rfl)) (hR.le (Nat.le_of_ble_eq_true rfl))  v2.toInt64 (-400) 500 trivial hq) ?_
    refine g_zeq (tg := 31) rfl ms_496_31 hC (fun h4 hC => ?_) (fun h4 hC => ?_)
    · have hp := hp.1 h4
      refine g_iconst mzi_1 (g_goto (tg := 32) rfl ms_496_32 ?_)
      refine g_weak ?_ (g_cl (cg_496_32 hd hS hR true v1 v2 N hr hp hC))
      exact ⟨rfl, rfl, rfl, trivial⟩
    · have hp := hp.2 h4
      refine g_weak ?_ (g_cl (cg_496_31 hd hS hR v1 v2 N hr hp hC))
      exact ⟨rfl, rfl, rfl, trivial⟩
  · have hp := hp.2 h2
    refine g_weak ?_ (g_cl (cg_496_31 hd hS hR v1 v2 N hr hp hC))
    exact ⟨rfl, rfl, rfl, trivial⟩
theorem cs_496 (hd : 7 ≤ d) (hS : mz_extR S 342) (hR : mz_rok R 342)  (v1 : Int32) (v2 : Int32) (N : mz_N) (hp : cp_496_0 v1 v2 N) (hq : Q (.inl (some (.int ((cf_496_0 v1 v2 N).1)))) (mz_k S R ((cf_496_0 v1 v2 N).2) b t)) : mz_Ed (mz_X0 L xs) d 496 [.ref 232, .int v1, .int v2] (mz_k S R N b t) Q :=
  by
  refine g_in mzq_496 (Nat.le_of_ble_eq_true rfl) (Nat.le_of_ble_eq_true rfl) (Nat.le_trans (Nat.le_of_ble_eq_true rfl) hd) ?_
  refine g_weak ?_ (cg_496_0 (d := d - 1) (by omega) hS hR v1 v2 N (C0 := fun z => Q (.inl (some (.int z.1))) (mz_k S R z.2 b t)) (fun _ _ h => h) hp hq)
  exact ⟨rfl, rfl, rfl, trivial⟩
/-! 497 KeptHouseModel.sun (III)I -/
theorem ms_497_0 : mz_sf mk_497 0 = mk_497 := mz_sf_zero _
theorem ms_497_41 : mz_sf mk_497 41 = mt_497_41 := mz_sf_add ms_497_0 (t := 41) rfl rfl
theorem ms_497_42 : mz_sf mk_497 42 = mt_497_42 := mz_sf_add ms_497_41 (t := 1) rfl rfl
theorem ms_497_51 : mz_sf mk_497 51 = mt_497_51 := mz_sf_add ms_497_42 (t := 9) rfl rfl
theorem ms_497_76 : mz_sf mk_497 76 = mt_497_76 := mz_sf_add ms_497_51 (t := 25) rfl rfl
theorem ms_497_90 : mz_sf mk_497 90 = mt_497_90 := mz_sf_add ms_497_76 (t := 14) rfl rfl
theorem ms_497_93 : mz_sf mk_497 93 = mt_497_93 := mz_sf_add ms_497_90 (t := 3) rfl rfl
set_option maxRecDepth 100000 in
theorem mzq_497 : mz_PG0 497 = some (12, ⟨"KeptHouseModel", "sun", "(III)I"⟩, prog_14_method_42_code, 5, some .int, [], mk_497, []) := rfl
theorem cg_497_90 (hd : 6 ≤ d) (hS : mz_extR S 342) (hR : mz_rok R 342)  (N : mz_N) {C0 : (Int32 × mz_N) → Prop} (hr : ∀ (w : Int32) (N2 : mz_N), C0 (w, N2) → Q (.inl (some (.int w))) (mz_k S R N2 b t)) (hp : cp_497_90 N) (hC : C0 (cf_497_90 N)) : mz_G (d, mz_X0 L xs, some .int, [], mk_497, 5, Q) 90 mt_497_90 [] [] false (mz_k S R N b t) := by
  unfold cf_497_90 at hC
  unfold cp_497_90 at hp
  refine g_sipush mzs_m1001 ?_
  exact g_iret rfl (hr _ _ hC)
theorem cg_497_42 (hd : 6 ≤ d) (hS : mz_extR S 342) (hR : mz_rok R 342)  (s1 : Bool) (v1 : Int32) (v2 : Int32) (v3 : Int32) (N : mz_N) {C0 : (Int32 × mz_N) → Prop} (hr : ∀ (w : Int32) (N2 : mz_N), C0 (w, N2) → Q (.inl (some (.int w))) (mz_k S R N2 b t)) (hp : cp_497_42 s1 v1 v2 v3 N) (hC : C0 (cf_497_42 s1 v1 v2 v3 N)) : mz_G (d, mz_X0 L xs, some .int, [], mk_497, 5, Q) 42 mt_497_42 [(0, .ref 232), (1, .int v1), (2, .int v2), (3, .int v3)] [.int (mz_b01 s1), .ref 232] false (mz_k S R N b t) := by
  unfold cf_497_42 at hC
  unfold cp_497_42 at hp
  refine g_iconst mzi_1 ?_
  obtain ⟨h1, hp⟩ := hp
  refine g_v3v (Nat.le_of_ble_eq_true rfl) (mz_at hS (Nat.le_of_ble_eq_true rfl) mzcS_232) (fun _ hq => cs_462 (Nat.le_trans (Nat.le_of_ble_eq_true rfl) hd) (hS.le (Nat.le_of_ble_eq_true rfl)) (hR.le (Nat.le_of_ble_eq_true rfl))  s1 true N h1 hq) ?_
  refine g_zeq (tg := 51) rfl ms_497_51 hC (fun h2 hC => ?_) (fun h2 hC => ?_)
  · have hp := hp.1 h2
    refine g_iconst mzi_0 ?_
    exact g_iret rfl (hr _ _ hC)
  · have hp := hp.2 h2
    refine g_aload_n rfl (g_getR (mz_at hS (Nat.le_of_ble_eq_true rfl) mzcS_232) mzcf_12_18 (mz_rb hR (Nat.le_of_ble_eq_true rfl) rfl mzcR_232_18) (g_bipush mzb_24 (g_iload_n rfl (g_imul (g_iload_n rfl (g_iadd ?_))))))
    obtain ⟨h3, hp⟩ := hp
    refine g_iald hS.1 (mz_at hS (Nat.le_of_ble_eq_true rfl) mzcS_246) h3 (g_istore (Nat.le_of_ble_eq_true rfl) rfl (g_aload_n rfl (g_getR (mz_at hS (Nat.le_of_ble_eq_true rfl) mzcS_232) mzcf_12_18 (mz_rb hR (Nat.le_of_ble_eq_true rfl) rfl mzcR_232_18) (g_bipush mzb_24 (g_iload_n rfl (g_imul (g_iload_n rfl ?_)))))))
    refine g_iadd (g_iload_n rfl ?_)
    obtain ⟨h4, hp⟩ := hp
    refine g_iast (mz_at hS (Nat.le_of_ble_eq_true rfl) mzcS_246) h4 (g_aload_n rfl (g_iconst mzi_5 (g_iload_n rfl ?_)))
    obtain ⟨h5, hp⟩ := hp
    refine g_v3v (Nat.le_of_ble_eq_true rfl) (mz_at hS (Nat.le_of_ble_eq_true rfl) mzcS_232) (fun _ hq => cs_494 (Nat.le_trans (Nat.le_of_ble_eq_true rfl) hd) (hS.le (Nat.le_of_ble_eq_true rfl)) (hR.le (Nat.le_of_ble_eq_true rfl))  5 v1 (mz_wI ((cf_462_0 s1 true N).2) 246 ((24 * v1) + v2) v3) h5 hq) ?_
    refine g_zeq (tg := 90) rfl ms_497_90 hC (fun h6 hC => ?_) (fun h6 hC => ?_)
    · have hp := hp.1 h6
      refine g_iload rfl (g_goto (tg := 93) rfl ms_497_93 ?_)
      exact g_iret rfl (hr _ _ hC)
    · have hp := hp.2 h6
      refine g_weak ?_ (g_cl (cg_497_90 hd hS hR ((cf_494_0 5 v1 (mz_wI ((cf_462_0 s1 true N).2) 246 ((24 * v1) + v2) v3)).2) hr hp hC))
      exact trivial
theorem cg_497_41 (hd : 6 ≤ d) (hS : mz_extR S 342) (hR : mz_rok R 342)  (v1 : Int32) (v2 : Int32) (v3 : Int32) (N : mz_N) {C0 : (Int32 × mz_N) → Prop} (hr : ∀ (w : Int32) (N2 : mz_N), C0 (w, N2) → Q (.inl (some (.int w))) (mz_k S R N2 b t)) (hp : cp_497_41 v1 v2 v3 N) (hC : C0 (cf_497_41 v1 v2 v3 N)) : mz_G (d, mz_X0 L xs, some .int, [], mk_497, 5, Q) 41 mt_497_41 [(0, .ref 232), (1, .int v1), (2, .int v2), (3, .int v3)] [.ref 232] false (mz_k S R N b t) := by
  unfold cf_497_41 at hC
  unfold cp_497_41 at hp
  refine g_iconst mzi_0 ?_
  refine g_weak ?_ (g_cl (cg_497_42 hd hS hR false v1 v2 v3 N hr hp hC))
  exact ⟨rfl, rfl, rfl, rfl, trivial⟩
theorem cg_497_0 (hd : 6 ≤ d) (hS : mz_extR S 342) (hR : mz_rok R 342)  (v1 : Int32) (v2 : Int32) (v3 : Int32) (N : mz_N) {C0 : (Int32 × mz_N) → Prop} (hr : ∀ (w : Int32) (N2 : mz_N), C0 (w, N2) → Q (.inl (some (.int w))) (mz_k S R N2 b t)) (hp : cp_497_0 v1 v2 v3 N) (hC : C0 (cf_497_0 v1 v2 v3 N)) : mz_G (d, mz_X0 L xs, some .int, [], mk_497, 5, Q) 0 mk_497 [(0, .ref 232), (1, .int v1), (2, .int v2), (3, .int v3)] [] true (mz_k S R N b t) := by
  unfold cf_497_0 at hC
  unfold cp_497_0 at hp
  refine g_aload_n rfl (g_iload_n rfl (g_i2l (g_lconst mzl_0 (g_con3 ?_))))
  refine g_s3v (Nat.le_of_ble_eq_true rfl) (fun _ hq => cs_466 (Nat.le_trans (Nat.le_of_ble_eq_true rfl) hd) (hS.le (Nat.le_of_ble_eq_true rfl)) (hR.le (Nat.le_of_ble_eq_true rfl))  v1.toInt64 0 3 trivial hq) ?_
  refine g_zeq (tg := 41) rfl ms_497_41 hC (fun h2 hC => ?_) (fun h2 hC => ?_)
  · have hp := hp.1 h2
    refine g_iload_n rfl (g_i2l (g_lconst mzl_0 (g_con3 ?_)))
    refine g_s3v (Nat.le_of_ble_eq_true rfl) (fun _ hq => cs_466 (Nat.le_trans (Nat.le_of_ble_eq_true rfl) hd) (hS.le (Nat.le_of_ble_eq_true rfl)) (hR.le (Nat.le_of_ble_eq_true rfl))  v2.toInt64 0 23 trivial hq) ?_
    refine g_zeq (tg := 41) rfl ms_497_41 hC (fun h4 hC => ?_) (fun h4 hC => ?_)
    · have hp := hp.1 h4
      refine g_iload_n rfl (g_i2l (g_lconst mzl_0 (g_con3 ?_)))
      refine g_s3v (Nat.le_of_ble_eq_true rfl) (fun _ hq => cs_466 (Nat.le_trans (Nat.le_of_ble_eq_true rfl) hd) (hS.le (Nat.le_of_ble_eq_true rfl)) (hR.le (Nat.le_of_ble_eq_true rfl))  v3.toInt64 0 200 trivial hq) ?_
      refine g_zeq (tg := 41) rfl ms_497_41 hC (fun h6 hC => ?_) (fun h6 hC => ?_)
      · have hp := hp.1 h6
        refine g_iconst mzi_1 (g_goto (tg := 42) rfl ms_497_42 ?_)
        refine g_weak ?_ (g_cl (cg_497_42 hd hS hR true v1 v2 v3 N hr hp hC))
        exact ⟨rfl, rfl, rfl, rfl, trivial⟩
      · have hp := hp.2 h6
        refine g_weak ?_ (g_cl (cg_497_41 hd hS hR v1 v2 v3 N hr hp hC))
        exact ⟨rfl, rfl, rfl, rfl, trivial⟩
    · have hp := hp.2 h4
      refine g_weak ?_ (g_cl (cg_497_41 hd hS hR v1 v2 v3 N hr hp hC))
      exact ⟨rfl, rfl, rfl, rfl, trivial⟩
  · have hp := hp.2 h2
    refine g_weak ?_ (g_cl (cg_497_41 hd hS hR v1 v2 v3 N hr hp hC))
    exact ⟨rfl, rfl, rfl, rfl, trivial⟩
theorem cs_497 (hd : 7 ≤ d) (hS : mz_extR S 342) (hR : mz_rok R 342)  (v1 : Int32) (v2 : Int32) (v3 : Int32) (N : mz_N) (hp : cp_497_0 v1 v2 v3 N) (hq : Q (.inl (some (.int ((cf_497_0 v1 v2 v3 N).1)))) (mz_k S R ((cf_497_0 v1 v2 v3 N).2) b t)) : mz_Ed (mz_X0 L xs) d 497 [.ref 232, .int v1, .int v2, .int v3] (mz_k S R N b t) Q :=
  by
  refine g_in mzq_497 (Nat.le_of_ble_eq_true rfl) (Nat.le_of_ble_eq_true rfl) (Nat.le_trans (Nat.le_of_ble_eq_true rfl) hd) ?_
  refine g_weak ?_ (cg_497_0 (d := d - 1) (by omega) hS hR v1 v2 v3 N (C0 := fun z => Q (.inl (some (.int z.1))) (mz_k S R z.2 b t)) (fun _ _ h => h) hp hq)
  exact ⟨rfl, rfl, rfl, rfl, trivial⟩
/-! 498 KeptHouseModel.rate (III)I -/
theorem ms_498_0 : mz_sf mk_498 0 = mk_498 := mz_sf_zero _
theorem ms_498_41 : mz_sf mk_498 41 = mt_498_41 := mz_sf_add ms_498_0 (t := 41) rfl rfl
theorem ms_498_42 : mz_sf mk_498 42 = mt_498_42 := mz_sf_add ms_498_41 (t := 1) rfl rfl
theorem ms_498_51 : mz_sf mk_498 51 = mt_498_51 := mz_sf_add ms_498_42 (t := 9) rfl rfl
theorem ms_498_73 : mz_sf mk_498 73 = mt_498_73 := mz_sf_add ms_498_51 (t := 22) rfl rfl
theorem ms_498_98 : mz_sf mk_498 98 = mt_498_98 := mz_sf_add ms_498_73 (t := 25) rfl rfl
theorem ms_498_103 : mz_sf mk_498 103 = mt_498_103 := mz_sf_add ms_498_98 (t := 5) rfl rfl
theorem ms_498_106 : mz_sf mk_498 106 = mt_498_106 := mz_sf_add ms_498_103 (t := 3) rfl rfl
set_option maxRecDepth 100000 in
theorem mzq_498 : mz_PG0 498 = some (12, ⟨"KeptHouseModel", "rate", "(III)I"⟩, prog_14_method_43_code, 5, some .int, [], mk_498, []) := rfl
theorem cg_498_98 (hd : 5 ≤ d) (hS : mz_extR S 342) (hR : mz_rok R 342)  (v4 : Int32) (N : mz_N) {C0 : (Int32 × mz_N) → Prop} (hr : ∀ (w : Int32) (N2 : mz_N), C0 (w, N2) → Q (.inl (some (.int w))) (mz_k S R N2 b t)) (hp : cp_498_98 v4 N) (hC : C0 (cf_498_98 v4 N)) : mz_G (d, mz_X0 L xs, some .int, [], mk_498, 5, Q) 98 mt_498_98 [(4, .int v4)] [] false (mz_k S R N b t) := by
  unfold cf_498_98 at hC
  unfold cp_498_98 at hp
  refine g_iload rfl (g_goto (tg := 106) rfl ms_498_106 ?_)
  exact g_iret rfl (hr _ _ hC)
theorem cg_498_103 (hd : 5 ≤ d) (hS : mz_extR S 342) (hR : mz_rok R 342)  (N : mz_N) {C0 : (Int32 × mz_N) → Prop} (hr : ∀ (w : Int32) (N2 : mz_N), C0 (w, N2) → Q (.inl (some (.int w))) (mz_k S R N2 b t)) (hp : cp_498_103 N) (hC : C0 (cf_498_103 N)) : mz_G (d, mz_X0 L xs, some .int, [], mk_498, 5, Q) 103 mt_498_103 [] [] false (mz_k S R N b t) := by
  unfold cf_498_103 at hC
  unfold cp_498_103 at hp
  refine g_sipush mzs_m1001 ?_
  exact g_iret rfl (hr _ _ hC)
theorem cg_498_42 (hd : 5 ≤ d) (hS : mz_extR S 342) (hR : mz_rok R 342)  (s1 : Bool) (v1 : Int32) (v2 : Int32) (v3 : Int32) (N : mz_N) {C0 : (Int32 × mz_N) → Prop} (hr : ∀ (w : Int32) (N2 : mz_N), C0 (w, N2) → Q (.inl (some (.int w))) (mz_k S R N2 b t)) (hp : cp_498_42 s1 v1 v2 v3 N) (hC : C0 (cf_498_42 s1 v1 v2 v3 N)) : mz_G (d, mz_X0 L xs, some .int, [], mk_498, 5, Q) 42 mt_498_42 [(0, .ref 232), (1, .int v1), (2, .int v2), (3, .int v3)] [.int (mz_b01 s1), .ref 232] false (mz_k S R N b t) := by
  unfold cf_498_42 at hC
  unfold cp_498_42 at hp
  refine g_iconst mzi_1 ?_
  obtain ⟨h1, hp⟩ := hp
  refine g_v3v (Nat.le_of_ble_eq_true rfl) (mz_at hS (Nat.le_of_ble_eq_true rfl) mzcS_232) (fun _ hq => cs_462 (Nat.le_trans (Nat.le_of_ble_eq_true rfl) hd) (hS.le (Nat.le_of_ble_eq_true rfl)) (hR.le (Nat.le_of_ble_eq_true rfl))  s1 true N h1 hq) ?_
  refine g_zeq (tg := 51) rfl ms_498_51 hC (fun h2 hC => ?_) (fun h2 hC => ?_)
  · have hp := hp.1 h2
    refine g_iconst mzi_0 ?_
    exact g_iret rfl (hr _ _ hC)
  · have hp := hp.2 h2
    refine g_aload_n rfl (g_getR (mz_at hS (Nat.le_of_ble_eq_true rfl) mzcS_232) mzcf_12_19 (mz_rb hR (Nat.le_of_ble_eq_true rfl) rfl mzcR_232_19) (g_iload_n rfl ?_))
    obtain ⟨h3, hp⟩ := hp
    refine g_iald hS.1 (mz_at hS (Nat.le_of_ble_eq_true rfl) mzcS_247) h3 (g_istore (Nat.le_of_ble_eq_true rfl) rfl (g_aload_n rfl (g_getR (mz_at hS (Nat.le_of_ble_eq_true rfl) mzcS_232) mzcf_12_19 (mz_rb hR (Nat.le_of_ble_eq_true rfl) rfl mzcR_232_19) (g_iload_n rfl (g_iload_n rfl ?_)))))
    obtain ⟨h4, hp⟩ := hp
    refine g_iast (mz_at hS (Nat.le_of_ble_eq_true rfl) mzcS_247) h4 (g_aload_n rfl (g_getR (mz_at hS (Nat.le_of_ble_eq_true rfl) mzcS_232) mzcf_12_20 (mz_rb hR (Nat.le_of_ble_eq_true rfl) rfl mzcR_232_20) (g_iload_n rfl (g_iload_n rfl ?_))))
    obtain ⟨h5, hp⟩ := hp
    refine g_iast (mz_at hS (Nat.le_of_ble_eq_true rfl) mzcS_248) h5 (g_aload_n rfl ?_)
    refine g_v1n (Nat.le_of_ble_eq_true rfl) (mz_at hS (Nat.le_of_ble_eq_true rfl) mzcS_232) (fun _ hq => cs_471 (Nat.le_trans (Nat.le_of_ble_eq_true rfl) hd) (hS.le (Nat.le_of_ble_eq_true rfl)) (hR.le (Nat.le_of_ble_eq_true rfl))  (mz_wI (mz_wI ((cf_462_0 s1 true N).2) 247 v1 v2) 248 v1 v3) trivial hq) (g_aload_n rfl (g_bipush mzb_7 (g_iconst mzi_0 ?_)))
    obtain ⟨h7, hp⟩ := hp
    refine g_v3n (Nat.le_of_ble_eq_true rfl) (mz_at hS (Nat.le_of_ble_eq_true rfl) mzcS_232) (fun _ hq => cs_472 (Nat.le_trans (Nat.le_of_ble_eq_true rfl) hd) (hS.le (Nat.le_of_ble_eq_true rfl)) (hR.le (Nat.le_of_ble_eq_true rfl))  7 0 (cf_471_0 (mz_wI (mz_wI ((cf_462_0 s1 true N).2) 247 v1 v2) 248 v1 v3)) h7 hq) (g_aload_n rfl (g_bipush mzb_7 (g_iconst mzi_1 ?_)))
    obtain ⟨h8, hp⟩ := hp
    refine g_v3n (Nat.le_of_ble_eq_true rfl) (mz_at hS (Nat.le_of_ble_eq_true rfl) mzcS_232) (fun _ hq => cs_472 (Nat.le_trans (Nat.le_of_ble_eq_true rfl) hd) (hS.le (Nat.le_of_ble_eq_true rfl)) (hR.le (Nat.le_of_ble_eq_true rfl))  7 1 (cf_472_0 7 0 (cf_471_0 (mz_wI (mz_wI ((cf_462_0 s1 true N).2) 247 v1 v2) 248 v1 v3))) h8 hq) (g_aload_n rfl ?_)
    obtain ⟨h9, hp⟩ := hp
    refine g_v1v (Nat.le_of_ble_eq_true rfl) (mz_at hS (Nat.le_of_ble_eq_true rfl) mzcS_232) (fun _ hq => cs_474 (Nat.le_trans (Nat.le_of_ble_eq_true rfl) hd) (hS.le (Nat.le_of_ble_eq_true rfl)) (hR.le (Nat.le_of_ble_eq_true rfl))  (cf_472_0 7 1 (cf_472_0 7 0 (cf_471_0 (mz_wI (mz_wI ((cf_462_0 s1 true N).2) 247 v1 v2) 248 v1 v3)))) h9 hq) ?_
    refine g_zeq (tg := 103) rfl ms_498_103 hC (fun h10 hC => ?_) (fun h10 hC => ?_)
    · have hp := hp.1 h10
      refine g_weak ?_ (g_cl (cg_498_98 hd hS hR (mz_gI ((cf_462_0 s1 true N).2) 247 v1) ((cf_474_0 (cf_472_0 7 1 (cf_472_0 7 0 (cf_471_0 (mz_wI (mz_wI ((cf_462_0 s1 true N).2) 247 v1 v2) 248 v1 v3))))).2) hr hp hC))
      exact ⟨rfl, trivial⟩
    · have hp := hp.2 h10
      refine g_weak ?_ (g_cl (cg_498_103 hd hS hR ((cf_474_0 (cf_472_0 7 1 (cf_472_0 7 0 (cf_471_0 (mz_wI (mz_wI ((cf_462_0 s1 true N).2) 247 v1 v2) 248 v1 v3))))).2) hr hp hC))
      exact trivial
theorem cg_498_41 (hd : 5 ≤ d) (hS : mz_extR S 342) (hR : mz_rok R 342)  (v1 : Int32) (v2 : Int32) (v3 : Int32) (N : mz_N) {C0 : (Int32 × mz_N) → Prop} (hr : ∀ (w : Int32) (N2 : mz_N), C0 (w, N2) → Q (.inl (some (.int w))) (mz_k S R N2 b t)) (hp : cp_498_41 v1 v2 v3 N) (hC : C0 (cf_498_41 v1 v2 v3 N)) : mz_G (d, mz_X0 L xs, some .int, [], mk_498, 5, Q) 41 mt_498_41 [(0, .ref 232), (1, .int v1), (2, .int v2), (3, .int v3)] [.ref 232] false (mz_k S R N b t) := by
  unfold cf_498_41 at hC
  unfold cp_498_41 at hp
  refine g_iconst mzi_0 ?_
  refine g_weak ?_ (g_cl (cg_498_42 hd hS hR false v1 v2 v3 N hr hp hC))
  exact ⟨rfl, rfl, rfl, rfl, trivial⟩
theorem cg_498_0 (hd : 5 ≤ d) (hS : mz_extR S 342) (hR : mz_rok R 342)  (v1 : Int32) (v2 : Int32) (v3 : Int32) (N : mz_N) {C0 : (Int32 × mz_N) → Prop} (hr : ∀ (w : Int32) (N2 : mz_N), C0 (w, N2) → Q (.inl (some (.int w))) (mz_k S R N2 b t)) (hp : cp_498_0 v1 v2 v3 N) (hC : C0 (cf_498_0 v1 v2 v3 N)) : mz_G (d, mz_X0 L xs, some .int, [], mk_498, 5, Q) 0 mk_498 [(0, .ref 232), (1, .int v1), (2, .int v2), (3, .int v3)] [] true (mz_k S R N b t) := by
  unfold cf_498_0 at hC
  unfold cp_498_0 at hp
  refine g_aload_n rfl (g_iload_n rfl (g_i2l (g_lconst mzl_0 (g_con3 ?_))))
  refine g_s3v (Nat.le_of_ble_eq_true rfl) (fun _ hq => cs_466 (Nat.le_trans (Nat.le_of_ble_eq_true rfl) hd) (hS.le (Nat.le_of_ble_eq_true rfl)) (hR.le (Nat.le_of_ble_eq_true rfl))  v1.toInt64 0 10 trivial hq) ?_
  refine g_zeq (tg := 41) rfl ms_498_41 hC (fun h2 hC => ?_) (fun h2 hC => ?_)
  · have hp := hp.1 h2
    refine g_iload_n rfl (g_i2l (g_lconst mzl_1 (g_con3 ?_)))
    refine g_s3v (Nat.le_of_ble_eq_true rfl) (fun _ hq => cs_466 (Nat.le_trans (Nat.le_of_ble_eq_true rfl) hd) (hS.le (Nat.le_of_ble_eq_true rfl)) (hR.le (Nat.le_of_ble_eq_true rfl))  v2.toInt64 1 500 trivial hq) ?_
    refine g_zeq (tg := 41) rfl ms_498_41 hC (fun h4 hC => ?_) (fun h4 hC => ?_)
    · have hp := hp.1 h4
      refine g_iload_n rfl (g_i2l (g_lconst mzl_0 (g_con3 ?_)))
      refine g_s3v (Nat.le_of_ble_eq_true rfl) (fun _ hq => cs_466 (Nat.le_trans (Nat.le_of_ble_eq_true rfl) hd) (hS.le (Nat.le_of_ble_eq_true rfl)) (hR.le (Nat.le_of_ble_eq_true rfl))  v3.toInt64 0 9 trivial hq) ?_
      refine g_zeq (tg := 41) rfl ms_498_41 hC (fun h6 hC => ?_) (fun h6 hC => ?_)
      · have hp := hp.1 h6
        refine g_iconst mzi_1 (g_goto (tg := 42) rfl ms_498_42 ?_)
        refine g_weak ?_ (g_cl (cg_498_42 hd hS hR true v1 v2 v3 N hr hp hC))
        exact ⟨rfl, rfl, rfl, rfl, trivial⟩
      · have hp := hp.2 h6
        refine g_weak ?_ (g_cl (cg_498_41 hd hS hR v1 v2 v3 N hr hp hC))
        exact ⟨rfl, rfl, rfl, rfl, trivial⟩
    · have hp := hp.2 h4
      refine g_weak ?_ (g_cl (cg_498_41 hd hS hR v1 v2 v3 N hr hp hC))
      exact ⟨rfl, rfl, rfl, rfl, trivial⟩
  · have hp := hp.2 h2
    refine g_weak ?_ (g_cl (cg_498_41 hd hS hR v1 v2 v3 N hr hp hC))
    exact ⟨rfl, rfl, rfl, rfl, trivial⟩
theorem cs_498 (hd : 6 ≤ d) (hS : mz_extR S 342) (hR : mz_rok R 342)  (v1 : Int32) (v2 : Int32) (v3 : Int32) (N : mz_N) (hp : cp_498_0 v1 v2 v3 N) (hq : Q (.inl (some (.int ((cf_498_0 v1 v2 v3 N).1)))) (mz_k S R ((cf_498_0 v1 v2 v3 N).2) b t)) : mz_Ed (mz_X0 L xs) d 498 [.ref 232, .int v1, .int v2, .int v3] (mz_k S R N b t) Q :=
  by
  refine g_in mzq_498 (Nat.le_of_ble_eq_true rfl) (Nat.le_of_ble_eq_true rfl) (Nat.le_trans (Nat.le_of_ble_eq_true rfl) hd) ?_
  refine g_weak ?_ (cg_498_0 (d := d - 1) (by omega) hS hR v1 v2 v3 N (C0 := fun z => Q (.inl (some (.int z.1))) (mz_k S R z.2 b t)) (fun _ _ h => h) hp hq)
  exact ⟨rfl, rfl, rfl, rfl, trivial⟩
/-! 499 KeptHouseModel.price (II)I -/
theorem ms_499_0 : mz_sf mk_499 0 = mk_499 := mz_sf_zero _
theorem ms_499_26 : mz_sf mk_499 26 = mt_499_26 := mz_sf_add ms_499_0 (t := 26) rfl rfl
theorem ms_499_29 : mz_sf mk_499 29 = mt_499_29 := mz_sf_add ms_499_26 (t := 3) rfl rfl
theorem ms_499_39 : mz_sf mk_499 39 = mt_499_39 := mz_sf_add ms_499_29 (t := 10) rfl rfl
theorem ms_499_40 : mz_sf mk_499 40 = mt_499_40 := mz_sf_add ms_499_39 (t := 1) rfl rfl
theorem ms_499_49 : mz_sf mk_499 49 = mt_499_49 := mz_sf_add ms_499_40 (t := 9) rfl rfl
theorem ms_499_60 : mz_sf mk_499 60 = mt_499_60 := mz_sf_add ms_499_49 (t := 11) rfl rfl
theorem ms_499_68 : mz_sf mk_499 68 = mt_499_68 := mz_sf_add ms_499_60 (t := 8) rfl rfl
theorem ms_499_81 : mz_sf mk_499 81 = mt_499_81 := mz_sf_add ms_499_68 (t := 13) rfl rfl
theorem ms_499_90 : mz_sf mk_499 90 = mt_499_90 := mz_sf_add ms_499_81 (t := 9) rfl rfl
theorem ms_499_104 : mz_sf mk_499 104 = mt_499_104 := mz_sf_add ms_499_90 (t := 14) rfl rfl
theorem ms_499_107 : mz_sf mk_499 107 = mt_499_107 := mz_sf_add ms_499_104 (t := 3) rfl rfl
set_option maxRecDepth 100000 in
theorem mzq_499 : mz_PG0 499 = some (12, ⟨"KeptHouseModel", "price", "(II)I"⟩, prog_14_method_44_code, 4, some .int, [], mk_499, []) := rfl
theorem cg_499_90 (hd : 6 ≤ d) (hS : mz_extR S 342) (hR : mz_rok R 342)  (v3 : Int32) (N : mz_N) {C0 : (Int32 × mz_N) → Prop} (hr : ∀ (w : Int32) (N2 : mz_N), C0 (w, N2) → Q (.inl (some (.int w))) (mz_k S R N2 b t)) (hp : cp_499_90 v3 N) (hC : C0 (cf_499_90 v3 N)) : mz_G (d, mz_X0 L xs, some .int, [], mk_499, 4, Q) 90 mt_499_90 [(0, .ref 232), (3, .int v3)] [] false (mz_k S R N b t) := by
  unfold cf_499_90 at hC
  unfold cp_499_90 at hp
  refine g_aload_n rfl (g_bipush mzb_10 (g_iconst mzi_0 ?_))
  have h1 := hp
  refine g_v3v (Nat.le_of_ble_eq_true rfl) (mz_at hS (Nat.le_of_ble_eq_true rfl) mzcS_232) (fun _ hq => cs_494 (Nat.le_trans (Nat.le_of_ble_eq_true rfl) hd) (hS.le (Nat.le_of_ble_eq_true rfl)) (hR.le (Nat.le_of_ble_eq_true rfl))  10 0 N h1 hq) ?_
  refine g_zeq (tg := 104) rfl ms_499_104 hC (fun h2 hC => ?_) (fun h2 hC => ?_)
  · refine g_iload_n rfl (g_goto (tg := 107) rfl ms_499_107 ?_)
    exact g_iret rfl (hr _ _ hC)
  · refine g_sipush mzs_m1001 ?_
    exact g_iret rfl (hr _ _ hC)
theorem cg_499_68 (hd : 6 ≤ d) (hS : mz_extR S 342) (hR : mz_rok R 342)  (s0 : Int32) (v1 : Int32) (v2 : Int32) (N : mz_N) {C0 : (Int32 × mz_N) → Prop} (hr : ∀ (w : Int32) (N2 : mz_N), C0 (w, N2) → Q (.inl (some (.int w))) (mz_k S R N2 b t)) (hp : cp_499_68 s0 v1 v2 N) (hC : C0 (cf_499_68 s0 v1 v2 N)) : mz_G (d, mz_X0 L xs, some .int, [], mk_499, 4, Q) 68 mt_499_68 [(0, .ref 232), (1, .int v1), (2, .int v2)] [.int s0] false (mz_k S R N b t) := by
  unfold cf_499_68 at hC
  unfold cp_499_68 at hp
  refine g_istore_n (Nat.le_of_ble_eq_true rfl) rfl (g_iload_n rfl ?_)
  refine g_ifne (tg := 81) rfl ms_499_81 hC (fun h1 hC => ?_) (fun h1 hC => ?_)
  · have hp := hp.1 h1
    refine g_aload_n rfl (g_iload_n rfl (g_putI (mz_at hS (Nat.le_of_ble_eq_true rfl) mzcS_232) mzcf_12_21 (g_goto (tg := 90) rfl ms_499_90 ?_)))
    refine g_weak ?_ (g_cl (cg_499_90 hd hS hR s0 (mz_pI N 232 21 v2) hr hp hC))
    exact ⟨rfl, rfl, trivial⟩
  · have hp := hp.2 h1
    refine g_aload_n rfl (g_getR (mz_at hS (Nat.le_of_ble_eq_true rfl) mzcS_232) mzcf_12_22 (mz_rb hR (Nat.le_of_ble_eq_true rfl) rfl mzcR_232_22) (g_iload_n rfl (g_iconst mzi_1 (g_isub (g_iload_n rfl ?_)))))
    obtain ⟨h2, hp⟩ := hp
    refine g_iast (mz_at hS (Nat.le_of_ble_eq_true rfl) mzcS_249) h2 ?_
    refine g_weak ?_ (g_cl (cg_499_90 hd hS hR s0 (mz_wI N 249 (v1 - 1) v2) hr hp hC))
    exact ⟨rfl, rfl, trivial⟩
theorem cg_499_40 (hd : 6 ≤ d) (hS : mz_extR S 342) (hR : mz_rok R 342)  (s1 : Bool) (v1 : Int32) (v2 : Int32) (N : mz_N) {C0 : (Int32 × mz_N) → Prop} (hr : ∀ (w : Int32) (N2 : mz_N), C0 (w, N2) → Q (.inl (some (.int w))) (mz_k S R N2 b t)) (hp : cp_499_40 s1 v1 v2 N) (hC : C0 (cf_499_40 s1 v1 v2 N)) : mz_G (d, mz_X0 L xs, some .int, [], mk_499, 4, Q) 40 mt_499_40 [(0, .ref 232), (1, .int v1), (2, .int v2)] [.int (mz_b01 s1), .ref 232] false (mz_k S R N b t) := by
  unfold cf_499_40 at hC
  unfold cp_499_40 at hp
  refine g_iconst mzi_1 ?_
  obtain ⟨h1, hp⟩ := hp
  refine g_v3v (Nat.le_of_ble_eq_true rfl) (mz_at hS (Nat.le_of_ble_eq_true rfl) mzcS_232) (fun _ hq => cs_462 (Nat.le_trans (Nat.le_of_ble_eq_true rfl) hd) (hS.le (Nat.le_of_ble_eq_true rfl)) (hR.le (Nat.le_of_ble_eq_true rfl))  s1 true N h1 hq) ?_
  refine g_zeq (tg := 49) rfl ms_499_49 hC (fun h2 hC => ?_) (fun h2 hC => ?_)
  · have hp := hp.1 h2
    refine g_iconst mzi_0 ?_
    exact g_iret rfl (hr _ _ hC)
  · have hp := hp.2 h2
    refine g_iload_n rfl ?_
    refine g_ifne (tg := 60) rfl ms_499_60 hC (fun h3 hC => ?_) (fun h3 hC => ?_)
    · have hp := hp.1 h3
      refine g_aload_n rfl (g_getI (mz_at hS (Nat.le_of_ble_eq_true rfl) mzcS_232) mzcf_12_21 (g_goto (tg := 68) rfl ms_499_68 ?_))
      refine g_weak ?_ (g_cl (cg_499_68 hd hS hR (((cf_462_0 s1 true N).2).1 232 21) v1 v2 ((cf_462_0 s1 true N).2) hr hp hC))
      exact ⟨rfl, rfl, rfl, trivial⟩
    · have hp := hp.2 h3
      refine g_aload_n rfl (g_getR (mz_at hS (Nat.le_of_ble_eq_true rfl) mzcS_232) mzcf_12_22 (mz_rb hR (Nat.le_of_ble_eq_true rfl) rfl mzcR_232_22) (g_iload_n rfl (g_iconst mzi_1 (g_isub ?_))))
      obtain ⟨h4, hp⟩ := hp
      refine g_iald hS.1 (mz_at hS (Nat.le_of_ble_eq_true rfl) mzcS_249) h4 ?_
      refine g_weak ?_ (g_cl (cg_499_68 hd hS hR (mz_gI ((cf_462_0 s1 true N).2) 249 (v1 - 1)) v1 v2 ((cf_462_0 s1 true N).2) hr hp hC))
      exact ⟨rfl, rfl, rfl, trivial⟩
theorem cg_499_39 (hd : 6 ≤ d) (hS : mz_extR S 342) (hR : mz_rok R 342)  (v1 : Int32) (v2 : Int32) (N : mz_N) {C0 : (Int32 × mz_N) → Prop} (hr : ∀ (w : Int32) (N2 : mz_N), C0 (w, N2) → Q (.inl (some (.int w))) (mz_k S R N2 b t)) (hp : cp_499_39 v1 v2 N) (hC : C0 (cf_499_39 v1 v2 N)) : mz_G (d, mz_X0 L xs, some .int, [], mk_499, 4, Q) 39 mt_499_39 [(0, .ref 232), (1, .int v1), (2, .int v2)] [.ref 232] false (mz_k S R N b t) := by
  unfold cf_499_39 at hC
  unfold cp_499_39 at hp
  refine g_iconst mzi_0 ?_
  refine g_weak ?_ (g_cl (cg_499_40 hd hS hR false v1 v2 N hr hp hC))
  exact ⟨rfl, rfl, rfl, trivial⟩
theorem cg_499_29 (hd : 6 ≤ d) (hS : mz_extR S 342) (hR : mz_rok R 342)  (s1 : Int64) (s2 : Int64) (s3 : Int64) (v1 : Int32) (v2 : Int32) (N : mz_N) {C0 : (Int32 × mz_N) → Prop} (hr : ∀ (w : Int32) (N2 : mz_N), C0 (w, N2) → Q (.inl (some (.int w))) (mz_k S R N2 b t)) (hp : cp_499_29 s1 s2 s3 v1 v2 N) (hC : C0 (cf_499_29 s1 s2 s3 v1 v2 N)) : mz_G (d, mz_X0 L xs, some .int, [], mk_499, 4, Q) 29 mt_499_29 [(0, .ref 232), (1, .int v1), (2, .int v2)] [.long s3, .long s2, .long s1, .ref 232] false (mz_k S R N b t) := by
  unfold cf_499_29 at hC
  unfold cp_499_29 at hp
  refine g_s3v (Nat.le_of_ble_eq_true rfl) (fun _ hq => cs_466 (Nat.le_trans (Nat.le_of_ble_eq_true rfl) hd) (hS.le (Nat.le_of_ble_eq_true rfl)) (hR.le (Nat.le_of_ble_eq_true rfl))  s1 s2 s3 trivial hq) ?_
  refine g_zeq (tg := 39) rfl ms_499_39 hC (fun h2 hC => ?_) (fun h2 hC => ?_)
  · have hp := hp.1 h2
    refine g_iconst mzi_1 (g_goto (tg := 40) rfl ms_499_40 ?_)
    refine g_weak ?_ (g_cl (cg_499_40 hd hS hR true v1 v2 N hr hp hC))
    exact ⟨rfl, rfl, rfl, trivial⟩
  · have hp := hp.2 h2
    refine g_weak ?_ (g_cl (cg_499_39 hd hS hR v1 v2 N hr hp hC))
    exact ⟨rfl, rfl, rfl, trivial⟩
theorem cg_499_0 (hd : 6 ≤ d) (hS : mz_extR S 342) (hR : mz_rok R 342)  (v1 : Int32) (v2 : Int32) (N : mz_N) {C0 : (Int32 × mz_N) → Prop} (hr : ∀ (w : Int32) (N2 : mz_N), C0 (w, N2) → Q (.inl (some (.int w))) (mz_k S R N2 b t)) (hp : cp_499_0 v1 v2 N) (hC : C0 (cf_499_0 v1 v2 N)) : mz_G (d, mz_X0 L xs, some .int, [], mk_499, 4, Q) 0 mk_499 [(0, .ref 232), (1, .int v1), (2, .int v2)] [] true (mz_k S R N b t) := by
  unfold cf_499_0 at hC
  unfold cp_499_0 at hp
  refine g_aload_n rfl (g_iload_n rfl (g_i2l (g_lconst mzl_0 (g_con3 ?_))))
  refine g_s3v (Nat.le_of_ble_eq_true rfl) (fun _ hq => cs_466 (Nat.le_trans (Nat.le_of_ble_eq_true rfl) hd) (hS.le (Nat.le_of_ble_eq_true rfl)) (hR.le (Nat.le_of_ble_eq_true rfl))  v1.toInt64 0 3 trivial hq) ?_
  refine g_zeq (tg := 39) rfl ms_499_39 hC (fun h2 hC => ?_) (fun h2 hC => ?_)
  · have hp := hp.1 h2
    refine g_iload_n rfl (g_i2l (g_lconst mzl_0 (g_iload_n rfl ?_)))
    refine g_ifne (tg := 26) rfl ms_499_26 hC (fun h3 hC => ?_) (fun h3 hC => ?_)
    · have hp := hp.1 h3
      refine g_con3 (g_goto (tg := 29) rfl ms_499_29 ?_)
      refine g_weak ?_ (g_cl (cg_499_29 hd hS hR v2.toInt64 0 20000 v1 v2 N hr hp hC))
      exact ⟨rfl, rfl, rfl, trivial⟩
    · have hp := hp.2 h3
      refine g_con3 ?_
      refine g_weak ?_ (g_cl (cg_499_29 hd hS hR v2.toInt64 0 1000 v1 v2 N hr hp hC))
      exact ⟨rfl, rfl, rfl, trivial⟩
  · have hp := hp.2 h2
    refine g_weak ?_ (g_cl (cg_499_39 hd hS hR v1 v2 N hr hp hC))
    exact ⟨rfl, rfl, rfl, trivial⟩
theorem cs_499 (hd : 7 ≤ d) (hS : mz_extR S 342) (hR : mz_rok R 342)  (v1 : Int32) (v2 : Int32) (N : mz_N) (hp : cp_499_0 v1 v2 N) (hq : Q (.inl (some (.int ((cf_499_0 v1 v2 N).1)))) (mz_k S R ((cf_499_0 v1 v2 N).2) b t)) : mz_Ed (mz_X0 L xs) d 499 [.ref 232, .int v1, .int v2] (mz_k S R N b t) Q :=
  by
  refine g_in mzq_499 (Nat.le_of_ble_eq_true rfl) (Nat.le_of_ble_eq_true rfl) (Nat.le_trans (Nat.le_of_ble_eq_true rfl) hd) ?_
  refine g_weak ?_ (cg_499_0 (d := d - 1) (by omega) hS hR v1 v2 N (C0 := fun z => Q (.inl (some (.int z.1))) (mz_k S R z.2 b t)) (fun _ _ h => h) hp hq)
  exact ⟨rfl, rfl, rfl, trivial⟩
/-! 500 KeptHouseModel.life (II)I -/
theorem ms_500_0 : mz_sf mk_500 0 = mk_500 := mz_sf_zero _
theorem ms_500_29 : mz_sf mk_500 29 = mt_500_29 := mz_sf_add ms_500_0 (t := 29) rfl rfl
theorem ms_500_30 : mz_sf mk_500 30 = mt_500_30 := mz_sf_add ms_500_29 (t := 1) rfl rfl
theorem ms_500_39 : mz_sf mk_500 39 = mt_500_39 := mz_sf_add ms_500_30 (t := 9) rfl rfl
theorem ms_500_63 : mz_sf mk_500 63 = mt_500_63 := mz_sf_add ms_500_39 (t := 24) rfl rfl
theorem ms_500_67 : mz_sf mk_500 67 = mt_500_67 := mz_sf_add ms_500_63 (t := 4) rfl rfl
theorem ms_500_70 : mz_sf mk_500 70 = mt_500_70 := mz_sf_add ms_500_67 (t := 3) rfl rfl
set_option maxRecDepth 100000 in
theorem mzq_500 : mz_PG0 500 = some (12, ⟨"KeptHouseModel", "life", "(II)I"⟩, prog_14_method_45_code, 4, some .int, [], mk_500, []) := rfl
theorem cg_500_30 (hd : 6 ≤ d) (hS : mz_extR S 342) (hR : mz_rok R 342)  (s1 : Bool) (v1 : Int32) (v2 : Int32) (N : mz_N) {C0 : (Int32 × mz_N) → Prop} (hr : ∀ (w : Int32) (N2 : mz_N), C0 (w, N2) → Q (.inl (some (.int w))) (mz_k S R N2 b t)) (hp : cp_500_30 s1 v1 v2 N) (hC : C0 (cf_500_30 s1 v1 v2 N)) : mz_G (d, mz_X0 L xs, some .int, [], mk_500, 4, Q) 30 mt_500_30 [(0, .ref 232), (1, .int v1), (2, .int v2)] [.int (mz_b01 s1), .ref 232] false (mz_k S R N b t) := by
  unfold cf_500_30 at hC
  unfold cp_500_30 at hp
  refine g_iconst mzi_1 ?_
  obtain ⟨h1, hp⟩ := hp
  refine g_v3v (Nat.le_of_ble_eq_true rfl) (mz_at hS (Nat.le_of_ble_eq_true rfl) mzcS_232) (fun _ hq => cs_462 (Nat.le_trans (Nat.le_of_ble_eq_true rfl) hd) (hS.le (Nat.le_of_ble_eq_true rfl)) (hR.le (Nat.le_of_ble_eq_true rfl))  s1 true N h1 hq) ?_
  refine g_zeq (tg := 39) rfl ms_500_39 hC (fun h2 hC => ?_) (fun h2 hC => ?_)
  · have hp := hp.1 h2
    refine g_iconst mzi_0 ?_
    exact g_iret rfl (hr _ _ hC)
  · have hp := hp.2 h2
    refine g_aload_n rfl (g_getR (mz_at hS (Nat.le_of_ble_eq_true rfl) mzcS_232) mzcf_12_23 (mz_rb hR (Nat.le_of_ble_eq_true rfl) rfl mzcR_232_23) (g_iload_n rfl ?_))
    obtain ⟨h3, hp⟩ := hp
    refine g_iald hS.1 (mz_at hS (Nat.le_of_ble_eq_true rfl) mzcS_250) h3 (g_istore_n (Nat.le_of_ble_eq_true rfl) rfl (g_aload_n rfl (g_getR (mz_at hS (Nat.le_of_ble_eq_true rfl) mzcS_232) mzcf_12_23 (mz_rb hR (Nat.le_of_ble_eq_true rfl) rfl mzcR_232_23) (g_iload_n rfl (g_iload_n rfl ?_)))))
    obtain ⟨h4, hp⟩ := hp
    refine g_iast (mz_at hS (Nat.le_of_ble_eq_true rfl) mzcS_250) h4 (g_aload_n rfl (g_bipush mzb_11 (g_iload_n rfl ?_)))
    have h5 := hp
    refine g_v3v (Nat.le_of_ble_eq_true rfl) (mz_at hS (Nat.le_of_ble_eq_true rfl) mzcS_232) (fun _ hq => cs_494 (Nat.le_trans (Nat.le_of_ble_eq_true rfl) hd) (hS.le (Nat.le_of_ble_eq_true rfl)) (hR.le (Nat.le_of_ble_eq_true rfl))  11 v1 (mz_wI ((cf_462_0 s1 true N).2) 250 v1 v2) h5 hq) ?_
    refine g_zeq (tg := 67) rfl ms_500_67 hC (fun h6 hC => ?_) (fun h6 hC => ?_)
    · refine g_iload_n rfl (g_goto (tg := 70) rfl ms_500_70 ?_)
      exact g_iret rfl (hr _ _ hC)
    · refine g_sipush mzs_m1001 ?_
      exact g_iret rfl (hr _ _ hC)
theorem cg_500_29 (hd : 6 ≤ d) (hS : mz_extR S 342) (hR : mz_rok R 342)  (v1 : Int32) (v2 : Int32) (N : mz_N) {C0 : (Int32 × mz_N) → Prop} (hr : ∀ (w : Int32) (N2 : mz_N), C0 (w, N2) → Q (.inl (some (.int w))) (mz_k S R N2 b t)) (hp : cp_500_29 v1 v2 N) (hC : C0 (cf_500_29 v1 v2 N)) : mz_G (d, mz_X0 L xs, some .int, [], mk_500, 4, Q) 29 mt_500_29 [(0, .ref 232), (1, .int v1), (2, .int v2)] [.ref 232] false (mz_k S R N b t) := by
  unfold cf_500_29 at hC
  unfold cp_500_29 at hp
  refine g_iconst mzi_0 ?_
  refine g_weak ?_ (g_cl (cg_500_30 hd hS hR false v1 v2 N hr hp hC))
  exact ⟨rfl, rfl, rfl, trivial⟩
theorem cg_500_0 (hd : 6 ≤ d) (hS : mz_extR S 342) (hR : mz_rok R 342)  (v1 : Int32) (v2 : Int32) (N : mz_N) {C0 : (Int32 × mz_N) → Prop} (hr : ∀ (w : Int32) (N2 : mz_N), C0 (w, N2) → Q (.inl (some (.int w))) (mz_k S R N2 b t)) (hp : cp_500_0 v1 v2 N) (hC : C0 (cf_500_0 v1 v2 N)) : mz_G (d, mz_X0 L xs, some .int, [], mk_500, 4, Q) 0 mk_500 [(0, .ref 232), (1, .int v1), (2, .int v2)] [] true (mz_k S R N b t) := by
  unfold cf_500_0 at hC
  unfold cp_500_0 at hp
  refine g_aload_n rfl (g_iload_n rfl (g_i2l (g_lconst mzl_0 (g_con3 ?_))))
  refine g_s3v (Nat.le_of_ble_eq_true rfl) (fun _ hq => cs_466 (Nat.le_trans (Nat.le_of_ble_eq_true rfl) hd) (hS.le (Nat.le_of_ble_eq_true rfl)) (hR.le (Nat.le_of_ble_eq_true rfl))  v1.toInt64 0 2 trivial hq) ?_
  refine g_zeq (tg := 29) rfl ms_500_29 hC (fun h2 hC => ?_) (fun h2 hC => ?_)
  · have hp := hp.1 h2
    refine g_iload_n rfl (g_i2l (g_lconst mzl_1 (g_con3 ?_)))
    refine g_s3v (Nat.le_of_ble_eq_true rfl) (fun _ hq => cs_466 (Nat.le_trans (Nat.le_of_ble_eq_true rfl) hd) (hS.le (Nat.le_of_ble_eq_true rfl)) (hR.le (Nat.le_of_ble_eq_true rfl))  v2.toInt64 1 100000 trivial hq) ?_
    refine g_zeq (tg := 29) rfl ms_500_29 hC (fun h4 hC => ?_) (fun h4 hC => ?_)
    · have hp := hp.1 h4
      refine g_iconst mzi_1 (g_goto (tg := 30) rfl ms_500_30 ?_)
      refine g_weak ?_ (g_cl (cg_500_30 hd hS hR true v1 v2 N hr hp hC))
      exact ⟨rfl, rfl, rfl, trivial⟩
    · have hp := hp.2 h4
      refine g_weak ?_ (g_cl (cg_500_29 hd hS hR v1 v2 N hr hp hC))
      exact ⟨rfl, rfl, rfl, trivial⟩
  · have hp := hp.2 h2
    refine g_weak ?_ (g_cl (cg_500_29 hd hS hR v1 v2 N hr hp hC))
    exact ⟨rfl, rfl, rfl, trivial⟩
theorem cs_500 (hd : 7 ≤ d) (hS : mz_extR S 342) (hR : mz_rok R 342)  (v1 : Int32) (v2 : Int32) (N : mz_N) (hp : cp_500_0 v1 v2 N) (hq : Q (.inl (some (.int ((cf_500_0 v1 v2 N).1)))) (mz_k S R ((cf_500_0 v1 v2 N).2) b t)) : mz_Ed (mz_X0 L xs) d 500 [.ref 232, .int v1, .int v2] (mz_k S R N b t) Q :=
  by
  refine g_in mzq_500 (Nat.le_of_ble_eq_true rfl) (Nat.le_of_ble_eq_true rfl) (Nat.le_trans (Nat.le_of_ble_eq_true rfl) hd) ?_
  refine g_weak ?_ (cg_500_0 (d := d - 1) (by omega) hS hR v1 v2 N (C0 := fun z => Q (.inl (some (.int z.1))) (mz_k S R z.2 b t)) (fun _ _ h => h) hp hq)
  exact ⟨rfl, rfl, rfl, trivial⟩
/-! 501 KeptHouseModel.type (I)I -/
theorem ms_501_0 : mz_sf mk_501 0 = mk_501 := mz_sf_zero _
theorem ms_501_26 : mz_sf mk_501 26 = mt_501_26 := mz_sf_add ms_501_0 (t := 26) rfl rfl
theorem ms_501_27 : mz_sf mk_501 27 = mt_501_27 := mz_sf_add ms_501_26 (t := 1) rfl rfl
theorem ms_501_35 : mz_sf mk_501 35 = mt_501_35 := mz_sf_add ms_501_27 (t := 8) rfl rfl
theorem ms_501_55 : mz_sf mk_501 55 = mt_501_55 := mz_sf_add ms_501_35 (t := 20) rfl rfl
set_option maxRecDepth 100000 in
theorem mzq_501 : mz_PG0 501 = some (12, ⟨"KeptHouseModel", "type", "(I)I"⟩, prog_14_method_68_code, 2, some .int, [], mk_501, []) := rfl
theorem cg_501_55 (hd : 1 ≤ d) (hS : mz_extR S 342) (hR : mz_rok R 342)  (N : mz_N) {C0 : (Int32 × mz_N) → Prop} (hr : ∀ (w : Int32) (N2 : mz_N), C0 (w, N2) → Q (.inl (some (.int w))) (mz_k S R N2 b t)) (hp : cp_501_55 N) (hC : C0 (cf_501_55 N)) : mz_G (d, mz_X0 L xs, some .int, [], mk_501, 2, Q) 55 mt_501_55 [(0, .ref 232)] [] false (mz_k S R N b t) := by
  unfold cf_501_55 at hC
  unfold cp_501_55 at hp
  refine g_aload_n rfl (g_getI (mz_at hS (Nat.le_of_ble_eq_true rfl) mzcS_232) mzcf_12_25 ?_)
  exact g_iret rfl (hr _ _ hC)
theorem cg_501_27 (hd : 1 ≤ d) (hS : mz_extR S 342) (hR : mz_rok R 342)  (s1 : Bool) (s2 : Bool) (v1 : Int32) (N : mz_N) {C0 : (Int32 × mz_N) → Prop} (hr : ∀ (w : Int32) (N2 : mz_N), C0 (w, N2) → Q (.inl (some (.int w))) (mz_k S R N2 b t)) (hp : cp_501_27 s1 s2 v1 N) (hC : C0 (cf_501_27 s1 s2 v1 N)) : mz_G (d, mz_X0 L xs, some .int, [], mk_501, 2, Q) 27 mt_501_27 [(0, .ref 232), (1, .int v1)] [.int (mz_b01 s2), .int (mz_b01 s1), .ref 232] false (mz_k S R N b t) := by
  unfold cf_501_27 at hC
  unfold cp_501_27 at hp
  obtain ⟨h1, hp⟩ := hp
  refine g_v3v (Nat.le_of_ble_eq_true rfl) (mz_at hS (Nat.le_of_ble_eq_true rfl) mzcS_232) (fun _ hq => cs_462 (Nat.le_trans (Nat.le_of_ble_eq_true rfl) hd) (hS.le (Nat.le_of_ble_eq_true rfl)) (hR.le (Nat.le_of_ble_eq_true rfl))  s1 s2 N h1 hq) ?_
  refine g_zeq (tg := 35) rfl ms_501_35 hC (fun h2 hC => ?_) (fun h2 hC => ?_)
  · have hp := hp.1 h2
    refine g_iconst mzi_0 ?_
    exact g_iret rfl (hr _ _ hC)
  · have hp := hp.2 h2
    refine g_aload_n rfl (g_getR (mz_at hS (Nat.le_of_ble_eq_true rfl) mzcS_232) mzcf_12_24 (mz_rb hR (Nat.le_of_ble_eq_true rfl) rfl mzcR_232_24) (g_aload_n rfl (g_getI (mz_at hS (Nat.le_of_ble_eq_true rfl) mzcS_232) mzcf_12_25 (g_iload_n rfl ?_))))
    obtain ⟨h3, hp⟩ := hp
    refine g_iast (mz_at hS (Nat.le_of_ble_eq_true rfl) mzcS_251) h3 (g_aload_n rfl (g_dup rfl (g_getI (mz_at hS (Nat.le_of_ble_eq_true rfl) mzcS_232) mzcf_12_25 (g_iconst mzi_1 (g_iadd (g_putI (mz_at hS (Nat.le_of_ble_eq_true rfl) mzcS_232) mzcf_12_25 ?_))))))
    refine g_weak ?_ (g_cl (cg_501_55 hd hS hR (mz_pI (mz_wI ((cf_462_0 s1 s2 N).2) 251 (((cf_462_0 s1 s2 N).2).1 232 25) v1) 232 25 (((mz_wI ((cf_462_0 s1 s2 N).2) 251 (((cf_462_0 s1 s2 N).2).1 232 25) v1).1 232 25) + 1)) hr hp hC))
    exact ⟨rfl, trivial⟩
theorem cg_501_0 (hd : 1 ≤ d) (hS : mz_extR S 342) (hR : mz_rok R 342)  (v1 : Int32) (N : mz_N) {C0 : (Int32 × mz_N) → Prop} (hr : ∀ (w : Int32) (N2 : mz_N), C0 (w, N2) → Q (.inl (some (.int w))) (mz_k S R N2 b t)) (hp : cp_501_0 v1 N) (hC : C0 (cf_501_0 v1 N)) : mz_G (d, mz_X0 L xs, some .int, [], mk_501, 2, Q) 0 mk_501 [(0, .ref 232), (1, .int v1)] [] true (mz_k S R N b t) := by
  unfold cf_501_0 at hC
  unfold cp_501_0 at hp
  refine g_aload_n rfl (g_iload_n rfl (g_i2l (g_con3 (g_con3 ?_))))
  refine g_s3v (Nat.le_of_ble_eq_true rfl) (fun _ hq => cs_466 (Nat.le_trans (Nat.le_of_ble_eq_true rfl) hd) (hS.le (Nat.le_of_ble_eq_true rfl)) (hR.le (Nat.le_of_ble_eq_true rfl))  v1.toInt64 32 126 trivial hq) (g_aload_n rfl (g_getI (mz_at hS (Nat.le_of_ble_eq_true rfl) mzcS_232) mzcf_12_25 (g_sipush mzs_196 ?_)))
  refine g_icge (tg := 26) rfl ms_501_26 hC (fun h2 hC => ?_) (fun h2 hC => ?_)
  · have hp := hp.1 h2
    refine g_iconst mzi_1 (g_goto (tg := 27) rfl ms_501_27 ?_)
    refine g_weak ?_ (g_cl (cg_501_27 hd hS hR (cf_466_0 v1.toInt64 32 126) true v1 N hr hp hC))
    exact ⟨rfl, rfl, trivial⟩
  · have hp := hp.2 h2
    refine g_iconst mzi_0 ?_
    refine g_weak ?_ (g_cl (cg_501_27 hd hS hR (cf_466_0 v1.toInt64 32 126) false v1 N hr hp hC))
    exact ⟨rfl, rfl, trivial⟩
theorem cs_501 (hd : 2 ≤ d) (hS : mz_extR S 342) (hR : mz_rok R 342)  (v1 : Int32) (N : mz_N) (hp : cp_501_0 v1 N) (hq : Q (.inl (some (.int ((cf_501_0 v1 N).1)))) (mz_k S R ((cf_501_0 v1 N).2) b t)) : mz_Ed (mz_X0 L xs) d 501 [.ref 232, .int v1] (mz_k S R N b t) Q :=
  by
  refine g_in mzq_501 (Nat.le_of_ble_eq_true rfl) (Nat.le_of_ble_eq_true rfl) (Nat.le_trans (Nat.le_of_ble_eq_true rfl) hd) ?_
  refine g_weak ?_ (cg_501_0 (d := d - 1) (by omega) hS hR v1 N (C0 := fun z => Q (.inl (some (.int z.1))) (mz_k S R z.2 b t)) (fun _ _ h => h) hp hq)
  exact ⟨rfl, rfl, trivial⟩
/-! 502 KeptHouseModel.wipe ()I -/
theorem ms_502_0 : mz_sf mk_502 0 = mk_502 := mz_sf_zero _
theorem ms_502_9 : mz_sf mk_502 9 = mt_502_9 := mz_sf_add ms_502_0 (t := 9) rfl rfl
set_option maxRecDepth 100000 in
theorem mzq_502 : mz_PG0 502 = some (12, ⟨"KeptHouseModel", "wipe", "()I"⟩, prog_14_method_69_code, 2, some .int, [], mk_502, []) := rfl
theorem cg_502_0 (hd : 1 ≤ d) (hS : mz_extR S 342) (hR : mz_rok R 342)  (N : mz_N) {C0 : (Int32 × mz_N) → Prop} (hr : ∀ (w : Int32) (N2 : mz_N), C0 (w, N2) → Q (.inl (some (.int w))) (mz_k S R N2 b t)) (hp : cp_502_0 N) (hC : C0 (cf_502_0 N)) : mz_G (d, mz_X0 L xs, some .int, [], mk_502, 2, Q) 0 mk_502 [(0, .ref 232)] [] true (mz_k S R N b t) := by
  unfold cf_502_0 at hC
  unfold cp_502_0 at hp
  refine g_aload_n rfl ?_
  have h1 := hp
  refine g_v1v (Nat.le_of_ble_eq_true rfl) (mz_at hS (Nat.le_of_ble_eq_true rfl) mzcS_232) (fun _ hq => cs_484 (Nat.le_trans (Nat.le_of_ble_eq_true rfl) hd) (hS.le (Nat.le_of_ble_eq_true rfl)) (hR.le (Nat.le_of_ble_eq_true rfl))  N h1 hq) ?_
  refine g_zeq (tg := 9) rfl ms_502_9 hC (fun h2 hC => ?_) (fun h2 hC => ?_)
  · refine g_iconst mzi_0 ?_
    exact g_iret rfl (hr _ _ hC)
  · refine g_aload_n rfl (g_getI (mz_at hS (Nat.le_of_ble_eq_true rfl) mzcS_232) mzcf_12_25 (g_istore_n (Nat.le_of_ble_eq_true rfl) rfl (g_aload_n rfl (g_iconst mzi_0 (g_putI (mz_at hS (Nat.le_of_ble_eq_true rfl) mzcS_232) mzcf_12_25 (g_iload_n rfl ?_))))))
    exact g_iret rfl (hr _ _ hC)
theorem cs_502 (hd : 2 ≤ d) (hS : mz_extR S 342) (hR : mz_rok R 342)  (N : mz_N) (hp : cp_502_0 N) (hq : Q (.inl (some (.int ((cf_502_0 N).1)))) (mz_k S R ((cf_502_0 N).2) b t)) : mz_Ed (mz_X0 L xs) d 502 [.ref 232] (mz_k S R N b t) Q :=
  by
  refine g_in mzq_502 (Nat.le_of_ble_eq_true rfl) (Nat.le_of_ble_eq_true rfl) (Nat.le_trans (Nat.le_of_ble_eq_true rfl) hd) ?_
  refine g_weak ?_ (cg_502_0 (d := d - 1) (by omega) hS hR N (C0 := fun z => Q (.inl (some (.int z.1))) (mz_k S R z.2 b t)) (fun _ _ h => h) hp hq)
  exact ⟨rfl, trivial⟩
/-! 503 KeptHouseModel.load ()I -/
theorem ms_503_0 : mz_sf mk_503 0 = mk_503 := mz_sf_zero _
theorem ms_503_9 : mz_sf mk_503 9 = mt_503_9 := mz_sf_add ms_503_0 (t := 9) rfl rfl
theorem ms_503_19 : mz_sf mk_503 19 = mt_503_19 := mz_sf_add ms_503_9 (t := 10) rfl rfl
theorem ms_503_39 : mz_sf mk_503 39 = mt_503_39 := mz_sf_add ms_503_19 (t := 20) rfl rfl
theorem ms_503_45 : mz_sf mk_503 45 = mt_503_45 := mz_sf_add ms_503_39 (t := 6) rfl rfl
theorem ms_503_59 : mz_sf mk_503 59 = mt_503_59 := mz_sf_add ms_503_45 (t := 14) rfl rfl
theorem ms_503_60 : mz_sf mk_503 60 = mt_503_60 := mz_sf_add ms_503_59 (t := 1) rfl rfl
theorem ms_503_84 : mz_sf mk_503 84 = mt_503_84 := mz_sf_add ms_503_60 (t := 24) rfl rfl
theorem ms_503_93 : mz_sf mk_503 93 = mt_503_93 := mz_sf_add ms_503_84 (t := 9) rfl rfl
theorem ms_503_103 : mz_sf mk_503 103 = mt_503_103 := mz_sf_add ms_503_93 (t := 10) rfl rfl
theorem ms_503_132 : mz_sf mk_503 132 = mt_503_132 := mz_sf_add ms_503_103 (t := 29) rfl rfl
theorem ms_503_133 : mz_sf mk_503 133 = mt_503_133 := mz_sf_add ms_503_132 (t := 1) rfl rfl
theorem ms_503_140 : mz_sf mk_503 140 = mt_503_140 := mz_sf_add ms_503_133 (t := 7) rfl rfl
theorem ms_503_150 : mz_sf mk_503 150 = mt_503_150 := mz_sf_add ms_503_140 (t := 10) rfl rfl
theorem ms_503_169 : mz_sf mk_503 169 = mt_503_169 := mz_sf_add ms_503_150 (t := 19) rfl rfl
theorem ms_503_183 : mz_sf mk_503 183 = mt_503_183 := mz_sf_add ms_503_169 (t := 14) rfl rfl
theorem ms_503_186 : mz_sf mk_503 186 = mt_503_186 := mz_sf_add ms_503_183 (t := 3) rfl rfl
set_option maxRecDepth 100000 in
theorem mzq_503 : mz_PG0 503 = some (12, ⟨"KeptHouseModel", "load", "()I"⟩, prog_14_method_70_code, 3, some .int, [], mk_503, []) := rfl
theorem cg_503_133 (hd : 9 ≤ d) (hS : mz_extR S 342) (hR : mz_rok R 342)  (s1 : Int32) (s2 : Int32) (v2 : Int32) (N : mz_N) {C0 : (Int32 × mz_N) → Prop} (hr : ∀ (w : Int32) (N2 : mz_N), C0 (w, N2) → Q (.inl (some (.int w))) (mz_k S R N2 b t)) {C1 : ((Int32 × mz_N) ⊕ (Int32 × mz_N)) → Prop} (hc1 : ∀ s2, C1 (.inl s2) → mz_G (d, mz_X0 L xs, some .int, [], mk_503, 3, Q) 103 mt_503_103 [(0, .ref 232), (2, .int s2.1)] [] false (mz_k S R s2.2 b t)) (hx1 : ∀ z, C1 (.inr z) → C0 z) (hp : cp_503_133 s1 s2 v2 N) (hC : C1 (cf_503_133 s1 s2 v2 N)) : mz_G (d, mz_X0 L xs, some .int, [], mk_503, 3, Q) 133 mt_503_133 [(0, .ref 232), (2, .int v2)] [.int s2, .int s1, .ref 252] false (mz_k S R N b t) := by
  unfold cf_503_133 at hC
  unfold cp_503_133 at hp
  have h1 := hp
  refine g_iast (mz_at hS (Nat.le_of_ble_eq_true rfl) mzcS_252) h1 (g_iinc rfl mzi_1 (Nat.le_of_ble_eq_true rfl) rfl (g_goto (tg := 103) rfl ms_503_103 ?_))
  refine g_weak ?_ (g_cl (hc1 ((v2 + 1), mz_wI N 252 s1 s2) hC))
  exact ⟨rfl, rfl, trivial⟩
theorem cb_503_150 (hd : 9 ≤ d) (hS : mz_extR S 342) (hR : mz_rok R 342)   (s : Int32 × mz_N) {C0 : (Int32 × mz_N) → Prop} (hr : ∀ (w : Int32) (N2 : mz_N), C0 (w, N2) → Q (.inl (some (.int w))) (mz_k S R N2 b t)) {C1 : ((Int32 × mz_N) ⊕ (Int32 × mz_N)) → Prop} (hc1 : ∀ s2, C1 (.inl s2) → mz_G (d, mz_X0 L xs, some .int, [], mk_503, 3, Q) 150 mt_503_150 [(0, .ref 232), (2, .int s2.1)] [] false (mz_k S R s2.2 b t)) (hx1 : ∀ z, C1 (.inr z) → C0 z) (hp : cd_503_150  s) (hC : C1 (cq_503_150  s)) : mz_G (d, mz_X0 L xs, some .int, [], mk_503, 3, Q) 150 mt_503_150 [(0, .ref 232), (2, .int s.1)] [] false (mz_k S R s.2 b t) := by
  unfold cq_503_150 at hC
  unfold cd_503_150 at hp
  refine g_iload_n rfl (g_bipush mzb_8 ?_)
  refine g_icge (tg := 169) rfl ms_503_169 hC (fun h1 hC => ?_) (fun h1 hC => ?_)
  · have hp := hp.1 h1
    refine g_aload_n rfl (g_bipush mzb_6 (g_iload_n rfl ?_))
    have h2 := hp
    refine g_v3n (Nat.le_of_ble_eq_true rfl) (mz_at hS (Nat.le_of_ble_eq_true rfl) mzcS_232) (fun _ hq => cs_472 (Nat.le_trans (Nat.le_of_ble_eq_true rfl) hd) (hS.le (Nat.le_of_ble_eq_true rfl)) (hR.le (Nat.le_of_ble_eq_true rfl))  6 s.1 s.2 h2 hq) (g_iinc rfl mzi_1 (Nat.le_of_ble_eq_true rfl) rfl (g_goto (tg := 150) rfl ms_503_150 ?_))
    refine g_weak ?_ (g_cl (hc1 ((s.1 + 1), (cf_472_0 6 s.1 s.2)) hC))
    exact ⟨rfl, rfl, trivial⟩
  · have hp := hp.2 h1
    refine g_aload_n rfl ?_
    have h3 := hp
    refine g_v1v (Nat.le_of_ble_eq_true rfl) (mz_at hS (Nat.le_of_ble_eq_true rfl) mzcS_232) (fun _ hq => cs_474 (Nat.le_trans (Nat.le_of_ble_eq_true rfl) hd) (hS.le (Nat.le_of_ble_eq_true rfl)) (hR.le (Nat.le_of_ble_eq_true rfl))  s.2 h3 hq) ?_
    refine g_zeq (tg := 183) rfl ms_503_183 hC (fun h4 hC => ?_) (fun h4 hC => ?_)
    · refine g_aload_n rfl (g_getI (mz_at hS (Nat.le_of_ble_eq_true rfl) mzcS_232) mzcf_12_28 (g_goto (tg := 186) rfl ms_503_186 ?_))
      exact g_iret rfl (hr _ _ (hx1 _ hC))
    · refine g_sipush mzs_m1001 ?_
      exact g_iret rfl (hr _ _ (hx1 _ hC))
theorem cg_503_150 (hd : 9 ≤ d) (hS : mz_extR S 342) (hR : mz_rok R 342)  (v2 : Int32) (N : mz_N) {C0 : (Int32 × mz_N) → Prop} (hr : ∀ (w : Int32) (N2 : mz_N), C0 (w, N2) → Q (.inl (some (.int w))) (mz_k S R N2 b t)) (hp : cp_503_150 v2 N) (hC : C0 (cf_503_150 v2 N)) : mz_G (d, mz_X0 L xs, some .int, [], mk_503, 3, Q) 150 mt_503_150 [(0, .ref 232), (2, .int v2)] [] false (mz_k S R N b t) := by
  obtain ⟨n, hn⟩ := hp
  exact g_loop (G := fun s => mz_G (d, mz_X0 L xs, some .int, [], mk_503, 3, Q) 150 mt_503_150 [(0, .ref 232), (2, .int s.1)] [] false (mz_k S R s.2 b t)) (C := C0) (fun C2 hc hx s hP hC => cb_503_150 hd hS hR  s hr hc hx hP hC) n (v2, N) hn hC
theorem cb_503_103 (hd : 9 ≤ d) (hS : mz_extR S 342) (hR : mz_rok R 342)   (s : Int32 × mz_N) {C0 : (Int32 × mz_N) → Prop} (hr : ∀ (w : Int32) (N2 : mz_N), C0 (w, N2) → Q (.inl (some (.int w))) (mz_k S R N2 b t)) {C1 : ((Int32 × mz_N) ⊕ (Int32 × mz_N)) → Prop} (hc1 : ∀ s2, C1 (.inl s2) → mz_G (d, mz_X0 L xs, some .int, [], mk_503, 3, Q) 103 mt_503_103 [(0, .ref 232), (2, .int s2.1)] [] false (mz_k S R s2.2 b t)) (hx1 : ∀ z, C1 (.inr z) → C0 z) (hp : cd_503_103  s) (hC : C1 (cq_503_103  s)) : mz_G (d, mz_X0 L xs, some .int, [], mk_503, 3, Q) 103 mt_503_103 [(0, .ref 232), (2, .int s.1)] [] false (mz_k S R s.2 b t) := by
  unfold cq_503_103 at hC
  unfold cd_503_103 at hp
  refine g_iload_n rfl (g_sipush mzs_196 ?_)
  refine g_icge (tg := 140) rfl ms_503_140 hC (fun h1 hC => ?_) (fun h1 hC => ?_)
  · have hp := hp.1 h1
    refine g_aload_n rfl (g_getR (mz_at hS (Nat.le_of_ble_eq_true rfl) mzcS_232) mzcf_12_26 (mz_rb hR (Nat.le_of_ble_eq_true rfl) rfl mzcR_232_26) (g_iload_n rfl (g_iload_n rfl (g_aload_n rfl (g_getI (mz_at hS (Nat.le_of_ble_eq_true rfl) mzcS_232) mzcf_12_25 ?_)))))
    refine g_icge (tg := 132) rfl ms_503_132 hC (fun h2 hC => ?_) (fun h2 hC => ?_)
    · have hp := hp.1 h2
      refine g_aload_n rfl (g_getR (mz_at hS (Nat.le_of_ble_eq_true rfl) mzcS_232) mzcf_12_24 (mz_rb hR (Nat.le_of_ble_eq_true rfl) rfl mzcR_232_24) (g_iload_n rfl ?_))
      obtain ⟨h3, hp⟩ := hp
      refine g_iald hS.1 (mz_at hS (Nat.le_of_ble_eq_true rfl) mzcS_251) h3 (g_goto (tg := 133) rfl ms_503_133 ?_)
      refine g_weak ?_ (g_cl (cg_503_133 hd hS hR s.1 (mz_gI s.2 251 s.1) s.1 s.2 hr hc1 hx1 hp hC))
      exact ⟨rfl, rfl, trivial⟩
    · have hp := hp.2 h2
      refine g_iconst mzi_0 ?_
      refine g_weak ?_ (g_cl (cg_503_133 hd hS hR s.1 0 s.1 s.2 hr hc1 hx1 hp hC))
      exact ⟨rfl, rfl, trivial⟩
  · have hp := hp.2 h1
    refine g_aload_n rfl ?_
    obtain ⟨h4, hp⟩ := hp
    refine g_v1n (Nat.le_of_ble_eq_true rfl) (mz_at hS (Nat.le_of_ble_eq_true rfl) mzcS_232) (fun _ hq => cs_437 (Nat.le_trans (Nat.le_of_ble_eq_true rfl) hd) (hS.le (Nat.le_of_ble_eq_true rfl)) (hR.le (Nat.le_of_ble_eq_true rfl))  s.2 h4 hq) (g_aload_n rfl ?_)
    refine g_v1n (Nat.le_of_ble_eq_true rfl) (mz_at hS (Nat.le_of_ble_eq_true rfl) mzcS_232) (fun _ hq => cs_471 (Nat.le_trans (Nat.le_of_ble_eq_true rfl) hd) (hS.le (Nat.le_of_ble_eq_true rfl)) (hR.le (Nat.le_of_ble_eq_true rfl))  (cf_437_0 s.2) trivial hq) (g_iconst mzi_0 (g_istore_n (Nat.le_of_ble_eq_true rfl) rfl ?_))
    refine g_weak ?_ (g_cl (cg_503_150 hd hS hR 0 (cf_471_0 (cf_437_0 s.2)) hr hp (hx1 _ hC)))
    exact ⟨rfl, rfl, trivial⟩
theorem cg_503_103 (hd : 9 ≤ d) (hS : mz_extR S 342) (hR : mz_rok R 342)  (v2 : Int32) (N : mz_N) {C0 : (Int32 × mz_N) → Prop} (hr : ∀ (w : Int32) (N2 : mz_N), C0 (w, N2) → Q (.inl (some (.int w))) (mz_k S R N2 b t)) (hp : cp_503_103 v2 N) (hC : C0 (cf_503_103 v2 N)) : mz_G (d, mz_X0 L xs, some .int, [], mk_503, 3, Q) 103 mt_503_103 [(0, .ref 232), (2, .int v2)] [] false (mz_k S R N b t) := by
  obtain ⟨n, hn⟩ := hp
  exact g_loop (G := fun s => mz_G (d, mz_X0 L xs, some .int, [], mk_503, 3, Q) 103 mt_503_103 [(0, .ref 232), (2, .int s.1)] [] false (mz_k S R s.2 b t)) (C := C0) (fun C2 hc hx s hP hC => cb_503_103 hd hS hR  s hr hc hx hP hC) n (v2, N) hn hC
theorem cg_503_60 (hd : 9 ≤ d) (hS : mz_extR S 342) (hR : mz_rok R 342)  (s1 : Bool) (v1 : Int32) (N : mz_N) {C0 : (Int32 × mz_N) → Prop} (hr : ∀ (w : Int32) (N2 : mz_N), C0 (w, N2) → Q (.inl (some (.int w))) (mz_k S R N2 b t)) (hp : cp_503_60 s1 v1 N) (hC : C0 (cf_503_60 s1 v1 N)) : mz_G (d, mz_X0 L xs, some .int, [], mk_503, 3, Q) 60 mt_503_60 [(0, .ref 232), (1, .int v1)] [.int (mz_b01 s1), .ref 232] false (mz_k S R N b t) := by
  unfold cf_503_60 at hC
  unfold cp_503_60 at hp
  refine g_putZ (z := s1) (mz_at hS (Nat.le_of_ble_eq_true rfl) mzcS_232) mzcf_12_36 (g_aload_n rfl ?_)
  obtain ⟨h1, hp⟩ := hp
  refine g_getZ (mz_at hS (Nat.le_of_ble_eq_true rfl) mzcS_232) mzcf_12_36 h1 ?_
  refine g_zeq (tg := 93) rfl ms_503_93 hC (fun h2 hC => ?_) (fun h2 hC => ?_)
  · have hp := hp.1 h2
    refine g_aload_n rfl (g_iload_n rfl (g_putI (mz_at hS (Nat.le_of_ble_eq_true rfl) mzcS_232) mzcf_12_34 (g_aload_n rfl (g_getI (mz_at hS (Nat.le_of_ble_eq_true rfl) mzcS_232) mzcf_12_35 (g_istore_n (Nat.le_of_ble_eq_true rfl) rfl (g_aload_n rfl ?_))))))
    have h3 := hp
    refine g_v1n (Nat.le_of_ble_eq_true rfl) (mz_at hS (Nat.le_of_ble_eq_true rfl) mzcS_232) (fun _ hq => cs_438 (Nat.le_trans (Nat.le_of_ble_eq_true rfl) hd) (hS.le (Nat.le_of_ble_eq_true rfl)) (hR.le (Nat.le_of_ble_eq_true rfl))  (mz_pI (mz_pI N 232 36 (mz_b01 s1)) 232 34 v1) h3 hq) (g_aload_n rfl (g_iload_n rfl (g_putI (mz_at hS (Nat.le_of_ble_eq_true rfl) mzcS_232) mzcf_12_35 (g_sipush mzs_m1004 ?_))))
    exact g_iret rfl (hr _ _ hC)
  · have hp := hp.2 h2
    refine g_aload_n rfl (g_aload_n rfl (g_getI (mz_at hS (Nat.le_of_ble_eq_true rfl) mzcS_232) mzcf_12_25 (g_putI (mz_at hS (Nat.le_of_ble_eq_true rfl) mzcS_232) mzcf_12_27 (g_iconst mzi_0 (g_istore_n (Nat.le_of_ble_eq_true rfl) rfl ?_)))))
    refine g_weak ?_ (g_cl (cg_503_103 hd hS hR 0 (mz_pI (mz_pI N 232 36 (mz_b01 s1)) 232 27 ((mz_pI N 232 36 (mz_b01 s1)).1 232 25)) hr hp hC))
    exact ⟨rfl, rfl, trivial⟩
theorem cb_503_19 (hd : 9 ≤ d) (hS : mz_extR S 342) (hR : mz_rok R 342)   (s : Int32 × mz_N) {C0 : (Int32 × mz_N) → Prop} (hr : ∀ (w : Int32) (N2 : mz_N), C0 (w, N2) → Q (.inl (some (.int w))) (mz_k S R N2 b t)) {C1 : ((Int32 × mz_N) ⊕ (Int32 × mz_N)) → Prop} (hc1 : ∀ s2, C1 (.inl s2) → mz_G (d, mz_X0 L xs, some .int, [], mk_503, 3, Q) 19 mt_503_19 [(0, .ref 232), (1, .int s2.1)] [] false (mz_k S R s2.2 b t)) (hx1 : ∀ z, C1 (.inr z) → C0 z) (hp : cd_503_19  s) (hC : C1 (cq_503_19  s)) : mz_G (d, mz_X0 L xs, some .int, [], mk_503, 3, Q) 19 mt_503_19 [(0, .ref 232), (1, .int s.1)] [] false (mz_k S R s.2 b t) := by
  unfold cq_503_19 at hC
  unfold cd_503_19 at hp
  refine g_iload_n rfl (g_aload_n rfl (g_getI (mz_at hS (Nat.le_of_ble_eq_true rfl) mzcS_232) mzcf_12_25 ?_))
  refine g_icge (tg := 45) rfl ms_503_45 hC (fun h1 hC => ?_) (fun h1 hC => ?_)
  · have hp := hp.1 h1
    refine g_aload_n rfl (g_getR (mz_at hS (Nat.le_of_ble_eq_true rfl) mzcS_232) mzcf_12_146 (mz_rb hR (Nat.le_of_ble_eq_true rfl) rfl mzcR_232_146) (g_iload_n rfl (g_aload_n rfl (g_getR (mz_at hS (Nat.le_of_ble_eq_true rfl) mzcS_232) mzcf_12_24 (mz_rb hR (Nat.le_of_ble_eq_true rfl) rfl mzcR_232_24) (g_iload_n rfl ?_)))))
    obtain ⟨h2, hp⟩ := hp
    refine g_iald hS.1 (mz_at hS (Nat.le_of_ble_eq_true rfl) mzcS_251) h2 ?_
    have h3 := hp
    refine g_iast (mz_at hS (Nat.le_of_ble_eq_true rfl) mzcS_338) h3 (g_iinc rfl mzi_1 (Nat.le_of_ble_eq_true rfl) rfl (g_goto (tg := 19) rfl ms_503_19 ?_))
    refine g_weak ?_ (g_cl (hc1 ((s.1 + 1), mz_wI s.2 338 s.1 (mz_gI s.2 251 s.1)) hC))
    exact ⟨rfl, rfl, trivial⟩
  · have hp := hp.2 h1
    refine g_aload_n rfl ?_
    obtain ⟨h4, hp⟩ := hp
    refine g_v1v (Nat.le_of_ble_eq_true rfl) (mz_at hS (Nat.le_of_ble_eq_true rfl) mzcS_232) (fun _ hq => cs_439 (Nat.le_trans (Nat.le_of_ble_eq_true rfl) hd) (hS.le (Nat.le_of_ble_eq_true rfl)) (hR.le (Nat.le_of_ble_eq_true rfl))  s.2 h4 hq) (g_istore_n (Nat.le_of_ble_eq_true rfl) rfl (g_aload_n rfl (g_iload_n rfl ?_)))
    refine g_ifle (tg := 59) rfl ms_503_59 hC (fun h5 hC => ?_) (fun h5 hC => ?_)
    · have hp := hp.1 h5
      refine g_iconst mzi_1 (g_goto (tg := 60) rfl ms_503_60 ?_)
      refine g_weak ?_ (g_cl (cg_503_60 hd hS hR true ((cf_439_0 s.2).1) ((cf_439_0 s.2).2) hr hp (hx1 _ hC)))
      exact ⟨rfl, rfl, trivial⟩
    · have hp := hp.2 h5
      refine g_iconst mzi_0 ?_
      refine g_weak ?_ (g_cl (cg_503_60 hd hS hR false ((cf_439_0 s.2).1) ((cf_439_0 s.2).2) hr hp (hx1 _ hC)))
      exact ⟨rfl, rfl, trivial⟩
theorem cg_503_19 (hd : 9 ≤ d) (hS : mz_extR S 342) (hR : mz_rok R 342)  (v1 : Int32) (N : mz_N) {C0 : (Int32 × mz_N) → Prop} (hr : ∀ (w : Int32) (N2 : mz_N), C0 (w, N2) → Q (.inl (some (.int w))) (mz_k S R N2 b t)) (hp : cp_503_19 v1 N) (hC : C0 (cf_503_19 v1 N)) : mz_G (d, mz_X0 L xs, some .int, [], mk_503, 3, Q) 19 mt_503_19 [(0, .ref 232), (1, .int v1)] [] false (mz_k S R N b t) := by
  obtain ⟨n, hn⟩ := hp
  exact g_loop (G := fun s => mz_G (d, mz_X0 L xs, some .int, [], mk_503, 3, Q) 19 mt_503_19 [(0, .ref 232), (1, .int s.1)] [] false (mz_k S R s.2 b t)) (C := C0) (fun C2 hc hx s hP hC => cb_503_19 hd hS hR  s hr hc hx hP hC) n (v1, N) hn hC
theorem cg_503_0 (hd : 9 ≤ d) (hS : mz_extR S 342) (hR : mz_rok R 342)  (N : mz_N) {C0 : (Int32 × mz_N) → Prop} (hr : ∀ (w : Int32) (N2 : mz_N), C0 (w, N2) → Q (.inl (some (.int w))) (mz_k S R N2 b t)) (hp : cp_503_0 N) (hC : C0 (cf_503_0 N)) : mz_G (d, mz_X0 L xs, some .int, [], mk_503, 3, Q) 0 mk_503 [(0, .ref 232)] [] true (mz_k S R N b t) := by
  unfold cf_503_0 at hC
  unfold cp_503_0 at hp
  refine g_aload_n rfl ?_
  obtain ⟨h1, hp⟩ := hp
  refine g_v1v (Nat.le_of_ble_eq_true rfl) (mz_at hS (Nat.le_of_ble_eq_true rfl) mzcS_232) (fun _ hq => cs_484 (Nat.le_trans (Nat.le_of_ble_eq_true rfl) hd) (hS.le (Nat.le_of_ble_eq_true rfl)) (hR.le (Nat.le_of_ble_eq_true rfl))  N h1 hq) ?_
  refine g_zeq (tg := 9) rfl ms_503_9 hC (fun h2 hC => ?_) (fun h2 hC => ?_)
  · have hp := hp.1 h2
    refine g_iconst mzi_0 ?_
    exact g_iret rfl (hr _ _ hC)
  · have hp := hp.2 h2
    refine g_aload_n rfl (g_aload_n rfl (g_getI (mz_at hS (Nat.le_of_ble_eq_true rfl) mzcS_232) mzcf_12_25 (g_putI (mz_at hS (Nat.le_of_ble_eq_true rfl) mzcS_232) mzcf_12_147 (g_iconst mzi_0 (g_istore_n (Nat.le_of_ble_eq_true rfl) rfl ?_)))))
    refine g_weak ?_ (g_cl (cg_503_19 hd hS hR 0 (mz_pI ((cf_484_0 N).2) 232 147 (((cf_484_0 N).2).1 232 25)) hr hp hC))
    exact ⟨rfl, rfl, trivial⟩
theorem cs_503 (hd : 10 ≤ d) (hS : mz_extR S 342) (hR : mz_rok R 342)  (N : mz_N) (hp : cp_503_0 N) (hq : Q (.inl (some (.int ((cf_503_0 N).1)))) (mz_k S R ((cf_503_0 N).2) b t)) : mz_Ed (mz_X0 L xs) d 503 [.ref 232] (mz_k S R N b t) Q :=
  by
  refine g_in mzq_503 (Nat.le_of_ble_eq_true rfl) (Nat.le_of_ble_eq_true rfl) (Nat.le_trans (Nat.le_of_ble_eq_true rfl) hd) ?_
  refine g_weak ?_ (cg_503_0 (d := d - 1) (by omega) hS hR N (C0 := fun z => Q (.inl (some (.int z.1))) (mz_k S R z.2 b t)) (fun _ _ h => h) hp hq)
  exact ⟨rfl, trivial⟩
end Fn26
