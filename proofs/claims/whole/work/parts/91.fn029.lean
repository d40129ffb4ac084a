/-! THE FUNCTIONS: written by program: each method comes to its function. -/
section Fn29
variable {L : Nat} {xs : Nat → Int32} {d : Nat} {S : mz_S} {R : Nat → Nat → Option Nat} {Q : mz_Q} {N : mz_N} {b : Bool} {t : Nat}
/-! 526 KeptHouseModel.sideOf (I)I -/
theorem ms_526_0 : mz_sf mk_526 0 = mk_526 := mz_sf_zero _
theorem ms_526_17 : mz_sf mk_526 17 = mt_526_17 := mz_sf_add ms_526_0 (t := 17) rfl rfl
theorem ms_526_21 : mz_sf mk_526 21 = mt_526_21 := mz_sf_add ms_526_17 (t := 4) rfl rfl
theorem ms_526_31 : mz_sf mk_526 31 = mt_526_31 := mz_sf_add ms_526_21 (t := 10) rfl rfl
theorem ms_526_32 : mz_sf mk_526 32 = mt_526_32 := mz_sf_add ms_526_31 (t := 1) rfl rfl
set_option maxRecDepth 100000 in
theorem mzq_526 : mz_PG0 526 = some (12, ⟨"KeptHouseModel", "sideOf", "(I)I"⟩, prog_14_method_94_code, 1, some .int, [], mk_526, []) := rfl
theorem cg_526_0 (hd : 0 ≤ d) (hS : mz_extR S 342) (hR : mz_rok R 342)  (v0 : Int32) {C0 : (Int32) → Prop} (hr : ∀ (w : Int32), C0 w → Q (.inl (some (.int w))) (mz_k S R N b t)) (hp : cp_526_0 v0) (hC : C0 (cf_526_0 v0)) : mz_G (d, mz_X0 L xs, some .int, [], mk_526, 1, Q) 0 mk_526 [(0, .int v0)] [] true (mz_k S R N b t) := by
  unfold cf_526_0 at hC
  unfold cp_526_0 at hp
  refine g_iload_n rfl (g_bipush mzb_54 ?_)
  refine g_icge (tg := 21) rfl ms_526_21 hC (fun h1 hC => ?_) (fun h1 hC => ?_)
  · refine g_iload_n rfl (g_bipush mzb_9 (g_irem (by decide) ?_))
    refine g_ifne (tg := 17) rfl ms_526_17 hC (fun h2 hC => ?_) (fun h2 hC => ?_)
    · refine g_iconst mzi_0 (g_goto (tg := 32) rfl ms_526_32 ?_)
      exact g_iret rfl (hr _ hC)
    · refine g_iconst mzi_1 (g_goto (tg := 32) rfl ms_526_32 ?_)
      exact g_iret rfl (hr _ hC)
  · refine g_iload_n rfl (g_bipush mzb_62 ?_)
    refine g_icge (tg := 31) rfl ms_526_31 hC (fun h3 hC => ?_) (fun h3 hC => ?_)
    · refine g_iconst mzi_2 (g_goto (tg := 32) rfl ms_526_32 ?_)
      exact g_iret rfl (hr _ hC)
    · refine g_iconst mzi_3 ?_
      exact g_iret rfl (hr _ hC)
theorem cs_526 (hd : 1 ≤ d) (hS : mz_extR S 342) (hR : mz_rok R 342)  (v0 : Int32) (hp : cp_526_0 v0) (hq : Q (.inl (some (.int (cf_526_0 v0)))) (mz_k S R N b t)) : mz_Ed (mz_X0 L xs) d 526 [.int v0] (mz_k S R N b t) Q :=
  by
  refine g_in mzq_526 (Nat.le_of_ble_eq_true rfl) (Nat.le_of_ble_eq_true rfl) (Nat.le_trans (Nat.le_of_ble_eq_true rfl) hd) ?_
  refine g_weak ?_ (cg_526_0 (d := d - 1) (by omega) hS hR v0 (C0 := fun z => Q (.inl (some (.int z))) (mz_k S R N b t)) (fun _ h => h) hp hq)
  exact ⟨rfl, trivial⟩
/-! 528 KeptHouseModel.clip (JJJ)J -/
theorem ms_528_0 : mz_sf mk_528 0 = mk_528 := mz_sf_zero _
theorem ms_528_10 : mz_sf mk_528 10 = mt_528_10 := mz_sf_add ms_528_0 (t := 10) rfl rfl
theorem ms_528_22 : mz_sf mk_528 22 = mt_528_22 := mz_sf_add ms_528_10 (t := 12) rfl rfl
theorem ms_528_23 : mz_sf mk_528 23 = mt_528_23 := mz_sf_add ms_528_22 (t := 1) rfl rfl
set_option maxRecDepth 100000 in
theorem mzq_528 : mz_PG0 528 = some (12, ⟨"KeptHouseModel", "clip", "(JJJ)J"⟩, prog_14_method_96_code, 6, some .long, [], mk_528, []) := rfl
theorem cg_528_0 (hd : 0 ≤ d) (hS : mz_extR S 342) (hR : mz_rok R 342)  (v0 : Int64) (v2 : Int64) (v4 : Int64) {C0 : (Int64) → Prop} (hr : ∀ (w : Int64), C0 w → Q (.inl (some (.long w))) (mz_k S R N b t)) (hp : cp_528_0 v0 v2 v4) (hC : C0 (cf_528_0 v0 v2 v4)) : mz_G (d, mz_X0 L xs, some .long, [], mk_528, 6, Q) 0 mk_528 [(0, .long v0), (2, .long v2), (4, .long v4)] [] true (mz_k S R N b t) := by
  unfold cf_528_0 at hC
  unfold cp_528_0 at hp
  refine g_lload_n rfl (g_lload_n rfl (g_lcmp ?_))
  refine g_lge (tg := 10) rfl ms_528_10 hC (fun h1 hC => ?_) (fun h1 hC => ?_)
  · refine g_lload_n rfl (g_goto (tg := 23) rfl ms_528_23 ?_)
    exact g_lret rfl (hr _ hC)
  · refine g_lload_n rfl (g_lload rfl (g_lcmp ?_))
    refine g_lle (tg := 22) rfl ms_528_22 hC (fun h2 hC => ?_) (fun h2 hC => ?_)
    · refine g_lload rfl (g_goto (tg := 23) rfl ms_528_23 ?_)
      exact g_lret rfl (hr _ hC)
    · refine g_lload_n rfl ?_
      exact g_lret rfl (hr _ hC)
theorem cs_528 (hd : 1 ≤ d) (hS : mz_extR S 342) (hR : mz_rok R 342)  (v0 : Int64) (v2 : Int64) (v4 : Int64) (hp : cp_528_0 v0 v2 v4) (hq : Q (.inl (some (.long (cf_528_0 v0 v2 v4)))) (mz_k S R N b t)) : mz_Ed (mz_X0 L xs) d 528 [.long v0, .long v2, .long v4] (mz_k S R N b t) Q :=
  by
  refine g_in mzq_528 (Nat.le_of_ble_eq_true rfl) (Nat.le_of_ble_eq_true rfl) (Nat.le_trans (Nat.le_of_ble_eq_true rfl) hd) ?_
  refine g_weak ?_ (cg_528_0 (d := d - 1) (by omega) hS hR v0 v2 v4 (C0 := fun z => Q (.inl (some (.long z))) (mz_k S R N b t)) (fun _ h => h) hp hq)
  exact ⟨rfl, rfl, rfl, trivial⟩
/-! 529 KeptHouseModel.share (J[JI[J)Z -/
theorem ms_529_0 : mz_sf mk_529 0 = mk_529 := mz_sf_zero _
theorem ms_529_6 : mz_sf mk_529 6 = mt_529_6 := mz_sf_add ms_529_0 (t := 6) rfl rfl
theorem ms_529_28 : mz_sf mk_529 28 = mt_529_28 := mz_sf_add ms_529_6 (t := 22) rfl rfl
theorem ms_529_34 : mz_sf mk_529 34 = mt_529_34 := mz_sf_add ms_529_28 (t := 6) rfl rfl
theorem ms_529_43 : mz_sf mk_529 43 = mt_529_43 := mz_sf_add ms_529_34 (t := 9) rfl rfl
theorem ms_529_49 : mz_sf mk_529 49 = mt_529_49 := mz_sf_add ms_529_43 (t := 6) rfl rfl
theorem ms_529_70 : mz_sf mk_529 70 = mt_529_70 := mz_sf_add ms_529_49 (t := 21) rfl rfl
theorem ms_529_96 : mz_sf mk_529 96 = mt_529_96 := mz_sf_add ms_529_70 (t := 26) rfl rfl
theorem ms_529_102 : mz_sf mk_529 102 = mt_529_102 := mz_sf_add ms_529_96 (t := 6) rfl rfl
theorem ms_529_115 : mz_sf mk_529 115 = mt_529_115 := mz_sf_add ms_529_102 (t := 13) rfl rfl
theorem ms_529_140 : mz_sf mk_529 140 = mt_529_140 := mz_sf_add ms_529_115 (t := 25) rfl rfl
theorem ms_529_145 : mz_sf mk_529 145 = mt_529_145 := mz_sf_add ms_529_140 (t := 5) rfl rfl
theorem ms_529_147 : mz_sf mk_529 147 = mt_529_147 := mz_sf_add ms_529_145 (t := 2) rfl rfl
theorem ms_529_155 : mz_sf mk_529 155 = mt_529_155 := mz_sf_add ms_529_147 (t := 8) rfl rfl
theorem ms_529_174 : mz_sf mk_529 174 = mt_529_174 := mz_sf_add ms_529_155 (t := 19) rfl rfl
theorem ms_529_183 : mz_sf mk_529 183 = mt_529_183 := mz_sf_add ms_529_174 (t := 9) rfl rfl
set_option maxRecDepth 100000 in
theorem mzq_529 : mz_PG0 529 = some (12, ⟨"KeptHouseModel", "share", "(J[JI[J)Z"⟩, prog_14_method_98_code, 12, some .boolean, [], mk_529, []) := rfl
theorem cg_529_96 (hd : 0 ≤ d) (hS : mz_extR S 342) (hR : mz_rok R 342) (a2 : Nat) (n2 : Nat) (a4 : Nat) (hs2 : S[a2]? = some (1, n2, [])) (hs4 : S[a4]? = some (1, 41, [])) (v1 : Int64) (v4 : Int32) (v6 : Int64) (v8 : Int64) (v10 : Int32) (N : mz_N) {C0 : (Bool × mz_N) → Prop} (hr : ∀ (w : Bool) (N2 : mz_N), C0 (w, N2) → Q (.inl (some (.int (mz_b01 w)))) (mz_k S R N2 b t)) {C1 : ((Int64 × Int32 × mz_N) ⊕ (Bool × mz_N)) → Prop} (hc1 : ∀ s2, C1 (.inl s2) → mz_G (d, mz_X0 L xs, some .boolean, [], mk_529, 12, Q) 49 mt_529_49 [(0, .ref 232), (1, .long v1), (3, .ref a2), (4, .int v4), (5, .ref a4), (6, .long v6), (8, .long s2.1), (10, .int s2.2.1)] [] false (mz_k S R s2.2.2 b t)) (hx1 : ∀ z, C1 (.inr z) → C0 z) (hp : cp_529_96 a2 n2 a4 v1 v4 v6 v8 v10 N) (hC : C1 (cf_529_96 a2 n2 a4 v1 v4 v6 v8 v10 N)) : mz_G (d, mz_X0 L xs, some .boolean, [], mk_529, 12, Q) 96 mt_529_96 [(0, .ref 232), (1, .long v1), (3, .ref a2), (4, .int v4), (5, .ref a4), (6, .long v6), (8, .long v8), (10, .int v10)] [] false (mz_k S R N b t) := by
  unfold cf_529_96 at hC
  unfold cp_529_96 at hp
  refine g_iinc rfl mzi_1 (Nat.le_of_ble_eq_true rfl) rfl (g_goto (tg := 49) rfl ms_529_49 ?_)
  refine g_weak ?_ (g_cl (hc1 (v8, (v10 + 1), N) hC))
  exact ⟨rfl, rfl, rfl, rfl, rfl, rfl, rfl, rfl, trivial⟩
theorem cg_529_147 (hd : 0 ≤ d) (hS : mz_extR S 342) (hR : mz_rok R 342) (a2 : Nat) (n2 : Nat) (a4 : Nat) (hs2 : S[a2]? = some (1, n2, [])) (hs4 : S[a4]? = some (1, 41, [])) (s0 : Int32) (v4 : Int32) (v8 : Int64) (v11 : Int32) (N : mz_N) {C0 : (Bool × mz_N) → Prop} (hr : ∀ (w : Bool) (N2 : mz_N), C0 (w, N2) → Q (.inl (some (.int (mz_b01 w)))) (mz_k S R N2 b t)) {C1 : ((Int64 × mz_N) ⊕ (Bool × mz_N)) → Prop} (hc1 : ∀ s2, C1 (.inl s2) → mz_G (d, mz_X0 L xs, some .boolean, [], mk_529, 12, Q) 102 mt_529_102 [(0, .ref 232), (4, .int v4), (5, .ref a4), (8, .long s2.1)] [] false (mz_k S R s2.2 b t)) (hx1 : ∀ z, C1 (.inr z) → C0 z) {C2 : ((Int32 × Int32) ⊕ ((Int64 × mz_N) ⊕ (Bool × mz_N))) → Prop} (hc2 : ∀ s2, C2 (.inl s2) → mz_G (d, mz_X0 L xs, some .boolean, [], mk_529, 12, Q) 115 mt_529_115 [(0, .ref 232), (4, .int v4), (5, .ref a4), (8, .long v8), (10, .int s2.1), (11, .int s2.2)] [] false (mz_k S R N b t)) (hx2 : ∀ z, C2 (.inr z) → C1 z) (hp : cp_529_147 a2 n2 a4 s0 v4 v8 v11 N) (hC : C2 (cf_529_147 a2 n2 a4 s0 v4 v8 v11 N)) : mz_G (d, mz_X0 L xs, some .boolean, [], mk_529, 12, Q) 147 mt_529_147 [(0, .ref 232), (4, .int v4), (5, .ref a4), (8, .long v8), (11, .int v11)] [.int s0] false (mz_k S R N b t) := by
  unfold cf_529_147 at hC
  unfold cp_529_147 at hp
  refine g_istore (Nat.le_of_ble_eq_true rfl) rfl (g_iinc rfl mzi_1 (Nat.le_of_ble_eq_true rfl) rfl (g_goto (tg := 115) rfl ms_529_115 ?_))
  refine g_weak ?_ (g_cl (hc2 (s0, (v11 + 1)) hC))
  exact ⟨rfl, rfl, rfl, rfl, rfl, rfl, trivial⟩
theorem cb_529_115 (hd : 0 ≤ d) (hS : mz_extR S 342) (hR : mz_rok R 342) (a2 : Nat) (n2 : Nat) (a4 : Nat) (hs2 : S[a2]? = some (1, n2, [])) (hs4 : S[a4]? = some (1, 41, [])) (v4 : Int32) (v8 : Int64) (N : mz_N) (s : Int32 × Int32) {C0 : (Bool × mz_N) → Prop} (hr : ∀ (w : Bool) (N2 : mz_N), C0 (w, N2) → Q (.inl (some (.int (mz_b01 w)))) (mz_k S R N2 b t)) {C1 : ((Int64 × mz_N) ⊕ (Bool × mz_N)) → Prop} (hc1 : ∀ s2, C1 (.inl s2) → mz_G (d, mz_X0 L xs, some .boolean, [], mk_529, 12, Q) 102 mt_529_102 [(0, .ref 232), (4, .int v4), (5, .ref a4), (8, .long s2.1)] [] false (mz_k S R s2.2 b t)) (hx1 : ∀ z, C1 (.inr z) → C0 z) {C2 : ((Int32 × Int32) ⊕ ((Int64 × mz_N) ⊕ (Bool × mz_N))) → Prop} (hc2 : ∀ s2, C2 (.inl s2) → mz_G (d, mz_X0 L xs, some .boolean, [], mk_529, 12, Q) 115 mt_529_115 [(0, .ref 232), (4, .int v4), (5, .ref a4), (8, .long v8), (10, .int s2.1), (11, .int s2.2)] [] false (mz_k S R N b t)) (hx2 : ∀ z, C2 (.inr z) → C1 z) (hp : cd_529_115 a2 n2 a4 v4 v8 N s) (hC : C2 (cq_529_115 a2 n2 a4 v4 v8 N s)) : mz_G (d, mz_X0 L xs, some .boolean, [], mk_529, 12, Q) 115 mt_529_115 [(0, .ref 232), (4, .int v4), (5, .ref a4), (8, .long v8), (10, .int s.1), (11, .int s.2)] [] false (mz_k S R N b t) := by
  unfold cq_529_115 at hC
  unfold cd_529_115 at hp
  refine g_iload rfl (g_iload rfl ?_)
  refine g_icge (tg := 155) rfl ms_529_155 hC (fun h1 hC => ?_) (fun h1 hC => ?_)
  · have hp := hp.1 h1
    refine g_aload_n rfl (g_getR (mz_at hS (Nat.le_of_ble_eq_true rfl) mzcS_232) mzcf_12_128 (mz_rb hR (Nat.le_of_ble_eq_true rfl) rfl mzcR_232_128) (g_iload rfl ?_))
    obtain ⟨h2, hp⟩ := hp
    refine g_lald (mz_at hS (Nat.le_of_ble_eq_true rfl) mzcS_328) h2 (g_aload_n rfl (g_getR (mz_at hS (Nat.le_of_ble_eq_true rfl) mzcS_232) mzcf_12_128 (mz_rb hR (Nat.le_of_ble_eq_true rfl) rfl mzcR_232_128) (g_iload rfl ?_)))
    obtain ⟨h3, hp⟩ := hp
    refine g_lald (mz_at hS (Nat.le_of_ble_eq_true rfl) mzcS_328) h3 (g_lcmp ?_)
    refine g_lle (tg := 145) rfl ms_529_145 hC (fun h4 hC => ?_) (fun h4 hC => ?_)
    · have hp := hp.1 h4
      refine g_iload rfl (g_goto (tg := 147) rfl ms_529_147 ?_)
      refine g_weak ?_ (g_cl (cg_529_147 hd hS hR a2 n2 a4 hs2 hs4 s.2 v4 v8 s.2 N hr hc1 hx1 hc2 hx2 hp hC))
      exact ⟨rfl, rfl, rfl, rfl, rfl, trivial⟩
    · have hp := hp.2 h4
      refine g_iload rfl ?_
      refine g_weak ?_ (g_cl (cg_529_147 hd hS hR a2 n2 a4 hs2 hs4 s.1 v4 v8 s.2 N hr hc1 hx1 hc2 hx2 hp hC))
      exact ⟨rfl, rfl, rfl, rfl, rfl, trivial⟩
  · have hp := hp.2 h1
    refine g_aload rfl (g_iload rfl (g_dup2 rfl rfl ?_))
    obtain ⟨h5, hp⟩ := hp
    refine g_lald hs4 h5 (g_lconst mzl_1 (g_ladd ?_))
    obtain ⟨h6, hp⟩ := hp
    refine g_last hs4 h6 (g_aload_n rfl (g_getR (mz_at hS (Nat.le_of_ble_eq_true rfl) mzcS_232) mzcf_12_128 (mz_rb hR (Nat.le_of_ble_eq_true rfl) rfl mzcR_232_128) (g_iload rfl (g_con3 ?_))))
    have h7 := hp
    refine g_last (mz_at hS (Nat.le_of_ble_eq_true rfl) mzcS_328) h7 (g_lload rfl (g_lconst mzl_1 (g_lsub (g_lstore (Nat.le_of_ble_eq_true rfl) rfl rfl (g_goto (tg := 102) rfl ms_529_102 ?_)))))
    have hg := hc1 ((v8 - 1), mz_wL (mz_wL N a4 s.1 ((mz_gL N a4 s.1) + 1)) 328 s.1 (-1)) (hx2 _ hC)
    try dsimp only at hg
    refine g_weak ?_ (g_cl hg)
    exact ⟨rfl, rfl, rfl, rfl, trivial⟩
theorem cg_529_115 (hd : 0 ≤ d) (hS : mz_extR S 342) (hR : mz_rok R 342) (a2 : Nat) (n2 : Nat) (a4 : Nat) (hs2 : S[a2]? = some (1, n2, [])) (hs4 : S[a4]? = some (1, 41, [])) (v4 : Int32) (v8 : Int64) (v10 : Int32) (v11 : Int32) (N : mz_N) {C0 : (Bool × mz_N) → Prop} (hr : ∀ (w : Bool) (N2 : mz_N), C0 (w, N2) → Q (.inl (some (.int (mz_b01 w)))) (mz_k S R N2 b t)) {C1 : ((Int64 × mz_N) ⊕ (Bool × mz_N)) → Prop} (hc1 : ∀ s2, C1 (.inl s2) → mz_G (d, mz_X0 L xs, some .boolean, [], mk_529, 12, Q) 102 mt_529_102 [(0, .ref 232), (4, .int v4), (5, .ref a4), (8, .long s2.1)] [] false (mz_k S R s2.2 b t)) (hx1 : ∀ z, C1 (.inr z) → C0 z) (hp : cp_529_115 a2 n2 a4 v4 v8 v10 v11 N) (hC : C1 (cf_529_115 a2 n2 a4 v4 v8 v10 v11 N)) : mz_G (d, mz_X0 L xs, some .boolean, [], mk_529, 12, Q) 115 mt_529_115 [(0, .ref 232), (4, .int v4), (5, .ref a4), (8, .long v8), (10, .int v10), (11, .int v11)] [] false (mz_k S R N b t) := by
  obtain ⟨n, hn⟩ := hp
  exact g_loop (G := fun s => mz_G (d, mz_X0 L xs, some .boolean, [], mk_529, 12, Q) 115 mt_529_115 [(0, .ref 232), (4, .int v4), (5, .ref a4), (8, .long v8), (10, .int s.1), (11, .int s.2)] [] false (mz_k S R N b t)) (C := C1) (fun C2 hc hx s hP hC => cb_529_115 hd hS hR a2 n2 a4 hs2 hs4 v4 v8 N s hr hc1 hx1 hc hx hP hC) n (v10, v11) hn hC
theorem cb_529_102 (hd : 0 ≤ d) (hS : mz_extR S 342) (hR : mz_rok R 342) (a2 : Nat) (n2 : Nat) (a4 : Nat) (hs2 : S[a2]? = some (1, n2, [])) (hs4 : S[a4]? = some (1, 41, [])) (v4 : Int32) (s : Int64 × mz_N) {C0 : (Bool × mz_N) → Prop} (hr : ∀ (w : Bool) (N2 : mz_N), C0 (w, N2) → Q (.inl (some (.int (mz_b01 w)))) (mz_k S R N2 b t)) {C1 : ((Int64 × mz_N) ⊕ (Bool × mz_N)) → Prop} (hc1 : ∀ s2, C1 (.inl s2) → mz_G (d, mz_X0 L xs, some .boolean, [], mk_529, 12, Q) 102 mt_529_102 [(0, .ref 232), (4, .int v4), (5, .ref a4), (8, .long s2.1)] [] false (mz_k S R s2.2 b t)) (hx1 : ∀ z, C1 (.inr z) → C0 z) (hp : cd_529_102 a2 n2 a4 v4 s) (hC : C1 (cq_529_102 a2 n2 a4 v4 s)) : mz_G (d, mz_X0 L xs, some .boolean, [], mk_529, 12, Q) 102 mt_529_102 [(0, .ref 232), (4, .int v4), (5, .ref a4), (8, .long s.1)] [] false (mz_k S R s.2 b t) := by
  unfold cq_529_102 at hC
  unfold cd_529_102 at hp
  refine g_lload rfl (g_lconst mzl_0 (g_lcmp ?_))
  refine g_lle (tg := 183) rfl ms_529_183 hC (fun h1 hC => ?_) (fun h1 hC => ?_)
  · have hp := hp.1 h1
    refine g_iconst mzi_0 (g_istore (Nat.le_of_ble_eq_true rfl) rfl (g_iconst mzi_1 (g_istore (Nat.le_of_ble_eq_true rfl) rfl ?_)))
    refine g_weak ?_ (g_cl (cg_529_115 hd hS hR a2 n2 a4 hs2 hs4 v4 s.1 0 1 s.2 hr hc1 hx1 hp hC))
    exact ⟨rfl, rfl, rfl, rfl, rfl, rfl, trivial⟩
  · have hp := hp.2 h1
    refine g_iconst mzi_1 ?_
    exact g_zret (z := true) rfl (hr _ _ (hx1 _ hC))
theorem cg_529_102 (hd : 0 ≤ d) (hS : mz_extR S 342) (hR : mz_rok R 342) (a2 : Nat) (n2 : Nat) (a4 : Nat) (hs2 : S[a2]? = some (1, n2, [])) (hs4 : S[a4]? = some (1, 41, [])) (v4 : Int32) (v8 : Int64) (N : mz_N) {C0 : (Bool × mz_N) → Prop} (hr : ∀ (w : Bool) (N2 : mz_N), C0 (w, N2) → Q (.inl (some (.int (mz_b01 w)))) (mz_k S R N2 b t)) (hp : cp_529_102 a2 n2 a4 v4 v8 N) (hC : C0 (cf_529_102 a2 n2 a4 v4 v8 N)) : mz_G (d, mz_X0 L xs, some .boolean, [], mk_529, 12, Q) 102 mt_529_102 [(0, .ref 232), (4, .int v4), (5, .ref a4), (8, .long v8)] [] false (mz_k S R N b t) := by
  obtain ⟨n, hn⟩ := hp
  exact g_loop (G := fun s => mz_G (d, mz_X0 L xs, some .boolean, [], mk_529, 12, Q) 102 mt_529_102 [(0, .ref 232), (4, .int v4), (5, .ref a4), (8, .long s.1)] [] false (mz_k S R s.2 b t)) (C := C0) (fun C2 hc hx s hP hC => cb_529_102 hd hS hR a2 n2 a4 hs2 hs4 v4 s hr hc hx hP hC) n (v8, N) hn hC
theorem cb_529_49 (hd : 0 ≤ d) (hS : mz_extR S 342) (hR : mz_rok R 342) (a2 : Nat) (n2 : Nat) (a4 : Nat) (hs2 : S[a2]? = some (1, n2, [])) (hs4 : S[a4]? = some (1, 41, [])) (v1 : Int64) (v4 : Int32) (v6 : Int64) (s : Int64 × Int32 × mz_N) {C0 : (Bool × mz_N) → Prop} (hr : ∀ (w : Bool) (N2 : mz_N), C0 (w, N2) → Q (.inl (some (.int (mz_b01 w)))) (mz_k S R N2 b t)) {C1 : ((Int64 × Int32 × mz_N) ⊕ (Bool × mz_N)) → Prop} (hc1 : ∀ s2, C1 (.inl s2) → mz_G (d, mz_X0 L xs, some .boolean, [], mk_529, 12, Q) 49 mt_529_49 [(0, .ref 232), (1, .long v1), (3, .ref a2), (4, .int v4), (5, .ref a4), (6, .long v6), (8, .long s2.1), (10, .int s2.2.1)] [] false (mz_k S R s2.2.2 b t)) (hx1 : ∀ z, C1 (.inr z) → C0 z) (hp : cd_529_49 a2 n2 a4 v1 v4 v6 s) (hC : C1 (cq_529_49 a2 n2 a4 v1 v4 v6 s)) : mz_G (d, mz_X0 L xs, some .boolean, [], mk_529, 12, Q) 49 mt_529_49 [(0, .ref 232), (1, .long v1), (3, .ref a2), (4, .int v4), (5, .ref a4), (6, .long v6), (8, .long s.1), (10, .int s.2.1)] [] false (mz_k S R s.2.2 b t) := by
  unfold cq_529_49 at hC
  unfold cd_529_49 at hp
  refine g_iload rfl (g_iload rfl ?_)
  refine g_icge (tg := 102) rfl ms_529_102 hC (fun h1 hC => ?_) (fun h1 hC => ?_)
  · have hp := hp.1 h1
    refine g_aload rfl (g_iload rfl (g_lload_n rfl (g_aload_n rfl (g_iload rfl ?_))))
    obtain ⟨h2, hp⟩ := hp
    refine g_lald hs2 h2 (g_lmul (g_lload rfl ?_))
    obtain ⟨h3, hp⟩ := hp
    refine g_ldiv h3 ?_
    obtain ⟨h4, hp⟩ := hp
    refine g_last hs4 h4 (g_aload_n rfl (g_getR (mz_at hS (Nat.le_of_ble_eq_true rfl) mzcS_232) mzcf_12_128 (mz_rb hR (Nat.le_of_ble_eq_true rfl) rfl mzcR_232_128) (g_iload rfl (g_lload_n rfl (g_aload_n rfl (g_iload rfl ?_))))))
    obtain ⟨h5, hp⟩ := hp
    refine g_lald hs2 h5 (g_lmul (g_lload rfl ?_))
    obtain ⟨h6, hp⟩ := hp
    refine g_lrem h6 ?_
    obtain ⟨h7, hp⟩ := hp
    refine g_last (mz_at hS (Nat.le_of_ble_eq_true rfl) mzcS_328) h7 (g_lload rfl (g_aload rfl (g_iload rfl ?_)))
    obtain ⟨h8, hp⟩ := hp
    refine g_lald hs4 h8 (g_lsub (g_lstore (Nat.le_of_ble_eq_true rfl) rfl rfl ?_))
    refine g_weak ?_ (g_cl (cg_529_96 hd hS hR a2 n2 a4 hs2 hs4 v1 v4 v6 (s.1 - (mz_gL (mz_wL (mz_wL s.2.2 a4 s.2.1 ((v1 * (mz_gL s.2.2 a2 s.2.1)) / v6)) 328 s.2.1 (mz_lrem (v1 * (mz_gL (mz_wL s.2.2 a4 s.2.1 ((v1 * (mz_gL s.2.2 a2 s.2.1)) / v6)) a2 s.2.1)) v6)) a4 s.2.1)) s.2.1 (mz_wL (mz_wL s.2.2 a4 s.2.1 ((v1 * (mz_gL s.2.2 a2 s.2.1)) / v6)) 328 s.2.1 (mz_lrem (v1 * (mz_gL (mz_wL s.2.2 a4 s.2.1 ((v1 * (mz_gL s.2.2 a2 s.2.1)) / v6)) a2 s.2.1)) v6)) hr hc1 hx1 hp hC))
    exact ⟨rfl, rfl, rfl, rfl, rfl, rfl, rfl, rfl, trivial⟩
  · have hp := hp.2 h1
    refine g_weak ?_ (g_cl (cg_529_102 hd hS hR a2 n2 a4 hs2 hs4 v4 s.1 s.2.2 hr hp (hx1 _ hC)))
    exact ⟨rfl, rfl, rfl, rfl, trivial⟩
theorem cg_529_49 (hd : 0 ≤ d) (hS : mz_extR S 342) (hR : mz_rok R 342) (a2 : Nat) (n2 : Nat) (a4 : Nat) (hs2 : S[a2]? = some (1, n2, [])) (hs4 : S[a4]? = some (1, 41, [])) (v1 : Int64) (v4 : Int32) (v6 : Int64) (v8 : Int64) (v10 : Int32) (N : mz_N) {C0 : (Bool × mz_N) → Prop} (hr : ∀ (w : Bool) (N2 : mz_N), C0 (w, N2) → Q (.inl (some (.int (mz_b01 w)))) (mz_k S R N2 b t)) (hp : cp_529_49 a2 n2 a4 v1 v4 v6 v8 v10 N) (hC : C0 (cf_529_49 a2 n2 a4 v1 v4 v6 v8 v10 N)) : mz_G (d, mz_X0 L xs, some .boolean, [], mk_529, 12, Q) 49 mt_529_49 [(0, .ref 232), (1, .long v1), (3, .ref a2), (4, .int v4), (5, .ref a4), (6, .long v6), (8, .long v8), (10, .int v10)] [] false (mz_k S R N b t) := by
  obtain ⟨n, hn⟩ := hp
  exact g_loop (G := fun s => mz_G (d, mz_X0 L xs, some .boolean, [], mk_529, 12, Q) 49 mt_529_49 [(0, .ref 232), (1, .long v1), (3, .ref a2), (4, .int v4), (5, .ref a4), (6, .long v6), (8, .long s.1), (10, .int s.2.1)] [] false (mz_k S R s.2.2 b t)) (C := C0) (fun C2 hc hx s hP hC => cb_529_49 hd hS hR a2 n2 a4 hs2 hs4 v1 v4 v6 s hr hc hx hP hC) n (v8, v10, N) hn hC
theorem cb_529_6 (hd : 0 ≤ d) (hS : mz_extR S 342) (hR : mz_rok R 342) (a2 : Nat) (n2 : Nat) (a4 : Nat) (hs2 : S[a2]? = some (1, n2, [])) (hs4 : S[a4]? = some (1, 41, [])) (v1 : Int64) (v4 : Int32) (s : Int64 × Int32 × mz_N) {C0 : (Bool × mz_N) → Prop} (hr : ∀ (w : Bool) (N2 : mz_N), C0 (w, N2) → Q (.inl (some (.int (mz_b01 w)))) (mz_k S R N2 b t)) {C1 : ((Int64 × Int32 × mz_N) ⊕ (Bool × mz_N)) → Prop} (hc1 : ∀ s2, C1 (.inl s2) → mz_G (d, mz_X0 L xs, some .boolean, [], mk_529, 12, Q) 6 mt_529_6 [(0, .ref 232), (1, .long v1), (3, .ref a2), (4, .int v4), (5, .ref a4), (6, .long s2.1), (8, .int s2.2.1)] [] false (mz_k S R s2.2.2 b t)) (hx1 : ∀ z, C1 (.inr z) → C0 z) (hp : cd_529_6 a2 n2 a4 v1 v4 s) (hC : C1 (cq_529_6 a2 n2 a4 v1 v4 s)) : mz_G (d, mz_X0 L xs, some .boolean, [], mk_529, 12, Q) 6 mt_529_6 [(0, .ref 232), (1, .long v1), (3, .ref a2), (4, .int v4), (5, .ref a4), (6, .long s.1), (8, .int s.2.1)] [] false (mz_k S R s.2.2 b t) := by
  unfold cq_529_6 at hC
  unfold cd_529_6 at hp
  refine g_iload rfl (g_iload rfl ?_)
  refine g_icge (tg := 34) rfl ms_529_34 hC (fun h1 hC => ?_) (fun h1 hC => ?_)
  · have hp := hp.1 h1
    refine g_lload rfl (g_aload_n rfl (g_iload rfl ?_))
    obtain ⟨h2, hp⟩ := hp
    refine g_lald hs2 h2 (g_ladd (g_lstore (Nat.le_of_ble_eq_true rfl) rfl rfl (g_aload rfl (g_iload rfl (g_lconst mzl_0 ?_)))))
    have h3 := hp
    refine g_last hs4 h3 (g_iinc rfl mzi_1 (Nat.le_of_ble_eq_true rfl) rfl (g_goto (tg := 6) rfl ms_529_6 ?_))
    refine g_weak ?_ (g_cl (hc1 ((s.1 + (mz_gL s.2.2 a2 s.2.1)), (s.2.1 + 1), mz_wL s.2.2 a4 s.2.1 0) hC))
    exact ⟨rfl, rfl, rfl, rfl, rfl, rfl, rfl, trivial⟩
  · have hp := hp.2 h1
    refine g_lload rfl (g_lconst mzl_0 (g_lcmp ?_))
    refine g_lne (tg := 43) rfl ms_529_43 hC (fun h4 hC => ?_) (fun h4 hC => ?_)
    · have hp := hp.1 h4
      refine g_iconst mzi_0 ?_
      exact g_zret (z := false) rfl (hr _ _ (hx1 _ hC))
    · have hp := hp.2 h4
      refine g_lload_n rfl (g_lstore (Nat.le_of_ble_eq_true rfl) rfl rfl (g_iconst mzi_0 (g_istore (Nat.le_of_ble_eq_true rfl) rfl ?_)))
      refine g_weak ?_ (g_cl (cg_529_49 hd hS hR a2 n2 a4 hs2 hs4 v1 v4 s.1 v1 0 s.2.2 hr hp (hx1 _ hC)))
      exact ⟨rfl, rfl, rfl, rfl, rfl, rfl, rfl, rfl, trivial⟩
theorem cg_529_6 (hd : 0 ≤ d) (hS : mz_extR S 342) (hR : mz_rok R 342) (a2 : Nat) (n2 : Nat) (a4 : Nat) (hs2 : S[a2]? = some (1, n2, [])) (hs4 : S[a4]? = some (1, 41, [])) (v1 : Int64) (v4 : Int32) (v6 : Int64) (v8 : Int32) (N : mz_N) {C0 : (Bool × mz_N) → Prop} (hr : ∀ (w : Bool) (N2 : mz_N), C0 (w, N2) → Q (.inl (some (.int (mz_b01 w)))) (mz_k S R N2 b t)) (hp : cp_529_6 a2 n2 a4 v1 v4 v6 v8 N) (hC : C0 (cf_529_6 a2 n2 a4 v1 v4 v6 v8 N)) : mz_G (d, mz_X0 L xs, some .boolean, [], mk_529, 12, Q) 6 mt_529_6 [(0, .ref 232), (1, .long v1), (3, .ref a2), (4, .int v4), (5, .ref a4), (6, .long v6), (8, .int v8)] [] false (mz_k S R N b t) := by
  obtain ⟨n, hn⟩ := hp
  exact g_loop (G := fun s => mz_G (d, mz_X0 L xs, some .boolean, [], mk_529, 12, Q) 6 mt_529_6 [(0, .ref 232), (1, .long v1), (3, .ref a2), (4, .int v4), (5, .ref a4), (6, .long s.1), (8, .int s.2.1)] [] false (mz_k S R s.2.2 b t)) (C := C0) (fun C2 hc hx s hP hC => cb_529_6 hd hS hR a2 n2 a4 hs2 hs4 v1 v4 s hr hc hx hP hC) n (v6, v8, N) hn hC
theorem cg_529_0 (hd : 0 ≤ d) (hS : mz_extR S 342) (hR : mz_rok R 342) (a2 : Nat) (n2 : Nat) (a4 : Nat) (hs2 : S[a2]? = some (1, n2, [])) (hs4 : S[a4]? = some (1, 41, [])) (v1 : Int64) (v4 : Int32) (N : mz_N) {C0 : (Bool × mz_N) → Prop} (hr : ∀ (w : Bool) (N2 : mz_N), C0 (w, N2) → Q (.inl (some (.int (mz_b01 w)))) (mz_k S R N2 b t)) (hp : cp_529_0 a2 n2 a4 v1 v4 N) (hC : C0 (cf_529_0 a2 n2 a4 v1 v4 N)) : mz_G (d, mz_X0 L xs, some .boolean, [], mk_529, 12, Q) 0 mk_529 [(0, .ref 232), (1, .long v1), (3, .ref a2), (4, .int v4), (5, .ref a4)] [] true (mz_k S R N b t) := by
  unfold cf_529_0 at hC
  unfold cp_529_0 at hp
  refine g_lconst mzl_0 (g_lstore (Nat.le_of_ble_eq_true rfl) rfl rfl (g_iconst mzi_0 (g_istore (Nat.le_of_ble_eq_true rfl) rfl ?_)))
  refine g_weak ?_ (g_cl (cg_529_6 hd hS hR a2 n2 a4 hs2 hs4 v1 v4 0 0 N hr hp hC))
  exact ⟨rfl, rfl, rfl, rfl, rfl, rfl, rfl, trivial⟩
theorem cs_529 (hd : 1 ≤ d) (hS : mz_extR S 342) (hR : mz_rok R 342) (a2 : Nat) (n2 : Nat) (a4 : Nat) (hs2 : S[a2]? = some (1, n2, [])) (hs4 : S[a4]? = some (1, 41, [])) (v1 : Int64) (v4 : Int32) (N : mz_N) (hp : cp_529_0 a2 n2 a4 v1 v4 N) (hq : Q (.inl (some (.int (mz_b01 ((cf_529_0 a2 n2 a4 v1 v4 N).1))))) (mz_k S R ((cf_529_0 a2 n2 a4 v1 v4 N).2) b t)) : mz_Ed (mz_X0 L xs) d 529 [.ref 232, .long v1, .ref a2, .int v4, .ref a4] (mz_k S R N b t) Q :=
  by
  refine g_in mzq_529 (Nat.le_of_ble_eq_true rfl) (Nat.le_of_ble_eq_true rfl) (Nat.le_trans (Nat.le_of_ble_eq_true rfl) hd) ?_
  refine g_weak ?_ (cg_529_0 (d := d - 1) (by omega) hS hR a2 n2 a4 hs2 hs4 v1 v4 N (C0 := fun z => Q (.inl (some (.int (mz_b01 z.1)))) (mz_k S R z.2 b t)) (fun _ _ h => h) hp hq)
  exact ⟨rfl, rfl, rfl, rfl, rfl, trivial⟩
/-! 527 KeptHouseModel.boil ()V -/
theorem ms_527_0 : mz_sf mk_527 0 = mk_527 := mz_sf_zero _
theorem ms_527_25 : mz_sf mk_527 25 = mt_527_25 := mz_sf_add ms_527_0 (t := 25) rfl rfl
theorem ms_527_34 : mz_sf mk_527 34 = mt_527_34 := mz_sf_add ms_527_25 (t := 9) rfl rfl
theorem ms_527_35 : mz_sf mk_527 35 = mt_527_35 := mz_sf_add ms_527_34 (t := 1) rfl rfl
theorem ms_527_39 : mz_sf mk_527 39 = mt_527_39 := mz_sf_add ms_527_35 (t := 4) rfl rfl
theorem ms_527_72 : mz_sf mk_527 72 = mt_527_72 := mz_sf_add ms_527_39 (t := 33) rfl rfl
theorem ms_527_75 : mz_sf mk_527 75 = mt_527_75 := mz_sf_add ms_527_72 (t := 3) rfl rfl
theorem ms_527_119 : mz_sf mk_527 119 = mt_527_119 := mz_sf_add ms_527_75 (t := 44) rfl rfl
theorem ms_527_134 : mz_sf mk_527 134 = mt_527_134 := mz_sf_add ms_527_119 (t := 15) rfl rfl
theorem ms_527_159 : mz_sf mk_527 159 = mt_527_159 := mz_sf_add ms_527_134 (t := 25) rfl rfl
theorem ms_527_186 : mz_sf mk_527 186 = mt_527_186 := mz_sf_add ms_527_159 (t := 27) rfl rfl
theorem ms_527_191 : mz_sf mk_527 191 = mt_527_191 := mz_sf_add ms_527_186 (t := 5) rfl rfl
theorem ms_527_217 : mz_sf mk_527 217 = mt_527_217 := mz_sf_add ms_527_191 (t := 26) rfl rfl
theorem ms_527_219 : mz_sf mk_527 219 = mt_527_219 := mz_sf_add ms_527_217 (t := 2) rfl rfl
theorem ms_527_249 : mz_sf mk_527 249 = mt_527_249 := mz_sf_add ms_527_219 (t := 30) rfl rfl
theorem ms_527_265 : mz_sf mk_527 265 = mt_527_265 := mz_sf_add ms_527_249 (t := 16) rfl rfl
theorem ms_527_267 : mz_sf mk_527 267 = mt_527_267 := mz_sf_add ms_527_265 (t := 2) rfl rfl
theorem ms_527_283 : mz_sf mk_527 283 = mt_527_283 := mz_sf_add ms_527_267 (t := 16) rfl rfl
theorem ms_527_321 : mz_sf mk_527 321 = mt_527_321 := mz_sf_add ms_527_283 (t := 38) rfl rfl
theorem ms_527_346 : mz_sf mk_527 346 = mt_527_346 := mz_sf_add ms_527_321 (t := 25) rfl rfl
set_option maxRecDepth 100000 in
theorem mzq_527 : mz_PG0 527 = some (12, ⟨"KeptHouseModel", "boil", "()V"⟩, prog_14_method_97_code, 7, none, [], mk_527, []) := rfl
theorem cg_527_119 (hd : 1 ≤ d) (hS : mz_extR S 342) (hR : mz_rok R 342)  (v1 : Int64) (v3 : Int32) (N : mz_N) {C0 : (mz_N) → Prop} (hr : ∀ (N2 : mz_N), C0 N2 → Q (.inl none) (mz_k S R N2 b t)) {C1 : ((Int64 × Int32 × mz_N) ⊕ (mz_N)) → Prop} (hc1 : ∀ s2, C1 (.inl s2) → mz_G (d, mz_X0 L xs, none, [], mk_527, 7, Q) 39 mt_527_39 [(0, .ref 232), (1, .long s2.1), (3, .int s2.2.1)] [] false (mz_k S R s2.2.2 b t)) (hx1 : ∀ z, C1 (.inr z) → C0 z) (hp : cp_527_119 v1 v3 N) (hC : C1 (cf_527_119 v1 v3 N)) : mz_G (d, mz_X0 L xs, none, [], mk_527, 7, Q) 119 mt_527_119 [(0, .ref 232), (1, .long v1), (3, .int v3)] [] false (mz_k S R N b t) := by
  unfold cf_527_119 at hC
  unfold cp_527_119 at hp
  refine g_lload_n rfl (g_aload_n rfl (g_getR (mz_at hS (Nat.le_of_ble_eq_true rfl) mzcS_232) mzcf_12_50 (mz_rb hR (Nat.le_of_ble_eq_true rfl) rfl mzcR_232_50) (g_iload_n rfl ?_)))
  have h1 := hp
  refine g_lald (mz_at hS (Nat.le_of_ble_eq_true rfl) mzcS_270) h1 (g_ladd (g_lstore_n (Nat.le_of_ble_eq_true rfl) rfl rfl (g_iinc rfl mzi_1 (Nat.le_of_ble_eq_true rfl) rfl (g_goto (tg := 39) rfl ms_527_39 ?_))))
  refine g_weak ?_ (g_cl (hc1 ((v1 + (mz_gL N 270 v3)), (v3 + 1), N) hC))
  exact ⟨rfl, rfl, rfl, trivial⟩
theorem cg_527_75 (hd : 1 ≤ d) (hS : mz_extR S 342) (hR : mz_rok R 342)  (s0 : Int64) (v1 : Int64) (v3 : Int32) (N : mz_N) {C0 : (mz_N) → Prop} (hr : ∀ (N2 : mz_N), C0 N2 → Q (.inl none) (mz_k S R N2 b t)) {C1 : ((Int64 × Int32 × mz_N) ⊕ (mz_N)) → Prop} (hc1 : ∀ s2, C1 (.inl s2) → mz_G (d, mz_X0 L xs, none, [], mk_527, 7, Q) 39 mt_527_39 [(0, .ref 232), (1, .long s2.1), (3, .int s2.2.1)] [] false (mz_k S R s2.2.2 b t)) (hx1 : ∀ z, C1 (.inr z) → C0 z) (hp : cp_527_75 s0 v1 v3 N) (hC : C1 (cf_527_75 s0 v1 v3 N)) : mz_G (d, mz_X0 L xs, none, [], mk_527, 7, Q) 75 mt_527_75 [(0, .ref 232), (1, .long v1), (3, .int v3)] [.long s0] false (mz_k S R N b t) := by
  unfold cf_527_75 at hC
  unfold cp_527_75 at hp
  refine g_lstore (Nat.le_of_ble_eq_true rfl) rfl rfl (g_aload_n rfl (g_getR (mz_at hS (Nat.le_of_ble_eq_true rfl) mzcS_232) mzcf_12_50 (mz_rb hR (Nat.le_of_ble_eq_true rfl) rfl mzcR_232_50) (g_iload_n rfl (g_con3 (g_aload_n rfl (g_getR (mz_at hS (Nat.le_of_ble_eq_true rfl) mzcS_232) mzcf_12_9 (mz_rb hR (Nat.le_of_ble_eq_true rfl) rfl mzcR_232_9) (g_iload_n rfl ?_)))))))
  obtain ⟨h1, hp⟩ := hp
  refine g_iald hS.1 (mz_at hS (Nat.le_of_ble_eq_true rfl) mzcS_237) h1 (g_i2l (g_lmul (g_lload rfl (g_lmul (g_aload_n rfl (g_getR (mz_at hS (Nat.le_of_ble_eq_true rfl) mzcS_232) mzcf_12_48 (mz_rb hR (Nat.le_of_ble_eq_true rfl) rfl mzcR_232_48) (g_iload_n rfl ?_)))))))
  obtain ⟨h2, hp⟩ := hp
  refine g_lald (mz_at hS (Nat.le_of_ble_eq_true rfl) mzcS_268) h2 (g_lsub (g_lconst mzl_0 (g_con3 (g_aload_n rfl (g_getR (mz_at hS (Nat.le_of_ble_eq_true rfl) mzcS_232) mzcf_12_9 (mz_rb hR (Nat.le_of_ble_eq_true rfl) rfl mzcR_232_9) (g_iload_n rfl ?_))))))
  obtain ⟨h3, hp⟩ := hp
  refine g_iald hS.1 (mz_at hS (Nat.le_of_ble_eq_true rfl) mzcS_237) h3 (g_i2l (g_lmul ?_))
  refine g_s3v (Nat.le_of_ble_eq_true rfl) (fun _ hq => cs_528 (Nat.le_trans (Nat.le_of_ble_eq_true rfl) hd) (hS.le (Nat.le_of_ble_eq_true rfl)) (hR.le (Nat.le_of_ble_eq_true rfl))  (((100 * ((mz_gI N 237 v3).toInt64)) * s0) - (mz_gL N 268 v3)) 0 (60 * ((mz_gI N 237 v3).toInt64)) trivial hq) ?_
  obtain ⟨h5, hp⟩ := hp
  refine g_last (mz_at hS (Nat.le_of_ble_eq_true rfl) mzcS_270) h5 ?_
  refine g_weak ?_ (g_cl (cg_527_119 hd hS hR v1 v3 (mz_wL N 270 v3 (cf_528_0 (((100 * ((mz_gI N 237 v3).toInt64)) * s0) - (mz_gL N 268 v3)) 0 (60 * ((mz_gI N 237 v3).toInt64)))) hr hc1 hx1 hp hC))
  exact ⟨rfl, rfl, rfl, trivial⟩
theorem cg_527_321 (hd : 1 ≤ d) (hS : mz_extR S 342) (hR : mz_rok R 342)  (N : mz_N) {C0 : (mz_N) → Prop} (hr : ∀ (N2 : mz_N), C0 N2 → Q (.inl none) (mz_k S R N2 b t)) (hp : cp_527_321 N) (hC : C0 (cf_527_321 N)) : mz_G (d, mz_X0 L xs, none, [], mk_527, 7, Q) 321 mt_527_321 [(0, .ref 232)] [] false (mz_k S R N b t) := by
  unfold cf_527_321 at hC
  unfold cp_527_321 at hp
  refine g_aload_n rfl (g_dup rfl (g_getL (mz_at hS (Nat.le_of_ble_eq_true rfl) mzcS_232) mzcf_12_124 (g_con3 (g_aload_n rfl (g_getL (mz_at hS (Nat.le_of_ble_eq_true rfl) mzcS_232) mzcf_12_66 (g_lmul (g_con3 ?_)))))))
  refine g_ladd (g_con3 (g_ldiv (by decide) (g_ladd (g_putL (mz_at hS (Nat.le_of_ble_eq_true rfl) mzcS_232) mzcf_12_124 ?_))))
  exact g_vret rfl (hr _ hC)
theorem cg_527_267 (hd : 1 ≤ d) (hS : mz_extR S 342) (hR : mz_rok R 342)  (s1 : Int32) (v3 : Int32) (N : mz_N) {C0 : (mz_N) → Prop} (hr : ∀ (N2 : mz_N), C0 N2 → Q (.inl none) (mz_k S R N2 b t)) {C1 : ((Int32 × mz_N) ⊕ (mz_N)) → Prop} (hc1 : ∀ s2, C1 (.inl s2) → mz_G (d, mz_X0 L xs, none, [], mk_527, 7, Q) 219 mt_527_219 [(0, .ref 232), (3, .int s2.1)] [] false (mz_k S R s2.2 b t)) (hx1 : ∀ z, C1 (.inr z) → C0 z) (hp : cp_527_267 s1 v3 N) (hC : C1 (cf_527_267 s1 v3 N)) : mz_G (d, mz_X0 L xs, none, [], mk_527, 7, Q) 267 mt_527_267 [(0, .ref 232), (3, .int v3)] [.int s1, .ref 321] false (mz_k S R N b t) := by
  unfold cf_527_267 at hC
  unfold cp_527_267 at hp
  refine g_dup2 rfl rfl ?_
  obtain ⟨h1, hp⟩ := hp
  refine g_lald (mz_at hS (Nat.le_of_ble_eq_true rfl) mzcS_321) h1 (g_aload_n rfl (g_getR (mz_at hS (Nat.le_of_ble_eq_true rfl) mzcS_232) mzcf_12_51 (mz_rb hR (Nat.le_of_ble_eq_true rfl) rfl mzcR_232_51) (g_iload_n rfl ?_)))
  obtain ⟨h2, hp⟩ := hp
  refine g_lald (mz_at hS (Nat.le_of_ble_eq_true rfl) mzcS_271) h2 (g_ladd ?_)
  have h3 := hp
  refine g_last (mz_at hS (Nat.le_of_ble_eq_true rfl) mzcS_321) h3 (g_iinc rfl mzi_1 (Nat.le_of_ble_eq_true rfl) rfl (g_goto (tg := 219) rfl ms_527_219 ?_))
  refine g_weak ?_ (g_cl (hc1 ((v3 + 1), mz_wL N 321 s1 ((mz_gL N 321 s1) + (mz_gL N 271 v3))) hC))
  exact ⟨rfl, rfl, trivial⟩
theorem cb_527_219 (hd : 1 ≤ d) (hS : mz_extR S 342) (hR : mz_rok R 342)   (s : Int32 × mz_N) {C0 : (mz_N) → Prop} (hr : ∀ (N2 : mz_N), C0 N2 → Q (.inl none) (mz_k S R N2 b t)) {C1 : ((Int32 × mz_N) ⊕ (mz_N)) → Prop} (hc1 : ∀ s2, C1 (.inl s2) → mz_G (d, mz_X0 L xs, none, [], mk_527, 7, Q) 219 mt_527_219 [(0, .ref 232), (3, .int s2.1)] [] false (mz_k S R s2.2 b t)) (hx1 : ∀ z, C1 (.inr z) → C0 z) (hp : cd_527_219  s) (hC : C1 (cq_527_219  s)) : mz_G (d, mz_X0 L xs, none, [], mk_527, 7, Q) 219 mt_527_219 [(0, .ref 232), (3, .int s.1)] [] false (mz_k S R s.2 b t) := by
  unfold cq_527_219 at hC
  unfold cd_527_219 at hp
  refine g_iload_n rfl (g_aload_n rfl (g_getI (mz_at hS (Nat.le_of_ble_eq_true rfl) mzcS_232) mzcf_12_7 ?_))
  refine g_icge (tg := 283) rfl ms_527_283 hC (fun h1 hC => ?_) (fun h1 hC => ?_)
  · have hp := hp.1 h1
    refine g_aload_n rfl (g_iload_n rfl ?_)
    obtain ⟨h2, hp⟩ := hp
    refine g_v2v (Nat.le_of_ble_eq_true rfl) (mz_at hS (Nat.le_of_ble_eq_true rfl) mzcS_232) (fun _ hq => cs_436 (Nat.le_trans (Nat.le_of_ble_eq_true rfl) hd) (hS.le (Nat.le_of_ble_eq_true rfl)) (hR.le (Nat.le_of_ble_eq_true rfl))  s.1 s.2 h2 hq) (g_istore (Nat.le_of_ble_eq_true rfl) rfl (g_aload_n rfl (g_getR (mz_at hS (Nat.le_of_ble_eq_true rfl) mzcS_232) mzcf_12_48 (mz_rb hR (Nat.le_of_ble_eq_true rfl) rfl mzcR_232_48) (g_iload_n rfl (g_dup2 rfl rfl ?_)))))
    obtain ⟨h3, hp⟩ := hp
    refine g_lald (mz_at hS (Nat.le_of_ble_eq_true rfl) mzcS_268) h3 (g_aload_n rfl (g_getR (mz_at hS (Nat.le_of_ble_eq_true rfl) mzcS_232) mzcf_12_51 (mz_rb hR (Nat.le_of_ble_eq_true rfl) rfl mzcR_232_51) (g_iload_n rfl ?_)))
    obtain ⟨h4, hp⟩ := hp
    refine g_lald (mz_at hS (Nat.le_of_ble_eq_true rfl) mzcS_271) h4 (g_ladd ?_)
    obtain ⟨h5, hp⟩ := hp
    refine g_last (mz_at hS (Nat.le_of_ble_eq_true rfl) mzcS_268) h5 (g_aload_n rfl (g_getR (mz_at hS (Nat.le_of_ble_eq_true rfl) mzcS_232) mzcf_12_117 (mz_rb hR (Nat.le_of_ble_eq_true rfl) rfl mzcR_232_117) (g_iload rfl (g_bipush mzb_10 ?_))))
    refine g_icge (tg := 265) rfl ms_527_265 hC (fun h6 hC => ?_) (fun h6 hC => ?_)
    · have hp := hp.1 h6
      refine g_iload rfl (g_goto (tg := 267) rfl ms_527_267 ?_)
      refine g_weak ?_ (g_cl (cg_527_267 hd hS hR (cf_436_0 s.1 s.2) s.1 (mz_wL s.2 268 s.1 ((mz_gL s.2 268 s.1) + (mz_gL s.2 271 s.1))) hr hc1 hx1 hp hC))
      exact ⟨rfl, rfl, trivial⟩
    · have hp := hp.2 h6
      refine g_bipush mzb_10 ?_
      refine g_weak ?_ (g_cl (cg_527_267 hd hS hR 10 s.1 (mz_wL s.2 268 s.1 ((mz_gL s.2 268 s.1) + (mz_gL s.2 271 s.1))) hr hc1 hx1 hp hC))
      exact ⟨rfl, rfl, trivial⟩
  · have hp := hp.2 h1
    refine g_aload_n rfl (g_dup rfl (g_getI (mz_at hS (Nat.le_of_ble_eq_true rfl) mzcS_232) mzcf_12_62 (g_aload_n rfl (g_getR (mz_at hS (Nat.le_of_ble_eq_true rfl) mzcS_232) mzcf_12_51 (mz_rb hR (Nat.le_of_ble_eq_true rfl) rfl mzcR_232_51) (g_aload_n rfl (g_getI (mz_at hS (Nat.le_of_ble_eq_true rfl) mzcS_232) mzcf_12_7 ?_))))))
    obtain ⟨h7, hp⟩ := hp
    refine g_lald (mz_at hS (Nat.le_of_ble_eq_true rfl) mzcS_271) h7 (g_l2i (g_iadd (g_putI (mz_at hS (Nat.le_of_ble_eq_true rfl) mzcS_232) mzcf_12_62 (g_aload_n rfl (g_getR (mz_at hS (Nat.le_of_ble_eq_true rfl) mzcS_232) mzcf_12_117 (mz_rb hR (Nat.le_of_ble_eq_true rfl) rfl mzcR_232_117) (g_bipush mzb_10 (g_dup2 rfl rfl ?_)))))))
    refine g_lald (mz_at hS (Nat.le_of_ble_eq_true rfl) mzcS_321) (mz_ibd (by decide)) (g_aload_n rfl (g_getR (mz_at hS (Nat.le_of_ble_eq_true rfl) mzcS_232) mzcf_12_51 (mz_rb hR (Nat.le_of_ble_eq_true rfl) rfl mzcR_232_51) (g_aload_n rfl (g_getI (mz_at hS (Nat.le_of_ble_eq_true rfl) mzcS_232) mzcf_12_7 ?_))))
    obtain ⟨h8, hp⟩ := hp
    refine g_lald (mz_at hS (Nat.le_of_ble_eq_true rfl) mzcS_271) h8 (g_ladd (g_last (mz_at hS (Nat.le_of_ble_eq_true rfl) mzcS_321) (mz_ibd (by decide)) ?_))
    refine g_weak ?_ (g_cl (cg_527_321 hd hS hR (mz_wL (mz_pI s.2 232 62 ((s.2.1 232 62) + ((mz_gL s.2 271 (s.2.1 232 7)).toInt32))) 321 10 ((mz_gL (mz_pI s.2 232 62 ((s.2.1 232 62) + ((mz_gL s.2 271 (s.2.1 232 7)).toInt32))) 321 10) + (mz_gL (mz_pI s.2 232 62 ((s.2.1 232 62) + ((mz_gL s.2 271 (s.2.1 232 7)).toInt32))) 271 ((mz_pI s.2 232 62 ((s.2.1 232 62) + ((mz_gL s.2 271 (s.2.1 232 7)).toInt32))).1 232 7)))) hr hp (hx1 _ hC)))
    exact ⟨rfl, trivial⟩
theorem cg_527_219 (hd : 1 ≤ d) (hS : mz_extR S 342) (hR : mz_rok R 342)  (v3 : Int32) (N : mz_N) {C0 : (mz_N) → Prop} (hr : ∀ (N2 : mz_N), C0 N2 → Q (.inl none) (mz_k S R N2 b t)) (hp : cp_527_219 v3 N) (hC : C0 (cf_527_219 v3 N)) : mz_G (d, mz_X0 L xs, none, [], mk_527, 7, Q) 219 mt_527_219 [(0, .ref 232), (3, .int v3)] [] false (mz_k S R N b t) := by
  obtain ⟨n, hn⟩ := hp
  exact g_loop (G := fun s => mz_G (d, mz_X0 L xs, none, [], mk_527, 7, Q) 219 mt_527_219 [(0, .ref 232), (3, .int s.1)] [] false (mz_k S R s.2 b t)) (C := C0) (fun C2 hc hx s hP hC => cb_527_219 hd hS hR  s hr hc hx hP hC) n (v3, N) hn hC
theorem cg_527_217 (hd : 1 ≤ d) (hS : mz_extR S 342) (hR : mz_rok R 342)  (N : mz_N) {C0 : (mz_N) → Prop} (hr : ∀ (N2 : mz_N), C0 N2 → Q (.inl none) (mz_k S R N2 b t)) (hp : cp_527_217 N) (hC : C0 (cf_527_217 N)) : mz_G (d, mz_X0 L xs, none, [], mk_527, 7, Q) 217 mt_527_217 [(0, .ref 232)] [] false (mz_k S R N b t) := by
  unfold cf_527_217 at hC
  unfold cp_527_217 at hp
  refine g_iconst mzi_0 (g_istore_n (Nat.le_of_ble_eq_true rfl) rfl ?_)
  refine g_weak ?_ (g_cl (cg_527_219 hd hS hR 0 N hr hp hC))
  exact ⟨rfl, rfl, trivial⟩
theorem cg_527_191 (hd : 1 ≤ d) (hS : mz_extR S 342) (hR : mz_rok R 342)  (s1 : Int64) (N : mz_N) {C0 : (mz_N) → Prop} (hr : ∀ (N2 : mz_N), C0 N2 → Q (.inl none) (mz_k S R N2 b t)) (hp : cp_527_191 s1 N) (hC : C0 (cf_527_191 s1 N)) : mz_G (d, mz_X0 L xs, none, [], mk_527, 7, Q) 191 mt_527_191 [(0, .ref 232)] [.long s1, .ref 232] false (mz_k S R N b t) := by
  unfold cf_527_191 at hC
  unfold cp_527_191 at hp
  refine g_putL (mz_at hS (Nat.le_of_ble_eq_true rfl) mzcS_232) mzcf_12_66 (g_aload_n rfl (g_aload_n rfl (g_getL (mz_at hS (Nat.le_of_ble_eq_true rfl) mzcS_232) mzcf_12_66 (g_aload_n rfl (g_getR (mz_at hS (Nat.le_of_ble_eq_true rfl) mzcS_232) mzcf_12_50 (mz_rb hR (Nat.le_of_ble_eq_true rfl) rfl mzcR_232_50) (g_aload_n rfl (g_getI (mz_at hS (Nat.le_of_ble_eq_true rfl) mzcS_232) mzcf_12_7 ?_)))))))
  refine g_iconst mzi_1 (g_iadd (g_aload_n rfl (g_getR (mz_at hS (Nat.le_of_ble_eq_true rfl) mzcS_232) mzcf_12_51 (mz_rb hR (Nat.le_of_ble_eq_true rfl) rfl mzcR_232_51) ?_)))
  obtain ⟨h1, hp⟩ := hp
  refine g_v5v (Nat.le_of_ble_eq_true rfl) (mz_at hS (Nat.le_of_ble_eq_true rfl) mzcS_232) (fun _ hq => cs_529 (Nat.le_trans (Nat.le_of_ble_eq_true rfl) hd) (hS.le (Nat.le_of_ble_eq_true rfl)) (hR.le (Nat.le_of_ble_eq_true rfl)) 270 41 271 (mz_at hS (Nat.le_of_ble_eq_true rfl) mzcS_270) (mz_at hS (Nat.le_of_ble_eq_true rfl) mzcS_271) ((mz_pL N 232 66 s1).2 232 66) (((mz_pL N 232 66 s1).1 232 7) + 1) (mz_pL N 232 66 s1) h1 hq) (g_pop rfl ?_)
  refine g_weak ?_ (g_cl (cg_527_217 hd hS hR ((cf_529_0 270 41 271 ((mz_pL N 232 66 s1).2 232 66) (((mz_pL N 232 66 s1).1 232 7) + 1) (mz_pL N 232 66 s1)).2) hr hp hC))
  exact ⟨rfl, trivial⟩
theorem cg_527_159 (hd : 1 ≤ d) (hS : mz_extR S 342) (hR : mz_rok R 342)  (v1 : Int64) (N : mz_N) {C0 : (mz_N) → Prop} (hr : ∀ (N2 : mz_N), C0 N2 → Q (.inl none) (mz_k S R N2 b t)) (hp : cp_527_159 v1 N) (hC : C0 (cf_527_159 v1 N)) : mz_G (d, mz_X0 L xs, none, [], mk_527, 7, Q) 159 mt_527_159 [(0, .ref 232), (1, .long v1)] [] false (mz_k S R N b t) := by
  unfold cf_527_159 at hC
  unfold cp_527_159 at hp
  refine g_lload_n rfl (g_aload_n rfl (g_getR (mz_at hS (Nat.le_of_ble_eq_true rfl) mzcS_232) mzcf_12_50 (mz_rb hR (Nat.le_of_ble_eq_true rfl) rfl mzcR_232_50) (g_aload_n rfl (g_getI (mz_at hS (Nat.le_of_ble_eq_true rfl) mzcS_232) mzcf_12_7 ?_))))
  obtain ⟨h1, hp⟩ := hp
  refine g_lald (mz_at hS (Nat.le_of_ble_eq_true rfl) mzcS_270) h1 (g_ladd (g_lstore_n (Nat.le_of_ble_eq_true rfl) rfl rfl (g_aload_n rfl (g_lload_n rfl (g_aload_n rfl (g_getI (mz_at hS (Nat.le_of_ble_eq_true rfl) mzcS_232) mzcf_12_21 (g_i2l ?_)))))))
  refine g_lcmp ?_
  refine g_lge (tg := 186) rfl ms_527_186 hC (fun h2 hC => ?_) (fun h2 hC => ?_)
  · have hp := hp.1 h2
    refine g_lload_n rfl (g_goto (tg := 191) rfl ms_527_191 ?_)
    refine g_weak ?_ (g_cl (cg_527_191 hd hS hR (v1 + (mz_gL N 270 (N.1 232 7))) N hr hp hC))
    exact ⟨rfl, trivial⟩
  · have hp := hp.2 h2
    refine g_aload_n rfl (g_getI (mz_at hS (Nat.le_of_ble_eq_true rfl) mzcS_232) mzcf_12_21 (g_i2l ?_))
    refine g_weak ?_ (g_cl (cg_527_191 hd hS hR ((N.1 232 21).toInt64) N hr hp hC))
    exact ⟨rfl, trivial⟩
theorem cb_527_39 (hd : 1 ≤ d) (hS : mz_extR S 342) (hR : mz_rok R 342)   (s : Int64 × Int32 × mz_N) {C0 : (mz_N) → Prop} (hr : ∀ (N2 : mz_N), C0 N2 → Q (.inl none) (mz_k S R N2 b t)) {C1 : ((Int64 × Int32 × mz_N) ⊕ (mz_N)) → Prop} (hc1 : ∀ s2, C1 (.inl s2) → mz_G (d, mz_X0 L xs, none, [], mk_527, 7, Q) 39 mt_527_39 [(0, .ref 232), (1, .long s2.1), (3, .int s2.2.1)] [] false (mz_k S R s2.2.2 b t)) (hx1 : ∀ z, C1 (.inr z) → C0 z) (hp : cd_527_39  s) (hC : C1 (cq_527_39  s)) : mz_G (d, mz_X0 L xs, none, [], mk_527, 7, Q) 39 mt_527_39 [(0, .ref 232), (1, .long s.1), (3, .int s.2.1)] [] false (mz_k S R s.2.2 b t) := by
  unfold cq_527_39 at hC
  unfold cd_527_39 at hp
  refine g_iload_n rfl (g_aload_n rfl (g_getI (mz_at hS (Nat.le_of_ble_eq_true rfl) mzcS_232) mzcf_12_7 ?_))
  refine g_icge (tg := 134) rfl ms_527_134 hC (fun h1 hC => ?_) (fun h1 hC => ?_)
  · have hp := hp.1 h1
    refine g_aload_n rfl (g_iload_n rfl ?_)
    obtain ⟨h2, hp⟩ := hp
    refine g_v2v (Nat.le_of_ble_eq_true rfl) (mz_at hS (Nat.le_of_ble_eq_true rfl) mzcS_232) (fun _ hq => cs_436 (Nat.le_trans (Nat.le_of_ble_eq_true rfl) hd) (hS.le (Nat.le_of_ble_eq_true rfl)) (hR.le (Nat.le_of_ble_eq_true rfl))  s.2.1 s.2.2 h2 hq) (g_istore (Nat.le_of_ble_eq_true rfl) rfl (g_iload rfl (g_bipush mzb_10 ?_)))
    refine g_icge (tg := 72) rfl ms_527_72 hC (fun h3 hC => ?_) (fun h3 hC => ?_)
    · have hp := hp.1 h3
      refine g_aload_n rfl (g_getR (mz_at hS (Nat.le_of_ble_eq_true rfl) mzcS_232) mzcf_12_37 (mz_rb hR (Nat.le_of_ble_eq_true rfl) rfl mzcR_232_37) (g_iload rfl ?_))
      obtain ⟨h4, hp⟩ := hp
      refine g_iald hS.1 (mz_at hS (Nat.le_of_ble_eq_true rfl) mzcS_257) h4 (g_i2l (g_goto (tg := 75) rfl ms_527_75 ?_))
      refine g_weak ?_ (g_cl (cg_527_75 hd hS hR ((mz_gI s.2.2 257 (cf_436_0 s.2.1 s.2.2)).toInt64) s.1 s.2.1 s.2.2 hr hc1 hx1 hp hC))
      exact ⟨rfl, rfl, rfl, trivial⟩
    · have hp := hp.2 h3
      refine g_con3 ?_
      refine g_weak ?_ (g_cl (cg_527_75 hd hS hR 150 s.1 s.2.1 s.2.2 hr hc1 hx1 hp hC))
      exact ⟨rfl, rfl, rfl, trivial⟩
  · have hp := hp.2 h1
    refine g_aload_n rfl (g_getR (mz_at hS (Nat.le_of_ble_eq_true rfl) mzcS_232) mzcf_12_50 (mz_rb hR (Nat.le_of_ble_eq_true rfl) rfl mzcR_232_50) (g_aload_n rfl (g_getI (mz_at hS (Nat.le_of_ble_eq_true rfl) mzcS_232) mzcf_12_7 (g_con3 (g_aload_n rfl (g_getI (mz_at hS (Nat.le_of_ble_eq_true rfl) mzcS_232) mzcf_12_62 (g_i2l ?_)))))))
    refine g_lsub (g_lconst mzl_0 (g_con3 ?_))
    refine g_s3v (Nat.le_of_ble_eq_true rfl) (fun _ hq => cs_528 (Nat.le_trans (Nat.le_of_ble_eq_true rfl) hd) (hS.le (Nat.le_of_ble_eq_true rfl)) (hR.le (Nat.le_of_ble_eq_true rfl))  (20000 - ((s.2.2.1 232 62).toInt64)) 0 300 trivial hq) ?_
    obtain ⟨h6, hp⟩ := hp
    refine g_last (mz_at hS (Nat.le_of_ble_eq_true rfl) mzcS_270) h6 ?_
    refine g_weak ?_ (g_cl (cg_527_159 hd hS hR s.1 (mz_wL s.2.2 270 (s.2.2.1 232 7) (cf_528_0 (20000 - ((s.2.2.1 232 62).toInt64)) 0 300)) hr hp (hx1 _ hC)))
    exact ⟨rfl, rfl, trivial⟩
theorem cg_527_39 (hd : 1 ≤ d) (hS : mz_extR S 342) (hR : mz_rok R 342)  (v1 : Int64) (v3 : Int32) (N : mz_N) {C0 : (mz_N) → Prop} (hr : ∀ (N2 : mz_N), C0 N2 → Q (.inl none) (mz_k S R N2 b t)) (hp : cp_527_39 v1 v3 N) (hC : C0 (cf_527_39 v1 v3 N)) : mz_G (d, mz_X0 L xs, none, [], mk_527, 7, Q) 39 mt_527_39 [(0, .ref 232), (1, .long v1), (3, .int v3)] [] false (mz_k S R N b t) := by
  obtain ⟨n, hn⟩ := hp
  exact g_loop (G := fun s => mz_G (d, mz_X0 L xs, none, [], mk_527, 7, Q) 39 mt_527_39 [(0, .ref 232), (1, .long s.1), (3, .int s.2.1)] [] false (mz_k S R s.2.2 b t)) (C := C0) (fun C2 hc hx s hP hC => cb_527_39 hd hS hR  s hr hc hx hP hC) n (v1, v3, N) hn hC
theorem cg_527_0 (hd : 1 ≤ d) (hS : mz_extR S 342) (hR : mz_rok R 342)  (N : mz_N) {C0 : (mz_N) → Prop} (hr : ∀ (N2 : mz_N), C0 N2 → Q (.inl none) (mz_k S R N2 b t)) (hp : cp_527_0 N) (hC : C0 (cf_527_0 N)) : mz_G (d, mz_X0 L xs, none, [], mk_527, 7, Q) 0 mk_527 [(0, .ref 232)] [] true (mz_k S R N b t) := by
  unfold cf_527_0 at hC
  unfold cp_527_0 at hp
  refine g_aload_n rfl (g_lconst mzl_0 (g_putL (mz_at hS (Nat.le_of_ble_eq_true rfl) mzcS_232) mzcf_12_66 (g_aload_n rfl (g_getR (mz_at hS (Nat.le_of_ble_eq_true rfl) mzcS_232) mzcf_12_37 (mz_rb hR (Nat.le_of_ble_eq_true rfl) rfl mzcR_232_37) (g_bipush mzb_11 (g_iald hS.1 (mz_at hS (Nat.le_of_ble_eq_true rfl) mzcS_257) (mz_ibd (by decide)) ?_))))))
  refine g_ifeq (tg := 34) rfl ms_527_34 hC (fun h1 hC => ?_) (fun h1 hC => ?_)
  · have hp := hp.1 h1
    exact g_vret rfl (hr _ hC)
  · have hp := hp.2 h1
    refine g_aload_n rfl (g_getR (mz_at hS (Nat.le_of_ble_eq_true rfl) mzcS_232) mzcf_12_60 (mz_rb hR (Nat.le_of_ble_eq_true rfl) rfl mzcR_232_60) (g_bipush mzb_10 ?_))
    obtain ⟨h2, hp⟩ := hp
    refine g_zald (mz_at hS (Nat.le_of_ble_eq_true rfl) mzcS_276) (mz_ibd (by decide)) h2 ?_
    refine g_zeq (tg := 34) rfl ms_527_34 hC (fun h3 hC => ?_) (fun h3 hC => ?_)
    · have hp := hp.1 h3
      refine g_aload_n rfl (g_getR (mz_at hS (Nat.le_of_ble_eq_true rfl) mzcS_232) mzcf_12_102 (mz_rb hR (Nat.le_of_ble_eq_true rfl) rfl mzcR_232_102) (g_iconst mzi_0 ?_))
      obtain ⟨h4, hp⟩ := hp
      refine g_zald (mz_at hS (Nat.le_of_ble_eq_true rfl) mzcS_307) (mz_ibd (by decide)) h4 ?_
      refine g_zeq (tg := 35) rfl ms_527_35 hC (fun h5 hC => ?_) (fun h5 hC => ?_)
      · have hp := hp.1 h5
        exact g_vret rfl (hr _ hC)
      · have hp := hp.2 h5
        refine g_lconst mzl_0 (g_lstore_n (Nat.le_of_ble_eq_true rfl) rfl rfl (g_iconst mzi_0 (g_istore_n (Nat.le_of_ble_eq_true rfl) rfl ?_)))
        refine g_weak ?_ (g_cl (cg_527_39 hd hS hR 0 0 (mz_pL N 232 66 0) hr hp hC))
        exact ⟨rfl, rfl, rfl, trivial⟩
    · have hp := hp.2 h3
      exact g_vret rfl (hr _ hC)
theorem cs_527 (hd : 2 ≤ d) (hS : mz_extR S 342) (hR : mz_rok R 342)  (N : mz_N) (hp : cp_527_0 N) (hq : Q (.inl none) (mz_k S R (cf_527_0 N) b t)) : mz_Ed (mz_X0 L xs) d 527 [.ref 232] (mz_k S R N b t) Q :=
  by
  refine g_in mzq_527 (Nat.le_of_ble_eq_true rfl) (Nat.le_of_ble_eq_true rfl) (Nat.le_trans (Nat.le_of_ble_eq_true rfl) hd) ?_
  refine g_weak ?_ (cg_527_0 (d := d - 1) (by omega) hS hR N (C0 := fun z => Q (.inl none) (mz_k S R z b t)) (fun _ h => h) hp hq)
  exact ⟨rfl, trivial⟩
/-! 530 KeptHouseModel.spread ([J[J)V -/
theorem ms_530_0 : mz_sf mk_530 0 = mk_530 := mz_sf_zero _
theorem ms_530_2 : mz_sf mk_530 2 = mt_530_2 := mz_sf_add ms_530_0 (t := 2) rfl rfl
theorem ms_530_23 : mz_sf mk_530 23 = mt_530_23 := mz_sf_add ms_530_2 (t := 21) rfl rfl
theorem ms_530_25 : mz_sf mk_530 25 = mt_530_25 := mz_sf_add ms_530_23 (t := 2) rfl rfl
theorem ms_530_57 : mz_sf mk_530 57 = mt_530_57 := mz_sf_add ms_530_25 (t := 32) rfl rfl
theorem ms_530_93 : mz_sf mk_530 93 = mt_530_93 := mz_sf_add ms_530_57 (t := 36) rfl rfl
theorem ms_530_94 : mz_sf mk_530 94 = mt_530_94 := mz_sf_add ms_530_93 (t := 1) rfl rfl
theorem ms_530_113 : mz_sf mk_530 113 = mt_530_113 := mz_sf_add ms_530_94 (t := 19) rfl rfl
set_option maxRecDepth 100000 in
theorem mzq_530 : mz_PG0 530 = some (12, ⟨"KeptHouseModel", "spread", "([J[J)V"⟩, prog_14_method_93_code, 7, none, [], mk_530, []) := rfl
theorem cg_530_94 (hd : 1 ≤ d) (hS : mz_extR S 342) (hR : mz_rok R 342) (a1 : Nat) (n1 : Nat) (a2 : Nat) (hs1 : S[a1]? = some (1, n1, [])) (hs2 : S[a2]? = some (1, 240, [])) (s1 : Int32) (s2 : Int64) (s3 : Int64) (v3 : Int32) (v4 : Int32) (N : mz_N) {C0 : (mz_N) → Prop} (hr : ∀ (N2 : mz_N), C0 N2 → Q (.inl none) (mz_k S R N2 b t)) {C1 : ((Int32 × mz_N) ⊕ (mz_N)) → Prop} (hc1 : ∀ s2, C1 (.inl s2) → mz_G (d, mz_X0 L xs, none, [], mk_530, 7, Q) 25 mt_530_25 [(0, .ref 232), (1, .ref a1), (2, .ref a2), (3, .int s2.1)] [] false (mz_k S R s2.2 b t)) (hx1 : ∀ z, C1 (.inr z) → C0 z) (hp : cp_530_94 a1 n1 a2 s1 s2 s3 v3 v4 N) (hC : C1 (cf_530_94 a1 n1 a2 s1 s2 s3 v3 v4 N)) : mz_G (d, mz_X0 L xs, none, [], mk_530, 7, Q) 94 mt_530_94 [(0, .ref 232), (1, .ref a1), (2, .ref a2), (3, .int v3), (4, .int v4)] [.long s3, .long s2, .int s1, .ref a2] false (mz_k S R N b t) := by
  unfold cf_530_94 at hC
  unfold cp_530_94 at hp
  refine g_ladd ?_
  obtain ⟨h1, hp⟩ := hp
  refine g_last hs2 h1 (g_aload_n rfl (g_getR (mz_at hS (Nat.le_of_ble_eq_true rfl) mzcS_232) mzcf_12_10 (mz_rb hR (Nat.le_of_ble_eq_true rfl) rfl mzcR_232_10) (g_iload rfl (g_dup2 rfl rfl ?_))))
  obtain ⟨h2, hp⟩ := hp
  refine g_iald hS.1 (mz_at hS (Nat.le_of_ble_eq_true rfl) mzcS_238) h2 (g_iconst mzi_1 (g_iadd ?_))
  have h3 := hp
  refine g_iast (mz_at hS (Nat.le_of_ble_eq_true rfl) mzcS_238) h3 (g_iinc rfl mzi_1 (Nat.le_of_ble_eq_true rfl) rfl (g_goto (tg := 25) rfl ms_530_25 ?_))
  refine g_weak ?_ (g_cl (hc1 ((v3 + 1), mz_wI (mz_wL N a2 s1 (s2 + s3)) 238 v4 ((mz_gI (mz_wL N a2 s1 (s2 + s3)) 238 v4) + 1)) hC))
  exact ⟨rfl, rfl, rfl, rfl, trivial⟩
theorem cb_530_25 (hd : 1 ≤ d) (hS : mz_extR S 342) (hR : mz_rok R 342) (a1 : Nat) (n1 : Nat) (a2 : Nat) (hs1 : S[a1]? = some (1, n1, [])) (hs2 : S[a2]? = some (1, 240, []))  (s : Int32 × mz_N) {C0 : (mz_N) → Prop} (hr : ∀ (N2 : mz_N), C0 N2 → Q (.inl none) (mz_k S R N2 b t)) {C1 : ((Int32 × mz_N) ⊕ (mz_N)) → Prop} (hc1 : ∀ s2, C1 (.inl s2) → mz_G (d, mz_X0 L xs, none, [], mk_530, 7, Q) 25 mt_530_25 [(0, .ref 232), (1, .ref a1), (2, .ref a2), (3, .int s2.1)] [] false (mz_k S R s2.2 b t)) (hx1 : ∀ z, C1 (.inr z) → C0 z) (hp : cd_530_25 a1 n1 a2 s) (hC : C1 (cq_530_25 a1 n1 a2 s)) : mz_G (d, mz_X0 L xs, none, [], mk_530, 7, Q) 25 mt_530_25 [(0, .ref 232), (1, .ref a1), (2, .ref a2), (3, .int s.1)] [] false (mz_k S R s.2 b t) := by
  unfold cq_530_25 at hC
  unfold cd_530_25 at hp
  refine g_iload_n rfl (g_sipush mzs_240 ?_)
  refine g_icge (tg := 113) rfl ms_530_113 hC (fun h1 hC => ?_) (fun h1 hC => ?_)
  · have hp := hp.1 h1
    refine g_aload_n rfl (g_getR (mz_at hS (Nat.le_of_ble_eq_true rfl) mzcS_232) mzcf_12_6 (mz_rb hR (Nat.le_of_ble_eq_true rfl) rfl mzcR_232_6) (g_iload_n rfl ?_))
    obtain ⟨h2, hp⟩ := hp
    refine g_iald hS.1 (mz_at hS (Nat.le_of_ble_eq_true rfl) mzcS_235) h2 (g_istore (Nat.le_of_ble_eq_true rfl) rfl (g_aload_n rfl (g_iload rfl ?_)))
    obtain ⟨h3, hp⟩ := hp
    refine g_lald hs1 h3 (g_aload_n rfl (g_getR (mz_at hS (Nat.le_of_ble_eq_true rfl) mzcS_232) mzcf_12_9 (mz_rb hR (Nat.le_of_ble_eq_true rfl) rfl mzcR_232_9) (g_iload rfl ?_)))
    obtain ⟨h4, hp⟩ := hp
    refine g_iald hS.1 (mz_at hS (Nat.le_of_ble_eq_true rfl) mzcS_237) h4 (g_i2l ?_)
    obtain ⟨h5, hp⟩ := hp
    refine g_s2v (Nat.le_of_ble_eq_true rfl) (fun _ hq => cs_489 (Nat.le_trans (Nat.le_of_ble_eq_true rfl) hd) (hS.le (Nat.le_of_ble_eq_true rfl)) (hR.le (Nat.le_of_ble_eq_true rfl))  (mz_gL s.2 a1 (mz_gI s.2 235 s.1)) ((mz_gI s.2 237 (mz_gI s.2 235 s.1)).toInt64) h5 hq) (g_lstore (Nat.le_of_ble_eq_true rfl) rfl rfl (g_aload_n rfl (g_iload_n rfl (g_lload rfl (g_aload_n rfl (g_getR (mz_at hS (Nat.le_of_ble_eq_true rfl) mzcS_232) mzcf_12_10 (mz_rb hR (Nat.le_of_ble_eq_true rfl) rfl mzcR_232_10) (g_iload rfl ?_)))))))
    obtain ⟨h6, hp⟩ := hp
    refine g_iald hS.1 (mz_at hS (Nat.le_of_ble_eq_true rfl) mzcS_238) h6 (g_i2l (g_aload_n rfl (g_iload rfl ?_)))
    obtain ⟨h7, hp⟩ := hp
    refine g_lald hs1 h7 (g_lload rfl (g_aload_n rfl (g_getR (mz_at hS (Nat.le_of_ble_eq_true rfl) mzcS_232) mzcf_12_9 (mz_rb hR (Nat.le_of_ble_eq_true rfl) rfl mzcR_232_9) (g_iload rfl ?_))))
    obtain ⟨h8, hp⟩ := hp
    refine g_iald hS.1 (mz_at hS (Nat.le_of_ble_eq_true rfl) mzcS_237) h8 (g_i2l (g_lmul (g_lsub (g_lcmp ?_))))
    refine g_lge (tg := 93) rfl ms_530_93 hC (fun h9 hC => ?_) (fun h9 hC => ?_)
    · have hp := hp.1 h9
      refine g_lconst mzl_1 (g_goto (tg := 94) rfl ms_530_94 ?_)
      refine g_weak ?_ (g_cl (cg_530_94 hd hS hR a1 n1 a2 hs1 hs2 s.1 (cf_489_0 (mz_gL s.2 a1 (mz_gI s.2 235 s.1)) ((mz_gI s.2 237 (mz_gI s.2 235 s.1)).toInt64)) 1 s.1 (mz_gI s.2 235 s.1) s.2 hr hc1 hx1 hp hC))
      exact ⟨rfl, rfl, rfl, rfl, rfl, trivial⟩
    · have hp := hp.2 h9
      refine g_lconst mzl_0 ?_
      refine g_weak ?_ (g_cl (cg_530_94 hd hS hR a1 n1 a2 hs1 hs2 s.1 (cf_489_0 (mz_gL s.2 a1 (mz_gI s.2 235 s.1)) ((mz_gI s.2 237 (mz_gI s.2 235 s.1)).toInt64)) 0 s.1 (mz_gI s.2 235 s.1) s.2 hr hc1 hx1 hp hC))
      exact ⟨rfl, rfl, rfl, rfl, rfl, trivial⟩
  · have hp := hp.2 h1
    exact g_vret rfl (hr _ (hx1 _ hC))
theorem cg_530_25 (hd : 1 ≤ d) (hS : mz_extR S 342) (hR : mz_rok R 342) (a1 : Nat) (n1 : Nat) (a2 : Nat) (hs1 : S[a1]? = some (1, n1, [])) (hs2 : S[a2]? = some (1, 240, [])) (v3 : Int32) (N : mz_N) {C0 : (mz_N) → Prop} (hr : ∀ (N2 : mz_N), C0 N2 → Q (.inl none) (mz_k S R N2 b t)) (hp : cp_530_25 a1 n1 a2 v3 N) (hC : C0 (cf_530_25 a1 n1 a2 v3 N)) : mz_G (d, mz_X0 L xs, none, [], mk_530, 7, Q) 25 mt_530_25 [(0, .ref 232), (1, .ref a1), (2, .ref a2), (3, .int v3)] [] false (mz_k S R N b t) := by
  obtain ⟨n, hn⟩ := hp
  exact g_loop (G := fun s => mz_G (d, mz_X0 L xs, none, [], mk_530, 7, Q) 25 mt_530_25 [(0, .ref 232), (1, .ref a1), (2, .ref a2), (3, .int s.1)] [] false (mz_k S R s.2 b t)) (C := C0) (fun C2 hc hx s hP hC => cb_530_25 hd hS hR a1 n1 a2 hs1 hs2 s hr hc hx hP hC) n (v3, N) hn hC
theorem cb_530_2 (hd : 1 ≤ d) (hS : mz_extR S 342) (hR : mz_rok R 342) (a1 : Nat) (n1 : Nat) (a2 : Nat) (hs1 : S[a1]? = some (1, n1, [])) (hs2 : S[a2]? = some (1, 240, []))  (s : Int32 × mz_N) {C0 : (mz_N) → Prop} (hr : ∀ (N2 : mz_N), C0 N2 → Q (.inl none) (mz_k S R N2 b t)) {C1 : ((Int32 × mz_N) ⊕ (mz_N)) → Prop} (hc1 : ∀ s2, C1 (.inl s2) → mz_G (d, mz_X0 L xs, none, [], mk_530, 7, Q) 2 mt_530_2 [(0, .ref 232), (1, .ref a1), (2, .ref a2), (3, .int s2.1)] [] false (mz_k S R s2.2 b t)) (hx1 : ∀ z, C1 (.inr z) → C0 z) (hp : cd_530_2 a1 n1 a2 s) (hC : C1 (cq_530_2 a1 n1 a2 s)) : mz_G (d, mz_X0 L xs, none, [], mk_530, 7, Q) 2 mt_530_2 [(0, .ref 232), (1, .ref a1), (2, .ref a2), (3, .int s.1)] [] false (mz_k S R s.2 b t) := by
  unfold cq_530_2 at hC
  unfold cd_530_2 at hp
  refine g_iload_n rfl (g_aload_n rfl (g_getI (mz_at hS (Nat.le_of_ble_eq_true rfl) mzcS_232) mzcf_12_7 ?_))
  refine g_icge (tg := 23) rfl ms_530_23 hC (fun h1 hC => ?_) (fun h1 hC => ?_)
  · have hp := hp.1 h1
    refine g_aload_n rfl (g_getR (mz_at hS (Nat.le_of_ble_eq_true rfl) mzcS_232) mzcf_12_10 (mz_rb hR (Nat.le_of_ble_eq_true rfl) rfl mzcR_232_10) (g_iload_n rfl (g_iconst mzi_0 ?_)))
    have h2 := hp
    refine g_iast (mz_at hS (Nat.le_of_ble_eq_true rfl) mzcS_238) h2 (g_iinc rfl mzi_1 (Nat.le_of_ble_eq_true rfl) rfl (g_goto (tg := 2) rfl ms_530_2 ?_))
    refine g_weak ?_ (g_cl (hc1 ((s.1 + 1), mz_wI s.2 238 s.1 0) hC))
    exact ⟨rfl, rfl, rfl, rfl, trivial⟩
  · have hp := hp.2 h1
    refine g_iconst mzi_0 (g_istore_n (Nat.le_of_ble_eq_true rfl) rfl ?_)
    refine g_weak ?_ (g_cl (cg_530_25 hd hS hR a1 n1 a2 hs1 hs2 0 s.2 hr hp (hx1 _ hC)))
    exact ⟨rfl, rfl, rfl, rfl, trivial⟩
theorem cg_530_2 (hd : 1 ≤ d) (hS : mz_extR S 342) (hR : mz_rok R 342) (a1 : Nat) (n1 : Nat) (a2 : Nat) (hs1 : S[a1]? = some (1, n1, [])) (hs2 : S[a2]? = some (1, 240, [])) (v3 : Int32) (N : mz_N) {C0 : (mz_N) → Prop} (hr : ∀ (N2 : mz_N), C0 N2 → Q (.inl none) (mz_k S R N2 b t)) (hp : cp_530_2 a1 n1 a2 v3 N) (hC : C0 (cf_530_2 a1 n1 a2 v3 N)) : mz_G (d, mz_X0 L xs, none, [], mk_530, 7, Q) 2 mt_530_2 [(0, .ref 232), (1, .ref a1), (2, .ref a2), (3, .int v3)] [] false (mz_k S R N b t) := by
  obtain ⟨n, hn⟩ := hp
  exact g_loop (G := fun s => mz_G (d, mz_X0 L xs, none, [], mk_530, 7, Q) 2 mt_530_2 [(0, .ref 232), (1, .ref a1), (2, .ref a2), (3, .int s.1)] [] false (mz_k S R s.2 b t)) (C := C0) (fun C2 hc hx s hP hC => cb_530_2 hd hS hR a1 n1 a2 hs1 hs2 s hr hc hx hP hC) n (v3, N) hn hC
theorem cg_530_0 (hd : 1 ≤ d) (hS : mz_extR S 342) (hR : mz_rok R 342) (a1 : Nat) (n1 : Nat) (a2 : Nat) (hs1 : S[a1]? = some (1, n1, [])) (hs2 : S[a2]? = some (1, 240, [])) (N : mz_N) {C0 : (mz_N) → Prop} (hr : ∀ (N2 : mz_N), C0 N2 → Q (.inl none) (mz_k S R N2 b t)) (hp : cp_530_0 a1 n1 a2 N) (hC : C0 (cf_530_0 a1 n1 a2 N)) : mz_G (d, mz_X0 L xs, none, [], mk_530, 7, Q) 0 mk_530 [(0, .ref 232), (1, .ref a1), (2, .ref a2)] [] true (mz_k S R N b t) := by
  unfold cf_530_0 at hC
  unfold cp_530_0 at hp
  refine g_iconst mzi_0 (g_istore_n (Nat.le_of_ble_eq_true rfl) rfl ?_)
  refine g_weak ?_ (g_cl (cg_530_2 hd hS hR a1 n1 a2 hs1 hs2 0 N hr hp hC))
  exact ⟨rfl, rfl, rfl, rfl, trivial⟩
theorem cs_530 (hd : 2 ≤ d) (hS : mz_extR S 342) (hR : mz_rok R 342) (a1 : Nat) (n1 : Nat) (a2 : Nat) (hs1 : S[a1]? = some (1, n1, [])) (hs2 : S[a2]? = some (1, 240, [])) (N : mz_N) (hp : cp_530_0 a1 n1 a2 N) (hq : Q (.inl none) (mz_k S R (cf_530_0 a1 n1 a2 N) b t)) : mz_Ed (mz_X0 L xs) d 530 [.ref 232, .ref a1, .ref a2] (mz_k S R N b t) Q :=
  by
  refine g_in mzq_530 (Nat.le_of_ble_eq_true rfl) (Nat.le_of_ble_eq_true rfl) (Nat.le_trans (Nat.le_of_ble_eq_true rfl) hd) ?_
  refine g_weak ?_ (cg_530_0 (d := d - 1) (by omega) hS hR a1 n1 a2 hs1 hs2 N (C0 := fun z => Q (.inl none) (mz_k S R z b t)) (fun _ h => h) hp hq)
  exact ⟨rfl, rfl, rfl, trivial⟩
/-! 524 KeptHouseModel.warm (I)V -/
theorem ms_524_0 : mz_sf mk_524 0 = mk_524 := mz_sf_zero _
theorem ms_524_14 : mz_sf mk_524 14 = mt_524_14 := mz_sf_add ms_524_0 (t := 14) rfl rfl
theorem ms_524_48 : mz_sf mk_524 48 = mt_524_48 := mz_sf_add ms_524_14 (t := 34) rfl rfl
theorem ms_524_54 : mz_sf mk_524 54 = mt_524_54 := mz_sf_add ms_524_48 (t := 6) rfl rfl
theorem ms_524_56 : mz_sf mk_524 56 = mt_524_56 := mz_sf_add ms_524_54 (t := 2) rfl rfl
theorem ms_524_68 : mz_sf mk_524 68 = mt_524_68 := mz_sf_add ms_524_56 (t := 12) rfl rfl
theorem ms_524_86 : mz_sf mk_524 86 = mt_524_86 := mz_sf_add ms_524_68 (t := 18) rfl rfl
theorem ms_524_129 : mz_sf mk_524 129 = mt_524_129 := mz_sf_add ms_524_86 (t := 43) rfl rfl
theorem ms_524_152 : mz_sf mk_524 152 = mt_524_152 := mz_sf_add ms_524_129 (t := 23) rfl rfl
theorem ms_524_174 : mz_sf mk_524 174 = mt_524_174 := mz_sf_add ms_524_152 (t := 22) rfl rfl
theorem ms_524_180 : mz_sf mk_524 180 = mt_524_180 := mz_sf_add ms_524_174 (t := 6) rfl rfl
theorem ms_524_201 : mz_sf mk_524 201 = mt_524_201 := mz_sf_add ms_524_180 (t := 21) rfl rfl
theorem ms_524_202 : mz_sf mk_524 202 = mt_524_202 := mz_sf_add ms_524_201 (t := 1) rfl rfl
theorem ms_524_249 : mz_sf mk_524 249 = mt_524_249 := mz_sf_add ms_524_202 (t := 47) rfl rfl
theorem ms_524_255 : mz_sf mk_524 255 = mt_524_255 := mz_sf_add ms_524_249 (t := 6) rfl rfl
theorem ms_524_257 : mz_sf mk_524 257 = mt_524_257 := mz_sf_add ms_524_255 (t := 2) rfl rfl
theorem ms_524_279 : mz_sf mk_524 279 = mt_524_279 := mz_sf_add ms_524_257 (t := 22) rfl rfl
theorem ms_524_300 : mz_sf mk_524 300 = mt_524_300 := mz_sf_add ms_524_279 (t := 21) rfl rfl
theorem ms_524_304 : mz_sf mk_524 304 = mt_524_304 := mz_sf_add ms_524_300 (t := 4) rfl rfl
theorem ms_524_347 : mz_sf mk_524 347 = mt_524_347 := mz_sf_add ms_524_304 (t := 43) rfl rfl
theorem ms_524_353 : mz_sf mk_524 353 = mt_524_353 := mz_sf_add ms_524_347 (t := 6) rfl rfl
theorem ms_524_355 : mz_sf mk_524 355 = mt_524_355 := mz_sf_add ms_524_353 (t := 2) rfl rfl
theorem ms_524_407 : mz_sf mk_524 407 = mt_524_407 := mz_sf_add ms_524_355 (t := 52) rfl rfl
theorem ms_524_413 : mz_sf mk_524 413 = mt_524_413 := mz_sf_add ms_524_407 (t := 6) rfl rfl
set_option maxRecDepth 100000 in
theorem mzq_524 : mz_PG0 524 = some (12, ⟨"KeptHouseModel", "warm", "(I)V"⟩, prog_14_method_95_code, 8, none, [], mk_524, []) := rfl
theorem cg_524_48 (hd : 2 ≤ d) (hS : mz_extR S 342) (hR : mz_rok R 342)  (v1 : Int32) (v2 : Int32) (N : mz_N) {C0 : (mz_N) → Prop} (hr : ∀ (N2 : mz_N), C0 N2 → Q (.inl none) (mz_k S R N2 b t)) {C1 : ((Int32 × mz_N) ⊕ (mz_N)) → Prop} (hc1 : ∀ s2, C1 (.inl s2) → mz_G (d, mz_X0 L xs, none, [], mk_524, 8, Q) 14 mt_524_14 [(0, .ref 232), (1, .int v1), (2, .int s2.1)] [] false (mz_k S R s2.2 b t)) (hx1 : ∀ z, C1 (.inr z) → C0 z) (hp : cp_524_48 v1 v2 N) (hC : C1 (cf_524_48 v1 v2 N)) : mz_G (d, mz_X0 L xs, none, [], mk_524, 8, Q) 48 mt_524_48 [(0, .ref 232), (1, .int v1), (2, .int v2)] [] false (mz_k S R N b t) := by
  unfold cf_524_48 at hC
  unfold cp_524_48 at hp
  refine g_iinc rfl mzi_1 (Nat.le_of_ble_eq_true rfl) rfl (g_goto (tg := 14) rfl ms_524_14 ?_)
  refine g_weak ?_ (g_cl (hc1 ((v2 + 1), N) hC))
  exact ⟨rfl, rfl, rfl, trivial⟩
theorem cg_524_347 (hd : 2 ≤ d) (hS : mz_extR S 342) (hR : mz_rok R 342)  (v1 : Int32) (v2 : Int32) (N : mz_N) {C0 : (mz_N) → Prop} (hr : ∀ (N2 : mz_N), C0 N2 → Q (.inl none) (mz_k S R N2 b t)) {C1 : ((Int32 × mz_N) ⊕ (mz_N)) → Prop} (hc1 : ∀ s2, C1 (.inl s2) → mz_G (d, mz_X0 L xs, none, [], mk_524, 8, Q) 257 mt_524_257 [(0, .ref 232), (1, .int v1), (2, .int s2.1)] [] false (mz_k S R s2.2 b t)) (hx1 : ∀ z, C1 (.inr z) → C0 z) (hp : cp_524_347 v1 v2 N) (hC : C1 (cf_524_347 v1 v2 N)) : mz_G (d, mz_X0 L xs, none, [], mk_524, 8, Q) 347 mt_524_347 [(0, .ref 232), (1, .int v1), (2, .int v2)] [] false (mz_k S R N b t) := by
  unfold cf_524_347 at hC
  unfold cp_524_347 at hp
  refine g_iinc rfl mzi_1 (Nat.le_of_ble_eq_true rfl) rfl (g_goto (tg := 257) rfl ms_524_257 ?_)
  refine g_weak ?_ (g_cl (hc1 ((v2 + 1), N) hC))
  exact ⟨rfl, rfl, rfl, trivial⟩
theorem cg_524_304 (hd : 2 ≤ d) (hS : mz_extR S 342) (hR : mz_rok R 342)  (s0 : Int32) (v1 : Int32) (v2 : Int32) (v3 : Int32) (N : mz_N) {C0 : (mz_N) → Prop} (hr : ∀ (N2 : mz_N), C0 N2 → Q (.inl none) (mz_k S R N2 b t)) {C1 : ((Int32 × mz_N) ⊕ (mz_N)) → Prop} (hc1 : ∀ s2, C1 (.inl s2) → mz_G (d, mz_X0 L xs, none, [], mk_524, 8, Q) 257 mt_524_257 [(0, .ref 232), (1, .int v1), (2, .int s2.1)] [] false (mz_k S R s2.2 b t)) (hx1 : ∀ z, C1 (.inr z) → C0 z) (hp : cp_524_304 s0 v1 v2 v3 N) (hC : C1 (cf_524_304 s0 v1 v2 v3 N)) : mz_G (d, mz_X0 L xs, none, [], mk_524, 8, Q) 304 mt_524_304 [(0, .ref 232), (1, .int v1), (2, .int v2), (3, .int v3)] [.int s0] false (mz_k S R N b t) := by
  unfold cf_524_304 at hC
  unfold cp_524_304 at hp
  refine g_istore (Nat.le_of_ble_eq_true rfl) rfl (g_aload_n rfl (g_getR (mz_at hS (Nat.le_of_ble_eq_true rfl) mzcS_232) mzcf_12_48 (mz_rb hR (Nat.le_of_ble_eq_true rfl) rfl mzcR_232_48) (g_aload_n rfl (g_getR (mz_at hS (Nat.le_of_ble_eq_true rfl) mzcS_232) mzcf_12_6 (mz_rb hR (Nat.le_of_ble_eq_true rfl) rfl mzcR_232_6) (g_bipush mzb_48 (g_iload_n rfl (g_bipush mzb_110 ?_)))))))
  refine g_idiv (by decide) (g_imul (g_iload rfl (g_iadd ?_)))
  obtain ⟨h1, hp⟩ := hp
  refine g_iald hS.1 (mz_at hS (Nat.le_of_ble_eq_true rfl) mzcS_235) h1 (g_dup2 rfl rfl ?_)
  obtain ⟨h2, hp⟩ := hp
  refine g_lald (mz_at hS (Nat.le_of_ble_eq_true rfl) mzcS_268) h2 (g_aload_n rfl (g_getR (mz_at hS (Nat.le_of_ble_eq_true rfl) mzcS_232) mzcf_12_18 (mz_rb hR (Nat.le_of_ble_eq_true rfl) rfl mzcR_232_18) (g_bipush mzb_24 (g_iload_n rfl ?_))))
  refine g_s1v (Nat.le_of_ble_eq_true rfl) (fun _ hq => cs_526 (Nat.le_trans (Nat.le_of_ble_eq_true rfl) hd) (hS.le (Nat.le_of_ble_eq_true rfl)) (hR.le (Nat.le_of_ble_eq_true rfl))  v3 trivial hq) (g_imul (g_iload_n rfl (g_iadd ?_)))
  obtain ⟨h4, hp⟩ := hp
  refine g_iald hS.1 (mz_at hS (Nat.le_of_ble_eq_true rfl) mzcS_246) h4 (g_bipush mzb_10 (g_idiv (by decide) (g_i2l (g_ladd ?_))))
  obtain ⟨h5, hp⟩ := hp
  refine g_last (mz_at hS (Nat.le_of_ble_eq_true rfl) mzcS_268) h5 ?_
  refine g_weak ?_ (g_cl (cg_524_347 hd hS hR v1 v2 (mz_wL N 268 (mz_gI N 235 ((48 * (v2 / 110)) + s0)) ((mz_gL N 268 (mz_gI N 235 ((48 * (v2 / 110)) + s0))) + (((mz_gI N 246 ((24 * (cf_526_0 v3)) + v1)) / 10).toInt64))) hr hc1 hx1 hp hC))
  exact ⟨rfl, rfl, rfl, trivial⟩
theorem cg_524_407 (hd : 2 ≤ d) (hS : mz_extR S 342) (hR : mz_rok R 342)  (v1 : Int32) (v2 : Int32) (N : mz_N) {C0 : (mz_N) → Prop} (hr : ∀ (N2 : mz_N), C0 N2 → Q (.inl none) (mz_k S R N2 b t)) {C1 : ((Int32 × mz_N) ⊕ (mz_N)) → Prop} (hc1 : ∀ s2, C1 (.inl s2) → mz_G (d, mz_X0 L xs, none, [], mk_524, 8, Q) 355 mt_524_355 [(0, .ref 232), (1, .int v1), (2, .int s2.1)] [] false (mz_k S R s2.2 b t)) (hx1 : ∀ z, C1 (.inr z) → C0 z) (hp : cp_524_407 v1 v2 N) (hC : C1 (cf_524_407 v1 v2 N)) : mz_G (d, mz_X0 L xs, none, [], mk_524, 8, Q) 407 mt_524_407 [(0, .ref 232), (1, .int v1), (2, .int v2)] [] false (mz_k S R N b t) := by
  unfold cf_524_407 at hC
  unfold cp_524_407 at hp
  refine g_iinc rfl mzi_1 (Nat.le_of_ble_eq_true rfl) rfl (g_goto (tg := 355) rfl ms_524_355 ?_)
  refine g_weak ?_ (g_cl (hc1 ((v2 + 1), N) hC))
  exact ⟨rfl, rfl, rfl, trivial⟩
theorem cb_524_355 (hd : 2 ≤ d) (hS : mz_extR S 342) (hR : mz_rok R 342)  (v1 : Int32) (s : Int32 × mz_N) {C0 : (mz_N) → Prop} (hr : ∀ (N2 : mz_N), C0 N2 → Q (.inl none) (mz_k S R N2 b t)) {C1 : ((Int32 × mz_N) ⊕ (mz_N)) → Prop} (hc1 : ∀ s2, C1 (.inl s2) → mz_G (d, mz_X0 L xs, none, [], mk_524, 8, Q) 355 mt_524_355 [(0, .ref 232), (1, .int v1), (2, .int s2.1)] [] false (mz_k S R s2.2 b t)) (hx1 : ∀ z, C1 (.inr z) → C0 z) (hp : cd_524_355 v1 s) (hC : C1 (cq_524_355 v1 s)) : mz_G (d, mz_X0 L xs, none, [], mk_524, 8, Q) 355 mt_524_355 [(0, .ref 232), (1, .int v1), (2, .int s.1)] [] false (mz_k S R s.2 b t) := by
  unfold cq_524_355 at hC
  unfold cd_524_355 at hp
  refine g_iload_n rfl (g_bipush mzb_10 ?_)
  refine g_icge (tg := 413) rfl ms_524_413 hC (fun h1 hC => ?_) (fun h1 hC => ?_)
  · have hp := hp.1 h1
    refine g_aload_n rfl (g_getR (mz_at hS (Nat.le_of_ble_eq_true rfl) mzcS_232) mzcf_12_14 (mz_rb hR (Nat.le_of_ble_eq_true rfl) rfl mzcR_232_14) (g_iload_n rfl ?_))
    obtain ⟨h2, hp⟩ := hp
    refine g_iald hS.1 (mz_at hS (Nat.le_of_ble_eq_true rfl) mzcS_242) h2 ?_
    refine g_iflt (tg := 407) rfl ms_524_407 hC (fun h3 hC => ?_) (fun h3 hC => ?_)
    · have hp := hp.1 h3
      refine g_weak ?_ (g_cl (cg_524_407 hd hS hR v1 s.1 s.2 hr hc1 hx1 hp hC))
      exact ⟨rfl, rfl, rfl, trivial⟩
    · have hp := hp.2 h3
      refine g_aload_n rfl (g_getR (mz_at hS (Nat.le_of_ble_eq_true rfl) mzcS_232) mzcf_12_48 (mz_rb hR (Nat.le_of_ble_eq_true rfl) rfl mzcR_232_48) (g_aload_n rfl (g_getR (mz_at hS (Nat.le_of_ble_eq_true rfl) mzcS_232) mzcf_12_14 (mz_rb hR (Nat.le_of_ble_eq_true rfl) rfl mzcR_232_14) (g_iload_n rfl ?_))))
      obtain ⟨h4, hp⟩ := hp
      refine g_iald hS.1 (mz_at hS (Nat.le_of_ble_eq_true rfl) mzcS_242) h4 (g_dup2 rfl rfl ?_)
      obtain ⟨h5, hp⟩ := hp
      refine g_lald (mz_at hS (Nat.le_of_ble_eq_true rfl) mzcS_268) h5 (g_con3 (g_aload_n rfl (g_iload_n rfl (g_iload_n rfl ?_))))
      obtain ⟨h6, hp⟩ := hp
      refine g_v3v (Nat.le_of_ble_eq_true rfl) (mz_at hS (Nat.le_of_ble_eq_true rfl) mzcS_232) (fun _ hq => cs_519 (Nat.le_trans (Nat.le_of_ble_eq_true rfl) hd) (hS.le (Nat.le_of_ble_eq_true rfl)) (hR.le (Nat.le_of_ble_eq_true rfl))  s.1 v1 s.2 h6 hq) (g_i2l (g_lmul (g_con3 (g_aload_n rfl (g_getR (mz_at hS (Nat.le_of_ble_eq_true rfl) mzcS_232) mzcf_12_56 (mz_rb hR (Nat.le_of_ble_eq_true rfl) rfl mzcR_232_56) (g_iload_n rfl ?_))))))
      obtain ⟨h7, hp⟩ := hp
      refine g_iald hS.1 (mz_at hS (Nat.le_of_ble_eq_true rfl) mzcS_272) h7 (g_i2l (g_lmul (g_ladd (g_ladd ?_))))
      obtain ⟨h8, hp⟩ := hp
      refine g_last (mz_at hS (Nat.le_of_ble_eq_true rfl) mzcS_268) h8 ?_
      refine g_weak ?_ (g_cl (cg_524_407 hd hS hR v1 s.1 (mz_wL s.2 268 (mz_gI s.2 242 s.1) ((mz_gL s.2 268 (mz_gI s.2 242 s.1)) + ((8 * ((cf_519_0 s.1 v1 s.2).toInt64)) + (3 * ((mz_gI s.2 272 s.1).toInt64))))) hr hc1 hx1 hp hC))
      exact ⟨rfl, rfl, rfl, trivial⟩
  · have hp := hp.2 h1
    refine g_aload_n rfl ?_
    obtain ⟨h9, hp⟩ := hp
    refine g_v1n (Nat.le_of_ble_eq_true rfl) (mz_at hS (Nat.le_of_ble_eq_true rfl) mzcS_232) (fun _ hq => cs_527 (Nat.le_trans (Nat.le_of_ble_eq_true rfl) hd) (hS.le (Nat.le_of_ble_eq_true rfl)) (hR.le (Nat.le_of_ble_eq_true rfl))  s.2 h9 hq) (g_aload_n rfl (g_aload_n rfl (g_getR (mz_at hS (Nat.le_of_ble_eq_true rfl) mzcS_232) mzcf_12_48 (mz_rb hR (Nat.le_of_ble_eq_true rfl) rfl mzcR_232_48) (g_aload_n rfl (g_getR (mz_at hS (Nat.le_of_ble_eq_true rfl) mzcS_232) mzcf_12_40 (mz_rb hR (Nat.le_of_ble_eq_true rfl) rfl mzcR_232_40) ?_)))))
    have h10 := hp
    refine g_v3n (Nat.le_of_ble_eq_true rfl) (mz_at hS (Nat.le_of_ble_eq_true rfl) mzcS_232) (fun _ hq => cs_530 (Nat.le_trans (Nat.le_of_ble_eq_true rfl) hd) (hS.le (Nat.le_of_ble_eq_true rfl)) (hR.le (Nat.le_of_ble_eq_true rfl)) 268 40 260 (mz_at hS (Nat.le_of_ble_eq_true rfl) mzcS_268) (mz_at hS (Nat.le_of_ble_eq_true rfl) mzcS_260) (cf_527_0 s.2) h10 hq) ?_
    exact g_vret rfl (hr _ (hx1 _ hC))
theorem cg_524_355 (hd : 2 ≤ d) (hS : mz_extR S 342) (hR : mz_rok R 342)  (v1 : Int32) (v2 : Int32) (N : mz_N) {C0 : (mz_N) → Prop} (hr : ∀ (N2 : mz_N), C0 N2 → Q (.inl none) (mz_k S R N2 b t)) (hp : cp_524_355 v1 v2 N) (hC : C0 (cf_524_355 v1 v2 N)) : mz_G (d, mz_X0 L xs, none, [], mk_524, 8, Q) 355 mt_524_355 [(0, .ref 232), (1, .int v1), (2, .int v2)] [] false (mz_k S R N b t) := by
  obtain ⟨n, hn⟩ := hp
  exact g_loop (G := fun s => mz_G (d, mz_X0 L xs, none, [], mk_524, 8, Q) 355 mt_524_355 [(0, .ref 232), (1, .int v1), (2, .int s.1)] [] false (mz_k S R s.2 b t)) (C := C0) (fun C2 hc hx s hP hC => cb_524_355 hd hS hR v1 s hr hc hx hP hC) n (v2, N) hn hC
theorem cb_524_257 (hd : 2 ≤ d) (hS : mz_extR S 342) (hR : mz_rok R 342)  (v1 : Int32) (s : Int32 × mz_N) {C0 : (mz_N) → Prop} (hr : ∀ (N2 : mz_N), C0 N2 → Q (.inl none) (mz_k S R N2 b t)) {C1 : ((Int32 × mz_N) ⊕ (mz_N)) → Prop} (hc1 : ∀ s2, C1 (.inl s2) → mz_G (d, mz_X0 L xs, none, [], mk_524, 8, Q) 257 mt_524_257 [(0, .ref 232), (1, .int v1), (2, .int s2.1)] [] false (mz_k S R s2.2 b t)) (hx1 : ∀ z, C1 (.inr z) → C0 z) (hp : cd_524_257 v1 s) (hC : C1 (cq_524_257 v1 s)) : mz_G (d, mz_X0 L xs, none, [], mk_524, 8, Q) 257 mt_524_257 [(0, .ref 232), (1, .int v1), (2, .int s.1)] [] false (mz_k S R s.2 b t) := by
  unfold cq_524_257 at hC
  unfold cd_524_257 at hp
  refine g_iload_n rfl (g_sipush mzs_550 ?_)
  refine g_icge (tg := 353) rfl ms_524_353 hC (fun h1 hC => ?_) (fun h1 hC => ?_)
  · have hp := hp.1 h1
    refine g_iload_n rfl (g_bipush mzb_110 (g_irem (by decide) (g_istore_n (Nat.le_of_ble_eq_true rfl) rfl (g_aload_n rfl (g_getR (mz_at hS (Nat.le_of_ble_eq_true rfl) mzcS_232) mzcf_12_3 (mz_rb hR (Nat.le_of_ble_eq_true rfl) rfl mzcR_232_3) (g_iload_n rfl ?_))))))
    obtain ⟨h2, hp⟩ := hp
    refine g_iald hS.1 (mz_at hS (Nat.le_of_ble_eq_true rfl) mzcS_233) h2 (g_iconst mzi_3 ?_)
    refine g_icne (tg := 347) rfl ms_524_347 hC (fun h3 hC => ?_) (fun h3 hC => ?_)
    · have hp := hp.1 h3
      refine g_iload_n rfl ?_
      refine g_s1v (Nat.le_of_ble_eq_true rfl) (fun _ hq => cs_417 (Nat.le_trans (Nat.le_of_ble_eq_true rfl) hd) (hS.le (Nat.le_of_ble_eq_true rfl)) (hR.le (Nat.le_of_ble_eq_true rfl))  (mz_irem s.1 110) trivial hq) ?_
      refine g_zeq (tg := 347) rfl ms_524_347 hC (fun h5 hC => ?_) (fun h5 hC => ?_)
      · have hp := hp.1 h5
        refine g_iload_n rfl ?_
        refine g_s1v (Nat.le_of_ble_eq_true rfl) (fun _ hq => cs_432 (Nat.le_trans (Nat.le_of_ble_eq_true rfl) hd) (hS.le (Nat.le_of_ble_eq_true rfl)) (hR.le (Nat.le_of_ble_eq_true rfl))  (mz_irem s.1 110) trivial hq) ?_
        refine g_ifge (tg := 300) rfl ms_524_300 hC (fun h7 hC => ?_) (fun h7 hC => ?_)
        · have hp := hp.1 h7
          refine g_iload_n rfl ?_
          refine g_s1v (Nat.le_of_ble_eq_true rfl) (fun _ hq => cs_433 (Nat.le_trans (Nat.le_of_ble_eq_true rfl) hd) (hS.le (Nat.le_of_ble_eq_true rfl)) (hR.le (Nat.le_of_ble_eq_true rfl))  (mz_irem s.1 110) trivial hq) (g_goto (tg := 304) rfl ms_524_304 ?_)
          refine g_weak ?_ (g_cl (cg_524_304 hd hS hR (cf_433_0 (mz_irem s.1 110)) v1 s.1 (mz_irem s.1 110) s.2 hr hc1 hx1 hp hC))
          exact ⟨rfl, rfl, rfl, rfl, trivial⟩
        · have hp := hp.2 h7
          refine g_iload_n rfl ?_
          refine g_s1v (Nat.le_of_ble_eq_true rfl) (fun _ hq => cs_432 (Nat.le_trans (Nat.le_of_ble_eq_true rfl) hd) (hS.le (Nat.le_of_ble_eq_true rfl)) (hR.le (Nat.le_of_ble_eq_true rfl))  (mz_irem s.1 110) trivial hq) ?_
          refine g_weak ?_ (g_cl (cg_524_304 hd hS hR (cf_432_0 (mz_irem s.1 110)) v1 s.1 (mz_irem s.1 110) s.2 hr hc1 hx1 hp hC))
          exact ⟨rfl, rfl, rfl, rfl, trivial⟩
      · have hp := hp.2 h5
        refine g_weak ?_ (g_cl (cg_524_347 hd hS hR v1 s.1 s.2 hr hc1 hx1 hp hC))
        exact ⟨rfl, rfl, rfl, trivial⟩
    · have hp := hp.2 h3
      refine g_weak ?_ (g_cl (cg_524_347 hd hS hR v1 s.1 s.2 hr hc1 hx1 hp hC))
      exact ⟨rfl, rfl, rfl, trivial⟩
  · have hp := hp.2 h1
    refine g_iconst mzi_0 (g_istore_n (Nat.le_of_ble_eq_true rfl) rfl ?_)
    refine g_weak ?_ (g_cl (cg_524_355 hd hS hR v1 0 s.2 hr hp (hx1 _ hC)))
    exact ⟨rfl, rfl, rfl, trivial⟩
theorem cg_524_257 (hd : 2 ≤ d) (hS : mz_extR S 342) (hR : mz_rok R 342)  (v1 : Int32) (v2 : Int32) (N : mz_N) {C0 : (mz_N) → Prop} (hr : ∀ (N2 : mz_N), C0 N2 → Q (.inl none) (mz_k S R N2 b t)) (hp : cp_524_257 v1 v2 N) (hC : C0 (cf_524_257 v1 v2 N)) : mz_G (d, mz_X0 L xs, none, [], mk_524, 8, Q) 257 mt_524_257 [(0, .ref 232), (1, .int v1), (2, .int v2)] [] false (mz_k S R N b t) := by
  obtain ⟨n, hn⟩ := hp
  exact g_loop (G := fun s => mz_G (d, mz_X0 L xs, none, [], mk_524, 8, Q) 257 mt_524_257 [(0, .ref 232), (1, .int v1), (2, .int s.1)] [] false (mz_k S R s.2 b t)) (C := C0) (fun C2 hc hx s hP hC => cb_524_257 hd hS hR v1 s hr hc hx hP hC) n (v2, N) hn hC
theorem cg_524_249 (hd : 2 ≤ d) (hS : mz_extR S 342) (hR : mz_rok R 342)  (v1 : Int32) (v2 : Int32) (N : mz_N) {C0 : (mz_N) → Prop} (hr : ∀ (N2 : mz_N), C0 N2 → Q (.inl none) (mz_k S R N2 b t)) {C1 : ((Int32 × mz_N) ⊕ (mz_N)) → Prop} (hc1 : ∀ s2, C1 (.inl s2) → mz_G (d, mz_X0 L xs, none, [], mk_524, 8, Q) 56 mt_524_56 [(0, .ref 232), (1, .int v1), (2, .int s2.1)] [] false (mz_k S R s2.2 b t)) (hx1 : ∀ z, C1 (.inr z) → C0 z) (hp : cp_524_249 v1 v2 N) (hC : C1 (cf_524_249 v1 v2 N)) : mz_G (d, mz_X0 L xs, none, [], mk_524, 8, Q) 249 mt_524_249 [(0, .ref 232), (1, .int v1), (2, .int v2)] [] false (mz_k S R N b t) := by
  unfold cf_524_249 at hC
  unfold cp_524_249 at hp
  refine g_iinc rfl mzi_1 (Nat.le_of_ble_eq_true rfl) rfl (g_goto (tg := 56) rfl ms_524_56 ?_)
  refine g_weak ?_ (g_cl (hc1 ((v2 + 1), N) hC))
  exact ⟨rfl, rfl, rfl, trivial⟩
theorem cg_524_202 (hd : 2 ≤ d) (hS : mz_extR S 342) (hR : mz_rok R 342)  (s0 : Int32) (v1 : Int32) (v2 : Int32) (N : mz_N) {C0 : (mz_N) → Prop} (hr : ∀ (N2 : mz_N), C0 N2 → Q (.inl none) (mz_k S R N2 b t)) {C1 : ((Int32 × mz_N) ⊕ (mz_N)) → Prop} (hc1 : ∀ s2, C1 (.inl s2) → mz_G (d, mz_X0 L xs, none, [], mk_524, 8, Q) 56 mt_524_56 [(0, .ref 232), (1, .int v1), (2, .int s2.1)] [] false (mz_k S R s2.2 b t)) (hx1 : ∀ z, C1 (.inr z) → C0 z) (hp : cp_524_202 s0 v1 v2 N) (hC : C1 (cf_524_202 s0 v1 v2 N)) : mz_G (d, mz_X0 L xs, none, [], mk_524, 8, Q) 202 mt_524_202 [(0, .ref 232), (1, .int v1), (2, .int v2)] [.int s0] false (mz_k S R N b t) := by
  unfold cf_524_202 at hC
  unfold cp_524_202 at hp
  refine g_istore_n (Nat.le_of_ble_eq_true rfl) rfl (g_aload_n rfl (g_getR (mz_at hS (Nat.le_of_ble_eq_true rfl) mzcS_232) mzcf_12_48 (mz_rb hR (Nat.le_of_ble_eq_true rfl) rfl mzcR_232_48) (g_iload_n rfl (g_dup2 rfl rfl ?_))))
  obtain ⟨h1, hp⟩ := hp
  refine g_lald (mz_at hS (Nat.le_of_ble_eq_true rfl) mzcS_268) h1 (g_aload_n rfl (g_getR (mz_at hS (Nat.le_of_ble_eq_true rfl) mzcS_232) mzcf_12_49 (mz_rb hR (Nat.le_of_ble_eq_true rfl) rfl mzcR_232_49) (g_iload_n rfl ?_)))
  obtain ⟨h2, hp⟩ := hp
  refine g_lald (mz_at hS (Nat.le_of_ble_eq_true rfl) mzcS_269) h2 (g_aload_n rfl (g_getR (mz_at hS (Nat.le_of_ble_eq_true rfl) mzcS_232) mzcf_12_17 (mz_rb hR (Nat.le_of_ble_eq_true rfl) rfl mzcR_232_17) (g_iload_n rfl ?_)))
  obtain ⟨h3, hp⟩ := hp
  refine g_iald hS.1 (mz_at hS (Nat.le_of_ble_eq_true rfl) mzcS_245) h3 (g_i2l (g_lsub (g_aload_n rfl (g_getR (mz_at hS (Nat.le_of_ble_eq_true rfl) mzcS_232) mzcf_12_12 (mz_rb hR (Nat.le_of_ble_eq_true rfl) rfl mzcR_232_12) (g_iload_n rfl ?_)))))
  obtain ⟨h4, hp⟩ := hp
  refine g_iald hS.1 (mz_at hS (Nat.le_of_ble_eq_true rfl) mzcS_240) h4 (g_iconst mzi_4 (g_aload_n rfl (g_getR (mz_at hS (Nat.le_of_ble_eq_true rfl) mzcS_232) mzcf_12_13 (mz_rb hR (Nat.le_of_ble_eq_true rfl) rfl mzcR_232_13) (g_iload_n rfl ?_))))
  obtain ⟨h5, hp⟩ := hp
  refine g_iald hS.1 (mz_at hS (Nat.le_of_ble_eq_true rfl) mzcS_241) h5 (g_imul (g_iadd (g_iload_n rfl (g_iadd (g_i2l (g_lmul (g_con3 ?_)))))))
  refine g_ldiv (by decide) (g_lsub ?_)
  obtain ⟨h6, hp⟩ := hp
  refine g_last (mz_at hS (Nat.le_of_ble_eq_true rfl) mzcS_268) h6 ?_
  refine g_weak ?_ (g_cl (cg_524_249 hd hS hR v1 v2 (mz_wL N 268 v2 ((mz_gL N 268 v2) - ((((mz_gL N 269 v2) - ((mz_gI N 245 v1).toInt64)) * ((((mz_gI N 240 v2) + (4 * (mz_gI N 241 v2))) + s0).toInt64)) / 10))) hr hc1 hx1 hp hC))
  exact ⟨rfl, rfl, rfl, trivial⟩
theorem cg_524_174 (hd : 2 ≤ d) (hS : mz_extR S 342) (hR : mz_rok R 342)  (v1 : Int32) (v2 : Int32) (v3 : Int32) (N : mz_N) {C0 : (mz_N) → Prop} (hr : ∀ (N2 : mz_N), C0 N2 → Q (.inl none) (mz_k S R N2 b t)) {C1 : ((Int32 × mz_N) ⊕ (mz_N)) → Prop} (hc1 : ∀ s2, C1 (.inl s2) → mz_G (d, mz_X0 L xs, none, [], mk_524, 8, Q) 56 mt_524_56 [(0, .ref 232), (1, .int v1), (2, .int s2.1)] [] false (mz_k S R s2.2 b t)) (hx1 : ∀ z, C1 (.inr z) → C0 z) {C2 : ((Int32 × mz_N) ⊕ ((Int32 × mz_N) ⊕ (mz_N))) → Prop} (hc2 : ∀ s2, C2 (.inl s2) → mz_G (d, mz_X0 L xs, none, [], mk_524, 8, Q) 68 mt_524_68 [(0, .ref 232), (1, .int v1), (2, .int v2), (3, .int s2.1)] [] false (mz_k S R s2.2 b t)) (hx2 : ∀ z, C2 (.inr z) → C1 z) (hp : cp_524_174 v1 v2 v3 N) (hC : C2 (cf_524_174 v1 v2 v3 N)) : mz_G (d, mz_X0 L xs, none, [], mk_524, 8, Q) 174 mt_524_174 [(0, .ref 232), (1, .int v1), (2, .int v2), (3, .int v3)] [] false (mz_k S R N b t) := by
  unfold cf_524_174 at hC
  unfold cp_524_174 at hp
  refine g_iinc rfl mzi_1 (Nat.le_of_ble_eq_true rfl) rfl (g_goto (tg := 68) rfl ms_524_68 ?_)
  refine g_weak ?_ (g_cl (hc2 ((v3 + 1), N) hC))
  exact ⟨rfl, rfl, rfl, rfl, trivial⟩
theorem cb_524_68 (hd : 2 ≤ d) (hS : mz_extR S 342) (hR : mz_rok R 342)  (v1 : Int32) (v2 : Int32) (s : Int32 × mz_N) {C0 : (mz_N) → Prop} (hr : ∀ (N2 : mz_N), C0 N2 → Q (.inl none) (mz_k S R N2 b t)) {C1 : ((Int32 × mz_N) ⊕ (mz_N)) → Prop} (hc1 : ∀ s2, C1 (.inl s2) → mz_G (d, mz_X0 L xs, none, [], mk_524, 8, Q) 56 mt_524_56 [(0, .ref 232), (1, .int v1), (2, .int s2.1)] [] false (mz_k S R s2.2 b t)) (hx1 : ∀ z, C1 (.inr z) → C0 z) {C2 : ((Int32 × mz_N) ⊕ ((Int32 × mz_N) ⊕ (mz_N))) → Prop} (hc2 : ∀ s2, C2 (.inl s2) → mz_G (d, mz_X0 L xs, none, [], mk_524, 8, Q) 68 mt_524_68 [(0, .ref 232), (1, .int v1), (2, .int v2), (3, .int s2.1)] [] false (mz_k S R s2.2 b t)) (hx2 : ∀ z, C2 (.inr z) → C1 z) (hp : cd_524_68 v1 v2 s) (hC : C2 (cq_524_68 v1 v2 s)) : mz_G (d, mz_X0 L xs, none, [], mk_524, 8, Q) 68 mt_524_68 [(0, .ref 232), (1, .int v1), (2, .int v2), (3, .int s.1)] [] false (mz_k S R s.2 b t) := by
  unfold cq_524_68 at hC
  unfold cd_524_68 at hp
  refine g_iload_n rfl (g_aload_n rfl (g_getI (mz_at hS (Nat.le_of_ble_eq_true rfl) mzcS_232) mzcf_12_7 ?_))
  refine g_icge (tg := 180) rfl ms_524_180 hC (fun h1 hC => ?_) (fun h1 hC => ?_)
  · have hp := hp.1 h1
    refine g_iconst mzi_4 (g_bipush mzb_40 (g_iload_n rfl (g_imul (g_iload_n rfl (g_iadd (g_imul (g_istore (Nat.le_of_ble_eq_true rfl) rfl ?_)))))))
    refine g_iconst mzi_3 (g_aload_n rfl (g_getR (mz_at hS (Nat.le_of_ble_eq_true rfl) mzcS_232) mzcf_12_11 (mz_rb hR (Nat.le_of_ble_eq_true rfl) rfl mzcR_232_11) (g_iload rfl (g_iconst mzi_1 (g_iadd ?_)))))
    obtain ⟨h2, hp⟩ := hp
    refine g_iald hS.1 (mz_at hS (Nat.le_of_ble_eq_true rfl) mzcS_239) h2 (g_imul (g_aload_n rfl (g_getR (mz_at hS (Nat.le_of_ble_eq_true rfl) mzcS_232) mzcf_12_11 (mz_rb hR (Nat.le_of_ble_eq_true rfl) rfl mzcR_232_11) (g_iload rfl (g_iconst mzi_2 (g_iadd ?_))))))
    obtain ⟨h3, hp⟩ := hp
    refine g_iald hS.1 (mz_at hS (Nat.le_of_ble_eq_true rfl) mzcS_239) h3 (g_iadd (g_iconst mzi_5 (g_aload_n rfl (g_getR (mz_at hS (Nat.le_of_ble_eq_true rfl) mzcS_232) mzcf_12_11 (mz_rb hR (Nat.le_of_ble_eq_true rfl) rfl mzcR_232_11) (g_iload rfl (g_iconst mzi_3 (g_iadd ?_)))))))
    obtain ⟨h4, hp⟩ := hp
    refine g_iald hS.1 (mz_at hS (Nat.le_of_ble_eq_true rfl) mzcS_239) h4 (g_imul (g_iadd (g_aload_n rfl (g_getR (mz_at hS (Nat.le_of_ble_eq_true rfl) mzcS_232) mzcf_12_11 (mz_rb hR (Nat.le_of_ble_eq_true rfl) rfl mzcR_232_11) (g_iload rfl ?_)))))
    obtain ⟨h5, hp⟩ := hp
    refine g_iald hS.1 (mz_at hS (Nat.le_of_ble_eq_true rfl) mzcS_239) h5 (g_iadd (g_istore (Nat.le_of_ble_eq_true rfl) rfl (g_aload_n rfl (g_getR (mz_at hS (Nat.le_of_ble_eq_true rfl) mzcS_232) mzcf_12_49 (mz_rb hR (Nat.le_of_ble_eq_true rfl) rfl mzcR_232_49) (g_iload_n rfl ?_)))))
    obtain ⟨h6, hp⟩ := hp
    refine g_lald (mz_at hS (Nat.le_of_ble_eq_true rfl) mzcS_269) h6 (g_aload_n rfl (g_getR (mz_at hS (Nat.le_of_ble_eq_true rfl) mzcS_232) mzcf_12_49 (mz_rb hR (Nat.le_of_ble_eq_true rfl) rfl mzcR_232_49) (g_iload_n rfl ?_)))
    obtain ⟨h7, hp⟩ := hp
    refine g_lald (mz_at hS (Nat.le_of_ble_eq_true rfl) mzcS_269) h7 (g_lsub (g_iload rfl (g_i2l (g_lmul (g_con3 (g_ldiv (by decide) (g_lstore (Nat.le_of_ble_eq_true rfl) rfl rfl ?_)))))))
    refine g_aload_n rfl (g_getR (mz_at hS (Nat.le_of_ble_eq_true rfl) mzcS_232) mzcf_12_48 (mz_rb hR (Nat.le_of_ble_eq_true rfl) rfl mzcR_232_48) (g_iload_n rfl (g_dup2 rfl rfl ?_)))
    obtain ⟨h8, hp⟩ := hp
    refine g_lald (mz_at hS (Nat.le_of_ble_eq_true rfl) mzcS_268) h8 (g_lload rfl (g_lsub ?_))
    obtain ⟨h9, hp⟩ := hp
    refine g_last (mz_at hS (Nat.le_of_ble_eq_true rfl) mzcS_268) h9 (g_aload_n rfl (g_getR (mz_at hS (Nat.le_of_ble_eq_true rfl) mzcS_232) mzcf_12_48 (mz_rb hR (Nat.le_of_ble_eq_true rfl) rfl mzcR_232_48) (g_iload_n rfl (g_dup2 rfl rfl ?_))))
    obtain ⟨h10, hp⟩ := hp
    refine g_lald (mz_at hS (Nat.le_of_ble_eq_true rfl) mzcS_268) h10 (g_lload rfl (g_ladd ?_))
    obtain ⟨h11, hp⟩ := hp
    refine g_last (mz_at hS (Nat.le_of_ble_eq_true rfl) mzcS_268) h11 ?_
    refine g_weak ?_ (g_cl (cg_524_174 hd hS hR v1 v2 s.1 (mz_wL (mz_wL s.2 268 v2 ((mz_gL s.2 268 v2) - ((((mz_gL s.2 269 v2) - (mz_gL s.2 269 s.1)) * (((((3 * (mz_gI s.2 239 ((4 * ((40 * v2) + s.1)) + 1))) + (mz_gI s.2 239 ((4 * ((40 * v2) + s.1)) + 2))) + (5 * (mz_gI s.2 239 ((4 * ((40 * v2) + s.1)) + 3)))) + (mz_gI s.2 239 (4 * ((40 * v2) + s.1)))).toInt64)) / 10))) 268 s.1 ((mz_gL (mz_wL s.2 268 v2 ((mz_gL s.2 268 v2) - ((((mz_gL s.2 269 v2) - (mz_gL s.2 269 s.1)) * (((((3 * (mz_gI s.2 239 ((4 * ((40 * v2) + s.1)) + 1))) + (mz_gI s.2 239 ((4 * ((40 * v2) + s.1)) + 2))) + (5 * (mz_gI s.2 239 ((4 * ((40 * v2) + s.1)) + 3)))) + (mz_gI s.2 239 (4 * ((40 * v2) + s.1)))).toInt64)) / 10))) 268 s.1) + ((((mz_gL s.2 269 v2) - (mz_gL s.2 269 s.1)) * (((((3 * (mz_gI s.2 239 ((4 * ((40 * v2) + s.1)) + 1))) + (mz_gI s.2 239 ((4 * ((40 * v2) + s.1)) + 2))) + (5 * (mz_gI s.2 239 ((4 * ((40 * v2) + s.1)) + 3)))) + (mz_gI s.2 239 (4 * ((40 * v2) + s.1)))).toInt64)) / 10))) hr hc1 hx1 hc2 hx2 hp hC))
    exact ⟨rfl, rfl, rfl, rfl, trivial⟩
  · have hp := hp.2 h1
    refine g_aload_n rfl (g_getR (mz_at hS (Nat.le_of_ble_eq_true rfl) mzcS_232) mzcf_12_8 (mz_rb hR (Nat.le_of_ble_eq_true rfl) rfl mzcR_232_8) (g_iload_n rfl ?_))
    obtain ⟨h12, hp⟩ := hp
    refine g_iald hS.1 (mz_at hS (Nat.le_of_ble_eq_true rfl) mzcS_236) h12 (g_sipush mzs_192 ?_)
    refine g_iclt (tg := 201) rfl ms_524_201 hC (fun h13 hC => ?_) (fun h13 hC => ?_)
    · have hp := hp.1 h13
      refine g_iconst mzi_0 ?_
      refine g_weak ?_ (g_cl (cg_524_202 hd hS hR 0 v1 v2 s.2 hr hc1 hx1 hp (hx2 _ hC)))
      exact ⟨rfl, rfl, rfl, trivial⟩
    · have hp := hp.2 h13
      refine g_aload_n rfl (g_getR (mz_at hS (Nat.le_of_ble_eq_true rfl) mzcS_232) mzcf_12_9 (mz_rb hR (Nat.le_of_ble_eq_true rfl) rfl mzcR_232_9) (g_iload_n rfl ?_))
      obtain ⟨h14, hp⟩ := hp
      refine g_iald hS.1 (mz_at hS (Nat.le_of_ble_eq_true rfl) mzcS_237) h14 (g_goto (tg := 202) rfl ms_524_202 ?_)
      refine g_weak ?_ (g_cl (cg_524_202 hd hS hR (mz_gI s.2 237 v2) v1 v2 s.2 hr hc1 hx1 hp (hx2 _ hC)))
      exact ⟨rfl, rfl, rfl, trivial⟩
theorem cg_524_68 (hd : 2 ≤ d) (hS : mz_extR S 342) (hR : mz_rok R 342)  (v1 : Int32) (v2 : Int32) (v3 : Int32) (N : mz_N) {C0 : (mz_N) → Prop} (hr : ∀ (N2 : mz_N), C0 N2 → Q (.inl none) (mz_k S R N2 b t)) {C1 : ((Int32 × mz_N) ⊕ (mz_N)) → Prop} (hc1 : ∀ s2, C1 (.inl s2) → mz_G (d, mz_X0 L xs, none, [], mk_524, 8, Q) 56 mt_524_56 [(0, .ref 232), (1, .int v1), (2, .int s2.1)] [] false (mz_k S R s2.2 b t)) (hx1 : ∀ z, C1 (.inr z) → C0 z) (hp : cp_524_68 v1 v2 v3 N) (hC : C1 (cf_524_68 v1 v2 v3 N)) : mz_G (d, mz_X0 L xs, none, [], mk_524, 8, Q) 68 mt_524_68 [(0, .ref 232), (1, .int v1), (2, .int v2), (3, .int v3)] [] false (mz_k S R N b t) := by
  obtain ⟨n, hn⟩ := hp
  exact g_loop (G := fun s => mz_G (d, mz_X0 L xs, none, [], mk_524, 8, Q) 68 mt_524_68 [(0, .ref 232), (1, .int v1), (2, .int v2), (3, .int s.1)] [] false (mz_k S R s.2 b t)) (C := C1) (fun C2 hc hx s hP hC => cb_524_68 hd hS hR v1 v2 s hr hc1 hx1 hc hx hP hC) n (v3, N) hn hC
theorem cb_524_56 (hd : 2 ≤ d) (hS : mz_extR S 342) (hR : mz_rok R 342)  (v1 : Int32) (s : Int32 × mz_N) {C0 : (mz_N) → Prop} (hr : ∀ (N2 : mz_N), C0 N2 → Q (.inl none) (mz_k S R N2 b t)) {C1 : ((Int32 × mz_N) ⊕ (mz_N)) → Prop} (hc1 : ∀ s2, C1 (.inl s2) → mz_G (d, mz_X0 L xs, none, [], mk_524, 8, Q) 56 mt_524_56 [(0, .ref 232), (1, .int v1), (2, .int s2.1)] [] false (mz_k S R s2.2 b t)) (hx1 : ∀ z, C1 (.inr z) → C0 z) (hp : cd_524_56 v1 s) (hC : C1 (cq_524_56 v1 s)) : mz_G (d, mz_X0 L xs, none, [], mk_524, 8, Q) 56 mt_524_56 [(0, .ref 232), (1, .int v1), (2, .int s.1)] [] false (mz_k S R s.2 b t) := by
  unfold cq_524_56 at hC
  unfold cd_524_56 at hp
  refine g_iload_n rfl (g_aload_n rfl (g_getI (mz_at hS (Nat.le_of_ble_eq_true rfl) mzcS_232) mzcf_12_7 ?_))
  refine g_icge (tg := 255) rfl ms_524_255 hC (fun h1 hC => ?_) (fun h1 hC => ?_)
  · have hp := hp.1 h1
    refine g_iload_n rfl (g_iconst mzi_1 (g_iadd (g_istore_n (Nat.le_of_ble_eq_true rfl) rfl ?_)))
    refine g_weak ?_ (g_cl (cg_524_68 hd hS hR v1 s.1 (s.1 + 1) s.2 hr hc1 hx1 hp hC))
    exact ⟨rfl, rfl, rfl, rfl, trivial⟩
  · have hp := hp.2 h1
    refine g_iconst mzi_0 (g_istore_n (Nat.le_of_ble_eq_true rfl) rfl ?_)
    refine g_weak ?_ (g_cl (cg_524_257 hd hS hR v1 0 s.2 hr hp (hx1 _ hC)))
    exact ⟨rfl, rfl, rfl, trivial⟩
theorem cg_524_56 (hd : 2 ≤ d) (hS : mz_extR S 342) (hR : mz_rok R 342)  (v1 : Int32) (v2 : Int32) (N : mz_N) {C0 : (mz_N) → Prop} (hr : ∀ (N2 : mz_N), C0 N2 → Q (.inl none) (mz_k S R N2 b t)) (hp : cp_524_56 v1 v2 N) (hC : C0 (cf_524_56 v1 v2 N)) : mz_G (d, mz_X0 L xs, none, [], mk_524, 8, Q) 56 mt_524_56 [(0, .ref 232), (1, .int v1), (2, .int v2)] [] false (mz_k S R N b t) := by
  obtain ⟨n, hn⟩ := hp
  exact g_loop (G := fun s => mz_G (d, mz_X0 L xs, none, [], mk_524, 8, Q) 56 mt_524_56 [(0, .ref 232), (1, .int v1), (2, .int s.1)] [] false (mz_k S R s.2 b t)) (C := C0) (fun C2 hc hx s hP hC => cb_524_56 hd hS hR v1 s hr hc hx hP hC) n (v2, N) hn hC
theorem cb_524_14 (hd : 2 ≤ d) (hS : mz_extR S 342) (hR : mz_rok R 342)  (v1 : Int32) (s : Int32 × mz_N) {C0 : (mz_N) → Prop} (hr : ∀ (N2 : mz_N), C0 N2 → Q (.inl none) (mz_k S R N2 b t)) {C1 : ((Int32 × mz_N) ⊕ (mz_N)) → Prop} (hc1 : ∀ s2, C1 (.inl s2) → mz_G (d, mz_X0 L xs, none, [], mk_524, 8, Q) 14 mt_524_14 [(0, .ref 232), (1, .int v1), (2, .int s2.1)] [] false (mz_k S R s2.2 b t)) (hx1 : ∀ z, C1 (.inr z) → C0 z) (hp : cd_524_14 v1 s) (hC : C1 (cq_524_14 v1 s)) : mz_G (d, mz_X0 L xs, none, [], mk_524, 8, Q) 14 mt_524_14 [(0, .ref 232), (1, .int v1), (2, .int s.1)] [] false (mz_k S R s.2 b t) := by
  unfold cq_524_14 at hC
  unfold cd_524_14 at hp
  refine g_iload_n rfl (g_aload_n rfl (g_getI (mz_at hS (Nat.le_of_ble_eq_true rfl) mzcS_232) mzcf_12_7 ?_))
  refine g_icge (tg := 54) rfl ms_524_54 hC (fun h1 hC => ?_) (fun h1 hC => ?_)
  · have hp := hp.1 h1
    refine g_aload_n rfl (g_getR (mz_at hS (Nat.le_of_ble_eq_true rfl) mzcS_232) mzcf_12_49 (mz_rb hR (Nat.le_of_ble_eq_true rfl) rfl mzcR_232_49) (g_iload_n rfl (g_aload_n rfl (g_getR (mz_at hS (Nat.le_of_ble_eq_true rfl) mzcS_232) mzcf_12_48 (mz_rb hR (Nat.le_of_ble_eq_true rfl) rfl mzcR_232_48) (g_iload_n rfl ?_)))))
    obtain ⟨h2, hp⟩ := hp
    refine g_lald (mz_at hS (Nat.le_of_ble_eq_true rfl) mzcS_268) h2 (g_con3 (g_aload_n rfl (g_getR (mz_at hS (Nat.le_of_ble_eq_true rfl) mzcS_232) mzcf_12_9 (mz_rb hR (Nat.le_of_ble_eq_true rfl) rfl mzcR_232_9) (g_iload_n rfl ?_))))
    obtain ⟨h3, hp⟩ := hp
    refine g_iald hS.1 (mz_at hS (Nat.le_of_ble_eq_true rfl) mzcS_237) h3 (g_i2l (g_lmul ?_))
    obtain ⟨h4, hp⟩ := hp
    refine g_s2v (Nat.le_of_ble_eq_true rfl) (fun _ hq => cs_489 (Nat.le_trans (Nat.le_of_ble_eq_true rfl) hd) (hS.le (Nat.le_of_ble_eq_true rfl)) (hR.le (Nat.le_of_ble_eq_true rfl))  (mz_gL s.2 268 s.1) (100 * ((mz_gI s.2 237 s.1).toInt64)) h4 hq) ?_
    obtain ⟨h5, hp⟩ := hp
    refine g_last (mz_at hS (Nat.le_of_ble_eq_true rfl) mzcS_269) h5 ?_
    refine g_weak ?_ (g_cl (cg_524_48 hd hS hR v1 s.1 (mz_wL s.2 269 s.1 (cf_489_0 (mz_gL s.2 268 s.1) (100 * ((mz_gI s.2 237 s.1).toInt64)))) hr hc1 hx1 hp hC))
    exact ⟨rfl, rfl, rfl, trivial⟩
  · have hp := hp.2 h1
    refine g_iconst mzi_0 (g_istore_n (Nat.le_of_ble_eq_true rfl) rfl ?_)
    refine g_weak ?_ (g_cl (cg_524_56 hd hS hR v1 0 s.2 hr hp (hx1 _ hC)))
    exact ⟨rfl, rfl, rfl, trivial⟩
theorem cg_524_14 (hd : 2 ≤ d) (hS : mz_extR S 342) (hR : mz_rok R 342)  (v1 : Int32) (v2 : Int32) (N : mz_N) {C0 : (mz_N) → Prop} (hr : ∀ (N2 : mz_N), C0 N2 → Q (.inl none) (mz_k S R N2 b t)) (hp : cp_524_14 v1 v2 N) (hC : C0 (cf_524_14 v1 v2 N)) : mz_G (d, mz_X0 L xs, none, [], mk_524, 8, Q) 14 mt_524_14 [(0, .ref 232), (1, .int v1), (2, .int v2)] [] false (mz_k S R N b t) := by
  obtain ⟨n, hn⟩ := hp
  exact g_loop (G := fun s => mz_G (d, mz_X0 L xs, none, [], mk_524, 8, Q) 14 mt_524_14 [(0, .ref 232), (1, .int v1), (2, .int s.1)] [] false (mz_k S R s.2 b t)) (C := C0) (fun C2 hc hx s hP hC => cb_524_14 hd hS hR v1 s hr hc hx hP hC) n (v2, N) hn hC
theorem cg_524_0 (hd : 2 ≤ d) (hS : mz_extR S 342) (hR : mz_rok R 342)  (v1 : Int32) (N : mz_N) {C0 : (mz_N) → Prop} (hr : ∀ (N2 : mz_N), C0 N2 → Q (.inl none) (mz_k S R N2 b t)) (hp : cp_524_0 v1 N) (hC : C0 (cf_524_0 v1 N)) : mz_G (d, mz_X0 L xs, none, [], mk_524, 8, Q) 0 mk_524 [(0, .ref 232), (1, .int v1)] [] true (mz_k S R N b t) := by
  unfold cf_524_0 at hC
  unfold cp_524_0 at hp
  refine g_aload_n rfl (g_aload_n rfl (g_getR (mz_at hS (Nat.le_of_ble_eq_true rfl) mzcS_232) mzcf_12_40 (mz_rb hR (Nat.le_of_ble_eq_true rfl) rfl mzcR_232_40) (g_aload_n rfl (g_getR (mz_at hS (Nat.le_of_ble_eq_true rfl) mzcS_232) mzcf_12_48 (mz_rb hR (Nat.le_of_ble_eq_true rfl) rfl mzcR_232_48) ?_))))
  obtain ⟨h1, hp⟩ := hp
  refine g_v3n (Nat.le_of_ble_eq_true rfl) (mz_at hS (Nat.le_of_ble_eq_true rfl) mzcS_232) (fun _ hq => cs_525 (Nat.le_trans (Nat.le_of_ble_eq_true rfl) hd) (hS.le (Nat.le_of_ble_eq_true rfl)) (hR.le (Nat.le_of_ble_eq_true rfl)) 260 268 40 (mz_at hS (Nat.le_of_ble_eq_true rfl) mzcS_260) (mz_at hS (Nat.le_of_ble_eq_true rfl) mzcS_268) N h1 hq) (g_iconst mzi_0 (g_istore_n (Nat.le_of_ble_eq_true rfl) rfl ?_))
  refine g_weak ?_ (g_cl (cg_524_14 hd hS hR v1 0 (cf_525_0 260 268 40 N) hr hp hC))
  exact ⟨rfl, rfl, rfl, trivial⟩
theorem cs_524 (hd : 3 ≤ d) (hS : mz_extR S 342) (hR : mz_rok R 342)  (v1 : Int32) (N : mz_N) (hp : cp_524_0 v1 N) (hq : Q (.inl none) (mz_k S R (cf_524_0 v1 N) b t)) : mz_Ed (mz_X0 L xs) d 524 [.ref 232, .int v1] (mz_k S R N b t) Q :=
  by
  refine g_in mzq_524 (Nat.le_of_ble_eq_true rfl) (Nat.le_of_ble_eq_true rfl) (Nat.le_trans (Nat.le_of_ble_eq_true rfl) hd) ?_
  refine g_weak ?_ (cg_524_0 (d := d - 1) (by omega) hS hR v1 N (C0 := fun z => Q (.inl none) (mz_k S R z b t)) (fun _ h => h) hp hq)
  exact ⟨rfl, rfl, trivial⟩
/-! 532 KeptHouseModel.airOf ([JIII)V -/
theorem ms_532_0 : mz_sf mk_532 0 = mk_532 := mz_sf_zero _
theorem ms_532_12 : mz_sf mk_532 12 = mt_532_12 := mz_sf_add ms_532_0 (t := 12) rfl rfl
theorem ms_532_67 : mz_sf mk_532 67 = mt_532_67 := mz_sf_add ms_532_12 (t := 55) rfl rfl
theorem ms_532_73 : mz_sf mk_532 73 = mt_532_73 := mz_sf_add ms_532_67 (t := 6) rfl rfl
theorem ms_532_76 : mz_sf mk_532 76 = mt_532_76 := mz_sf_add ms_532_73 (t := 3) rfl rfl
theorem ms_532_117 : mz_sf mk_532 117 = mt_532_117 := mz_sf_add ms_532_76 (t := 41) rfl rfl
theorem ms_532_118 : mz_sf mk_532 118 = mt_532_118 := mz_sf_add ms_532_117 (t := 1) rfl rfl
theorem ms_532_146 : mz_sf mk_532 146 = mt_532_146 := mz_sf_add ms_532_118 (t := 28) rfl rfl
theorem ms_532_152 : mz_sf mk_532 152 = mt_532_152 := mz_sf_add ms_532_146 (t := 6) rfl rfl
set_option maxRecDepth 100000 in
theorem mzq_532 : mz_PG0 532 = some (12, ⟨"KeptHouseModel", "airOf", "([JIII)V"⟩, prog_14_method_100_code, 7, none, [], mk_532, []) := rfl
theorem cg_532_67 (hd : 2 ≤ d) (hS : mz_extR S 342) (hR : mz_rok R 342) (a1 : Nat) (hs1 : S[a1]? = some (1, 240, [])) (v2 : Int32) (v3 : Int32) (v4 : Int32) (v5 : Int32) (N : mz_N) {C0 : (mz_N) → Prop} (hr : ∀ (N2 : mz_N), C0 N2 → Q (.inl none) (mz_k S R N2 b t)) {C1 : ((Int32 × mz_N) ⊕ (mz_N)) → Prop} (hc1 : ∀ s2, C1 (.inl s2) → mz_G (d, mz_X0 L xs, none, [], mk_532, 7, Q) 12 mt_532_12 [(0, .ref 232), (1, .ref a1), (2, .int v2), (3, .int v3), (4, .int v4), (5, .int s2.1)] [] false (mz_k S R s2.2 b t)) (hx1 : ∀ z, C1 (.inr z) → C0 z) (hp : cp_532_67 a1 v2 v3 v4 v5 N) (hC : C1 (cf_532_67 a1 v2 v3 v4 v5 N)) : mz_G (d, mz_X0 L xs, none, [], mk_532, 7, Q) 67 mt_532_67 [(0, .ref 232), (1, .ref a1), (2, .int v2), (3, .int v3), (4, .int v4), (5, .int v5)] [] false (mz_k S R N b t) := by
  unfold cf_532_67 at hC
  unfold cp_532_67 at hp
  refine g_iinc rfl mzi_1 (Nat.le_of_ble_eq_true rfl) rfl (g_goto (tg := 12) rfl ms_532_12 ?_)
  refine g_weak ?_ (g_cl (hc1 ((v5 + 1), N) hC))
  exact ⟨rfl, rfl, rfl, rfl, rfl, rfl, trivial⟩
theorem cg_532_146 (hd : 2 ≤ d) (hS : mz_extR S 342) (hR : mz_rok R 342) (a1 : Nat) (hs1 : S[a1]? = some (1, 240, [])) (v5 : Int32) (N : mz_N) {C0 : (mz_N) → Prop} (hr : ∀ (N2 : mz_N), C0 N2 → Q (.inl none) (mz_k S R N2 b t)) {C1 : ((Int32 × mz_N) ⊕ (mz_N)) → Prop} (hc1 : ∀ s2, C1 (.inl s2) → mz_G (d, mz_X0 L xs, none, [], mk_532, 7, Q) 76 mt_532_76 [(0, .ref 232), (1, .ref a1), (5, .int s2.1)] [] false (mz_k S R s2.2 b t)) (hx1 : ∀ z, C1 (.inr z) → C0 z) (hp : cp_532_146 a1 v5 N) (hC : C1 (cf_532_146 a1 v5 N)) : mz_G (d, mz_X0 L xs, none, [], mk_532, 7, Q) 146 mt_532_146 [(0, .ref 232), (1, .ref a1), (5, .int v5)] [] false (mz_k S R N b t) := by
  unfold cf_532_146 at hC
  unfold cp_532_146 at hp
  refine g_iinc rfl mzi_1 (Nat.le_of_ble_eq_true rfl) rfl (g_goto (tg := 76) rfl ms_532_76 ?_)
  refine g_weak ?_ (g_cl (hc1 ((v5 + 1), N) hC))
  exact ⟨rfl, rfl, rfl, trivial⟩
theorem cg_532_118 (hd : 2 ≤ d) (hS : mz_extR S 342) (hR : mz_rok R 342) (a1 : Nat) (hs1 : S[a1]? = some (1, 240, [])) (s0 : Int32) (s1 : Int32) (v5 : Int32) (N : mz_N) {C0 : (mz_N) → Prop} (hr : ∀ (N2 : mz_N), C0 N2 → Q (.inl none) (mz_k S R N2 b t)) {C1 : ((Int32 × mz_N) ⊕ (mz_N)) → Prop} (hc1 : ∀ s2, C1 (.inl s2) → mz_G (d, mz_X0 L xs, none, [], mk_532, 7, Q) 76 mt_532_76 [(0, .ref 232), (1, .ref a1), (5, .int s2.1)] [] false (mz_k S R s2.2 b t)) (hx1 : ∀ z, C1 (.inr z) → C0 z) (hp : cp_532_118 a1 s0 s1 v5 N) (hC : C1 (cf_532_118 a1 s0 s1 v5 N)) : mz_G (d, mz_X0 L xs, none, [], mk_532, 7, Q) 118 mt_532_118 [(0, .ref 232), (1, .ref a1), (5, .int v5)] [.int s1, .int s0] false (mz_k S R N b t) := by
  unfold cf_532_118 at hC
  unfold cp_532_118 at hp
  refine g_iadd (g_istore (Nat.le_of_ble_eq_true rfl) rfl (g_aload_n rfl (g_getR (mz_at hS (Nat.le_of_ble_eq_true rfl) mzcS_232) mzcf_12_51 (mz_rb hR (Nat.le_of_ble_eq_true rfl) rfl mzcR_232_51) (g_iload rfl (g_dup2 rfl rfl ?_)))))
  obtain ⟨h1, hp⟩ := hp
  refine g_lald (mz_at hS (Nat.le_of_ble_eq_true rfl) mzcS_271) h1 (g_aload_n rfl (g_getR (mz_at hS (Nat.le_of_ble_eq_true rfl) mzcS_232) mzcf_12_51 (mz_rb hR (Nat.le_of_ble_eq_true rfl) rfl mzcR_232_51) (g_iload rfl ?_)))
  obtain ⟨h2, hp⟩ := hp
  refine g_lald (mz_at hS (Nat.le_of_ble_eq_true rfl) mzcS_271) h2 (g_iload rfl (g_i2l (g_lmul (g_con3 (g_ldiv (by decide) (g_lsub ?_))))))
  obtain ⟨h3, hp⟩ := hp
  refine g_last (mz_at hS (Nat.le_of_ble_eq_true rfl) mzcS_271) h3 ?_
  refine g_weak ?_ (g_cl (cg_532_146 hd hS hR a1 hs1 v5 (mz_wL N 271 v5 ((mz_gL N 271 v5) - (((mz_gL N 271 v5) * ((s0 + s1).toInt64)) / 1000))) hr hc1 hx1 hp hC))
  exact ⟨rfl, rfl, rfl, trivial⟩
theorem cb_532_76 (hd : 2 ≤ d) (hS : mz_extR S 342) (hR : mz_rok R 342) (a1 : Nat) (hs1 : S[a1]? = some (1, 240, []))  (s : Int32 × mz_N) {C0 : (mz_N) → Prop} (hr : ∀ (N2 : mz_N), C0 N2 → Q (.inl none) (mz_k S R N2 b t)) {C1 : ((Int32 × mz_N) ⊕ (mz_N)) → Prop} (hc1 : ∀ s2, C1 (.inl s2) → mz_G (d, mz_X0 L xs, none, [], mk_532, 7, Q) 76 mt_532_76 [(0, .ref 232), (1, .ref a1), (5, .int s2.1)] [] false (mz_k S R s2.2 b t)) (hx1 : ∀ z, C1 (.inr z) → C0 z) (hp : cd_532_76 a1 s) (hC : C1 (cq_532_76 a1 s)) : mz_G (d, mz_X0 L xs, none, [], mk_532, 7, Q) 76 mt_532_76 [(0, .ref 232), (1, .ref a1), (5, .int s.1)] [] false (mz_k S R s.2 b t) := by
  unfold cq_532_76 at hC
  unfold cd_532_76 at hp
  refine g_iload rfl (g_aload_n rfl (g_getI (mz_at hS (Nat.le_of_ble_eq_true rfl) mzcS_232) mzcf_12_7 ?_))
  refine g_icge (tg := 152) rfl ms_532_152 hC (fun h1 hC => ?_) (fun h1 hC => ?_)
  · have hp := hp.1 h1
    refine g_iconst mzi_2 (g_aload_n rfl (g_getR (mz_at hS (Nat.le_of_ble_eq_true rfl) mzcS_232) mzcf_12_13 (mz_rb hR (Nat.le_of_ble_eq_true rfl) rfl mzcR_232_13) (g_iload rfl ?_)))
    obtain ⟨h2, hp⟩ := hp
    refine g_iald hS.1 (mz_at hS (Nat.le_of_ble_eq_true rfl) mzcS_241) h2 (g_imul (g_aload_n rfl (g_getR (mz_at hS (Nat.le_of_ble_eq_true rfl) mzcS_232) mzcf_12_60 (mz_rb hR (Nat.le_of_ble_eq_true rfl) rfl mzcR_232_60) (g_bipush mzb_10 ?_))))
    obtain ⟨h3, hp⟩ := hp
    refine g_zald (mz_at hS (Nat.le_of_ble_eq_true rfl) mzcS_276) (mz_ibd (by decide)) h3 ?_
    refine g_zeq (tg := 117) rfl ms_532_117 hC (fun h4 hC => ?_) (fun h4 hC => ?_)
    · have hp := hp.1 h4
      refine g_bipush mzb_10 (g_aload_n rfl (g_getR (mz_at hS (Nat.le_of_ble_eq_true rfl) mzcS_232) mzcf_12_37 (mz_rb hR (Nat.le_of_ble_eq_true rfl) rfl mzcR_232_37) (g_bipush mzb_13 (g_iald hS.1 (mz_at hS (Nat.le_of_ble_eq_true rfl) mzcS_257) (mz_ibd (by decide)) (g_imul (g_goto (tg := 118) rfl ms_532_118 ?_))))))
      refine g_weak ?_ (g_cl (cg_532_118 hd hS hR a1 hs1 (2 * (mz_gI s.2 241 s.1)) (10 * (mz_gI s.2 257 13)) s.1 s.2 hr hc1 hx1 hp hC))
      exact ⟨rfl, rfl, rfl, trivial⟩
    · have hp := hp.2 h4
      refine g_iconst mzi_0 ?_
      refine g_weak ?_ (g_cl (cg_532_118 hd hS hR a1 hs1 (2 * (mz_gI s.2 241 s.1)) 0 s.1 s.2 hr hc1 hx1 hp hC))
      exact ⟨rfl, rfl, rfl, trivial⟩
  · have hp := hp.2 h1
    refine g_aload_n rfl (g_aload_n rfl (g_getR (mz_at hS (Nat.le_of_ble_eq_true rfl) mzcS_232) mzcf_12_51 (mz_rb hR (Nat.le_of_ble_eq_true rfl) rfl mzcR_232_51) (g_aload_n rfl ?_)))
    have h5 := hp
    refine g_v3n (Nat.le_of_ble_eq_true rfl) (mz_at hS (Nat.le_of_ble_eq_true rfl) mzcS_232) (fun _ hq => cs_530 (Nat.le_trans (Nat.le_of_ble_eq_true rfl) hd) (hS.le (Nat.le_of_ble_eq_true rfl)) (hR.le (Nat.le_of_ble_eq_true rfl)) 271 41 a1 (mz_at hS (Nat.le_of_ble_eq_true rfl) mzcS_271) hs1 s.2 h5 hq) ?_
    exact g_vret rfl (hr _ (hx1 _ hC))
theorem cg_532_76 (hd : 2 ≤ d) (hS : mz_extR S 342) (hR : mz_rok R 342) (a1 : Nat) (hs1 : S[a1]? = some (1, 240, [])) (v5 : Int32) (N : mz_N) {C0 : (mz_N) → Prop} (hr : ∀ (N2 : mz_N), C0 N2 → Q (.inl none) (mz_k S R N2 b t)) (hp : cp_532_76 a1 v5 N) (hC : C0 (cf_532_76 a1 v5 N)) : mz_G (d, mz_X0 L xs, none, [], mk_532, 7, Q) 76 mt_532_76 [(0, .ref 232), (1, .ref a1), (5, .int v5)] [] false (mz_k S R N b t) := by
  obtain ⟨n, hn⟩ := hp
  exact g_loop (G := fun s => mz_G (d, mz_X0 L xs, none, [], mk_532, 7, Q) 76 mt_532_76 [(0, .ref 232), (1, .ref a1), (5, .int s.1)] [] false (mz_k S R s.2 b t)) (C := C0) (fun C2 hc hx s hP hC => cb_532_76 hd hS hR a1 hs1 s hr hc hx hP hC) n (v5, N) hn hC
theorem cb_532_12 (hd : 2 ≤ d) (hS : mz_extR S 342) (hR : mz_rok R 342) (a1 : Nat) (hs1 : S[a1]? = some (1, 240, [])) (v2 : Int32) (v3 : Int32) (v4 : Int32) (s : Int32 × mz_N) {C0 : (mz_N) → Prop} (hr : ∀ (N2 : mz_N), C0 N2 → Q (.inl none) (mz_k S R N2 b t)) {C1 : ((Int32 × mz_N) ⊕ (mz_N)) → Prop} (hc1 : ∀ s2, C1 (.inl s2) → mz_G (d, mz_X0 L xs, none, [], mk_532, 7, Q) 12 mt_532_12 [(0, .ref 232), (1, .ref a1), (2, .int v2), (3, .int v3), (4, .int v4), (5, .int s2.1)] [] false (mz_k S R s2.2 b t)) (hx1 : ∀ z, C1 (.inr z) → C0 z) (hp : cd_532_12 a1 v2 v3 v4 s) (hC : C1 (cq_532_12 a1 v2 v3 v4 s)) : mz_G (d, mz_X0 L xs, none, [], mk_532, 7, Q) 12 mt_532_12 [(0, .ref 232), (1, .ref a1), (2, .int v2), (3, .int v3), (4, .int v4), (5, .int s.1)] [] false (mz_k S R s.2 b t) := by
  unfold cq_532_12 at hC
  unfold cd_532_12 at hp
  refine g_iload rfl (g_bipush mzb_10 ?_)
  refine g_icge (tg := 73) rfl ms_532_73 hC (fun h1 hC => ?_) (fun h1 hC => ?_)
  · have hp := hp.1 h1
    refine g_aload_n rfl (g_getR (mz_at hS (Nat.le_of_ble_eq_true rfl) mzcS_232) mzcf_12_14 (mz_rb hR (Nat.le_of_ble_eq_true rfl) rfl mzcR_232_14) (g_iload rfl ?_))
    obtain ⟨h2, hp⟩ := hp
    refine g_iald hS.1 (mz_at hS (Nat.le_of_ble_eq_true rfl) mzcS_242) h2 ?_
    refine g_iflt (tg := 67) rfl ms_532_67 hC (fun h3 hC => ?_) (fun h3 hC => ?_)
    · have hp := hp.1 h3
      refine g_weak ?_ (g_cl (cg_532_67 hd hS hR a1 hs1 v2 v3 v4 s.1 s.2 hr hc1 hx1 hp hC))
      exact ⟨rfl, rfl, rfl, rfl, rfl, rfl, trivial⟩
    · have hp := hp.2 h3
      refine g_aload_n rfl (g_getR (mz_at hS (Nat.le_of_ble_eq_true rfl) mzcS_232) mzcf_12_51 (mz_rb hR (Nat.le_of_ble_eq_true rfl) rfl mzcR_232_51) (g_aload_n rfl (g_getR (mz_at hS (Nat.le_of_ble_eq_true rfl) mzcS_232) mzcf_12_14 (mz_rb hR (Nat.le_of_ble_eq_true rfl) rfl mzcR_232_14) (g_iload rfl ?_))))
      obtain ⟨h4, hp⟩ := hp
      refine g_iald hS.1 (mz_at hS (Nat.le_of_ble_eq_true rfl) mzcS_242) h4 (g_dup2 rfl rfl ?_)
      obtain ⟨h5, hp⟩ := hp
      refine g_lald (mz_at hS (Nat.le_of_ble_eq_true rfl) mzcS_271) h5 (g_iload_n rfl (g_i2l (g_aload_n rfl (g_iload rfl (g_iload_n rfl ?_)))))
      obtain ⟨h6, hp⟩ := hp
      refine g_v3v (Nat.le_of_ble_eq_true rfl) (mz_at hS (Nat.le_of_ble_eq_true rfl) mzcS_232) (fun _ hq => cs_519 (Nat.le_trans (Nat.le_of_ble_eq_true rfl) hd) (hS.le (Nat.le_of_ble_eq_true rfl)) (hR.le (Nat.le_of_ble_eq_true rfl))  s.1 v2 s.2 h6 hq) (g_i2l (g_lmul (g_iload rfl (g_aload_n rfl (g_getR (mz_at hS (Nat.le_of_ble_eq_true rfl) mzcS_232) mzcf_12_69 (mz_rb hR (Nat.le_of_ble_eq_true rfl) rfl mzcR_232_69) (g_iload rfl ?_))))))
      obtain ⟨h7, hp⟩ := hp
      refine g_iald hS.1 (mz_at hS (Nat.le_of_ble_eq_true rfl) mzcS_277) h7 (g_imul (g_i2l (g_ladd (g_ladd ?_))))
      obtain ⟨h8, hp⟩ := hp
      refine g_last (mz_at hS (Nat.le_of_ble_eq_true rfl) mzcS_271) h8 ?_
      refine g_weak ?_ (g_cl (cg_532_67 hd hS hR a1 hs1 v2 v3 v4 s.1 (mz_wL s.2 271 (mz_gI s.2 242 s.1) ((mz_gL s.2 271 (mz_gI s.2 242 s.1)) + ((v3.toInt64 * ((cf_519_0 s.1 v2 s.2).toInt64)) + ((v4 * (mz_gI s.2 277 s.1)).toInt64)))) hr hc1 hx1 hp hC))
      exact ⟨rfl, rfl, rfl, rfl, rfl, rfl, trivial⟩
  · have hp := hp.2 h1
    refine g_iconst mzi_0 (g_istore (Nat.le_of_ble_eq_true rfl) rfl ?_)
    refine g_weak ?_ (g_cl (cg_532_76 hd hS hR a1 hs1 0 s.2 hr hp (hx1 _ hC)))
    exact ⟨rfl, rfl, rfl, trivial⟩
theorem cg_532_12 (hd : 2 ≤ d) (hS : mz_extR S 342) (hR : mz_rok R 342) (a1 : Nat) (hs1 : S[a1]? = some (1, 240, [])) (v2 : Int32) (v3 : Int32) (v4 : Int32) (v5 : Int32) (N : mz_N) {C0 : (mz_N) → Prop} (hr : ∀ (N2 : mz_N), C0 N2 → Q (.inl none) (mz_k S R N2 b t)) (hp : cp_532_12 a1 v2 v3 v4 v5 N) (hC : C0 (cf_532_12 a1 v2 v3 v4 v5 N)) : mz_G (d, mz_X0 L xs, none, [], mk_532, 7, Q) 12 mt_532_12 [(0, .ref 232), (1, .ref a1), (2, .int v2), (3, .int v3), (4, .int v4), (5, .int v5)] [] false (mz_k S R N b t) := by
  obtain ⟨n, hn⟩ := hp
  exact g_loop (G := fun s => mz_G (d, mz_X0 L xs, none, [], mk_532, 7, Q) 12 mt_532_12 [(0, .ref 232), (1, .ref a1), (2, .int v2), (3, .int v3), (4, .int v4), (5, .int s.1)] [] false (mz_k S R s.2 b t)) (C := C0) (fun C2 hc hx s hP hC => cb_532_12 hd hS hR a1 hs1 v2 v3 v4 s hr hc hx hP hC) n (v5, N) hn hC
theorem cg_532_0 (hd : 2 ≤ d) (hS : mz_extR S 342) (hR : mz_rok R 342) (a1 : Nat) (hs1 : S[a1]? = some (1, 240, [])) (v2 : Int32) (v3 : Int32) (v4 : Int32) (N : mz_N) {C0 : (mz_N) → Prop} (hr : ∀ (N2 : mz_N), C0 N2 → Q (.inl none) (mz_k S R N2 b t)) (hp : cp_532_0 a1 v2 v3 v4 N) (hC : C0 (cf_532_0 a1 v2 v3 v4 N)) : mz_G (d, mz_X0 L xs, none, [], mk_532, 7, Q) 0 mk_532 [(0, .ref 232), (1, .ref a1), (2, .int v2), (3, .int v3), (4, .int v4)] [] true (mz_k S R N b t) := by
  unfold cf_532_0 at hC
  unfold cp_532_0 at hp
  refine g_aload_n rfl (g_aload_n rfl (g_aload_n rfl (g_getR (mz_at hS (Nat.le_of_ble_eq_true rfl) mzcS_232) mzcf_12_51 (mz_rb hR (Nat.le_of_ble_eq_true rfl) rfl mzcR_232_51) ?_)))
  obtain ⟨h1, hp⟩ := hp
  refine g_v3n (Nat.le_of_ble_eq_true rfl) (mz_at hS (Nat.le_of_ble_eq_true rfl) mzcS_232) (fun _ hq => cs_525 (Nat.le_trans (Nat.le_of_ble_eq_true rfl) hd) (hS.le (Nat.le_of_ble_eq_true rfl)) (hR.le (Nat.le_of_ble_eq_true rfl)) a1 271 41 hs1 (mz_at hS (Nat.le_of_ble_eq_true rfl) mzcS_271) N h1 hq) (g_iconst mzi_0 (g_istore (Nat.le_of_ble_eq_true rfl) rfl ?_))
  refine g_weak ?_ (g_cl (cg_532_12 hd hS hR a1 hs1 v2 v3 v4 0 (cf_525_0 a1 271 41 N) hr hp hC))
  exact ⟨rfl, rfl, rfl, rfl, rfl, rfl, trivial⟩
theorem cs_532 (hd : 3 ≤ d) (hS : mz_extR S 342) (hR : mz_rok R 342) (a1 : Nat) (hs1 : S[a1]? = some (1, 240, [])) (v2 : Int32) (v3 : Int32) (v4 : Int32) (N : mz_N) (hp : cp_532_0 a1 v2 v3 v4 N) (hq : Q (.inl none) (mz_k S R (cf_532_0 a1 v2 v3 v4 N) b t)) : mz_Ed (mz_X0 L xs) d 532 [.ref 232, .ref a1, .int v2, .int v3, .int v4] (mz_k S R N b t) Q :=
  by
  refine g_in mzq_532 (Nat.le_of_ble_eq_true rfl) (Nat.le_of_ble_eq_true rfl) (Nat.le_trans (Nat.le_of_ble_eq_true rfl) hd) ?_
  refine g_weak ?_ (cg_532_0 (d := d - 1) (by omega) hS hR a1 hs1 v2 v3 v4 N (C0 := fun z => Q (.inl none) (mz_k S R z b t)) (fun _ h => h) hp hq)
  exact ⟨rfl, rfl, rfl, rfl, rfl, trivial⟩
end Fn29
