/-! THE FUNCTIONS: written by program: each method comes to its function. -/
section Fn2
variable {L : Nat} {xs : Nat → Int32} {d : Nat} {S : mz_S} {R : Nat → Nat → Option Nat} {Q : mz_Q} {N : mz_N} {b : Bool} {t : Nat}
/-! 58 KeptHouse$Plan.readEdges (I[II[I)V -/
theorem ms_58_0 : mz_sf mk_58 0 = mk_58 := mz_sf_zero _
theorem ms_58_3 : mz_sf mk_58 3 = mt_58_3 := mz_sf_add ms_58_0 (t := 3) rfl rfl
theorem ms_58_36 : mz_sf mk_58 36 = mt_58_36 := mz_sf_add ms_58_3 (t := 33) rfl rfl
theorem ms_58_42 : mz_sf mk_58 42 = mt_58_42 := mz_sf_add ms_58_36 (t := 6) rfl rfl
set_option maxRecDepth 100000 in
theorem mzq_58 : mz_PG0 58 = some (5, ⟨"KeptHouse$Plan", "readEdges", "(I[II[I)V"⟩, prog_7_method_38_code, 5, none, [], mk_58, []) := rfl
theorem cg_58_36 (hd : 0 ≤ d) (hS : mz_extR S 232) (hR : mz_rok R 232) (a1 : Nat) (a3 : Nat) (hs1 : S[a1]? = some (0, 3780, [])) (hs3 : S[a3]? = some (0, 550, [])) (v0 : Int32) (v2 : Int32) (v4 : Int32) (N : mz_N) {C0 : (mz_N) → Prop} (hr : ∀ (N2 : mz_N), C0 N2 → Q (.inl none) (mz_k S R N2 b t)) {C1 : ((Int32 × mz_N) ⊕ (mz_N)) → Prop} (hc1 : ∀ s2, C1 (.inl s2) → mz_G (d, mz_X0 L xs, none, [], mk_58, 5, Q) 3 mt_58_3 [(0, .int v0), (1, .ref a1), (2, .int v2), (3, .ref a3), (4, .int s2.1)] [] false (mz_k S R s2.2 b t)) (hx1 : ∀ z, C1 (.inr z) → C0 z) (hp : cp_58_36 a1 a3 v0 v2 v4 N) (hC : C1 (cf_58_36 a1 a3 v0 v2 v4 N)) : mz_G (d, mz_X0 L xs, none, [], mk_58, 5, Q) 36 mt_58_36 [(0, .int v0), (1, .ref a1), (2, .int v2), (3, .ref a3), (4, .int v4)] [] false (mz_k S R N b t) := by
  unfold cf_58_36 at hC
  unfold cp_58_36 at hp
  refine g_iinc rfl mzi_1 (Nat.le_of_ble_eq_true rfl) rfl (g_goto (tg := 3) rfl ms_58_3 ?_)
  refine g_weak ?_ (g_cl (hc1 ((v4 + 1), N) hC))
  exact ⟨rfl, rfl, rfl, rfl, rfl, trivial⟩
theorem cb_58_3 (hd : 0 ≤ d) (hS : mz_extR S 232) (hR : mz_rok R 232) (a1 : Nat) (a3 : Nat) (hs1 : S[a1]? = some (0, 3780, [])) (hs3 : S[a3]? = some (0, 550, [])) (v0 : Int32) (v2 : Int32) (s : Int32 × mz_N) {C0 : (mz_N) → Prop} (hr : ∀ (N2 : mz_N), C0 N2 → Q (.inl none) (mz_k S R N2 b t)) {C1 : ((Int32 × mz_N) ⊕ (mz_N)) → Prop} (hc1 : ∀ s2, C1 (.inl s2) → mz_G (d, mz_X0 L xs, none, [], mk_58, 5, Q) 3 mt_58_3 [(0, .int v0), (1, .ref a1), (2, .int v2), (3, .ref a3), (4, .int s2.1)] [] false (mz_k S R s2.2 b t)) (hx1 : ∀ z, C1 (.inr z) → C0 z) (hp : cd_58_3 a1 a3 v0 v2 s) (hC : C1 (cq_58_3 a1 a3 v0 v2 s)) : mz_G (d, mz_X0 L xs, none, [], mk_58, 5, Q) 3 mt_58_3 [(0, .int v0), (1, .ref a1), (2, .int v2), (3, .ref a3), (4, .int s.1)] [] false (mz_k S R s.2 b t) := by
  unfold cq_58_3 at hC
  unfold cd_58_3 at hp
  refine g_iload rfl (g_bipush mzb_110 ?_)
  refine g_icge (tg := 42) rfl ms_58_42 hC (fun h1 hC => ?_) (fun h1 hC => ?_)
  · have hp := hp.1 h1
    refine g_aload_n rfl (g_iload_n rfl (g_bipush mzb_110 (g_imul (g_iload rfl (g_iadd (g_aload_n rfl (g_iload_n rfl ?_)))))))
    refine g_iload rfl (g_iconst mzi_4 (g_idiv (by decide) (g_iadd ?_)))
    obtain ⟨h2, hp⟩ := hp
    refine g_iald hS.1 hs1 h2 (g_iconst mzi_2 (g_iload rfl (g_iconst mzi_4 (g_irem (by decide) (g_imul (g_ishr (g_iconst mzi_3 ?_)))))))
    refine g_iand ?_
    obtain ⟨h3, hp⟩ := hp
    refine g_iast hs3 h3 ?_
    refine g_weak ?_ (g_cl (cg_58_36 hd hS hR a1 a3 hs1 hs3 v0 v2 s.1 (mz_wI s.2 a3 ((v0 * 110) + s.1) ((mz_ishr (mz_gI s.2 a1 (v2 + (s.1 / 4))) (2 * (mz_irem s.1 4))) &&& 3)) hr hc1 hx1 hp hC))
    exact ⟨rfl, rfl, rfl, rfl, rfl, trivial⟩
  · have hp := hp.2 h1
    exact g_vret rfl (hr _ (hx1 _ hC))
theorem cg_58_3 (hd : 0 ≤ d) (hS : mz_extR S 232) (hR : mz_rok R 232) (a1 : Nat) (a3 : Nat) (hs1 : S[a1]? = some (0, 3780, [])) (hs3 : S[a3]? = some (0, 550, [])) (v0 : Int32) (v2 : Int32) (v4 : Int32) (N : mz_N) {C0 : (mz_N) → Prop} (hr : ∀ (N2 : mz_N), C0 N2 → Q (.inl none) (mz_k S R N2 b t)) (hp : cp_58_3 a1 a3 v0 v2 v4 N) (hC : C0 (cf_58_3 a1 a3 v0 v2 v4 N)) : mz_G (d, mz_X0 L xs, none, [], mk_58, 5, Q) 3 mt_58_3 [(0, .int v0), (1, .ref a1), (2, .int v2), (3, .ref a3), (4, .int v4)] [] false (mz_k S R N b t) := by
  obtain ⟨n, hn⟩ := hp
  exact g_loop (G := fun s => mz_G (d, mz_X0 L xs, none, [], mk_58, 5, Q) 3 mt_58_3 [(0, .int v0), (1, .ref a1), (2, .int v2), (3, .ref a3), (4, .int s.1)] [] false (mz_k S R s.2 b t)) (C := C0) (fun C2 hc hx s hP hC => cb_58_3 hd hS hR a1 a3 hs1 hs3 v0 v2 s hr hc hx hP hC) n (v4, N) hn hC
theorem cg_58_0 (hd : 0 ≤ d) (hS : mz_extR S 232) (hR : mz_rok R 232) (a1 : Nat) (a3 : Nat) (hs1 : S[a1]? = some (0, 3780, [])) (hs3 : S[a3]? = some (0, 550, [])) (v0 : Int32) (v2 : Int32) (N : mz_N) {C0 : (mz_N) → Prop} (hr : ∀ (N2 : mz_N), C0 N2 → Q (.inl none) (mz_k S R N2 b t)) (hp : cp_58_0 a1 a3 v0 v2 N) (hC : C0 (cf_58_0 a1 a3 v0 v2 N)) : mz_G (d, mz_X0 L xs, none, [], mk_58, 5, Q) 0 mk_58 [(0, .int v0), (1, .ref a1), (2, .int v2), (3, .ref a3)] [] true (mz_k S R N b t) := by
  unfold cf_58_0 at hC
  unfold cp_58_0 at hp
  refine g_iconst mzi_0 (g_istore (Nat.le_of_ble_eq_true rfl) rfl ?_)
  refine g_weak ?_ (g_cl (cg_58_3 hd hS hR a1 a3 hs1 hs3 v0 v2 0 N hr hp hC))
  exact ⟨rfl, rfl, rfl, rfl, rfl, trivial⟩
theorem cs_58 (hd : 1 ≤ d) (hS : mz_extR S 232) (hR : mz_rok R 232) (a1 : Nat) (a3 : Nat) (hs1 : S[a1]? = some (0, 3780, [])) (hs3 : S[a3]? = some (0, 550, [])) (v0 : Int32) (v2 : Int32) (N : mz_N) (hp : cp_58_0 a1 a3 v0 v2 N) (hq : Q (.inl none) (mz_k S R (cf_58_0 a1 a3 v0 v2 N) b t)) : mz_Ed (mz_X0 L xs) d 58 [.int v0, .ref a1, .int v2, .ref a3] (mz_k S R N b t) Q :=
  by
  refine g_in mzq_58 (Nat.le_of_ble_eq_true rfl) (Nat.le_of_ble_eq_true rfl) (Nat.le_trans (Nat.le_of_ble_eq_true rfl) hd) ?_
  refine g_weak ?_ (cg_58_0 (d := d - 1) (by omega) hS hR a1 a3 hs1 hs3 v0 v2 N (C0 := fun z => Q (.inl none) (mz_k S R z b t)) (fun _ h => h) hp hq)
  exact ⟨rfl, rfl, rfl, rfl, trivial⟩
/-! 59 KeptHouse$Plan.readFlats (I[II)V -/
theorem ms_59_0 : mz_sf mk_59 0 = mk_59 := mz_sf_zero _
theorem ms_59_3 : mz_sf mk_59 3 = mt_59_3 := mz_sf_add ms_59_0 (t := 3) rfl rfl
theorem ms_59_40 : mz_sf mk_59 40 = mt_59_40 := mz_sf_add ms_59_3 (t := 37) rfl rfl
theorem ms_59_46 : mz_sf mk_59 46 = mt_59_46 := mz_sf_add ms_59_40 (t := 6) rfl rfl
set_option maxRecDepth 100000 in
theorem mzq_59 : mz_PG0 59 = some (5, ⟨"KeptHouse$Plan", "readFlats", "(I[II)V"⟩, prog_7_method_41_code, 5, none, [], mk_59, []) := rfl
theorem cg_59_40 (hd : 0 ≤ d) (hS : mz_extR S 232) (hR : mz_rok R 232)  (v1 : Int32) (v3 : Int32) (v4 : Int32) (N : mz_N) {C0 : (mz_N) → Prop} (hr : ∀ (N2 : mz_N), C0 N2 → Q (.inl none) (mz_k S R N2 b t)) {C1 : ((Int32 × mz_N) ⊕ (mz_N)) → Prop} (hc1 : ∀ s2, C1 (.inl s2) → mz_G (d, mz_X0 L xs, none, [], mk_59, 5, Q) 3 mt_59_3 [(0, .ref 2), (1, .int v1), (2, .ref 223), (3, .int v3), (4, .int s2.1)] [] false (mz_k S R s2.2 b t)) (hx1 : ∀ z, C1 (.inr z) → C0 z) (hp : cp_59_40 v1 v3 v4 N) (hC : C1 (cf_59_40 v1 v3 v4 N)) : mz_G (d, mz_X0 L xs, none, [], mk_59, 5, Q) 40 mt_59_40 [(0, .ref 2), (1, .int v1), (2, .ref 223), (3, .int v3), (4, .int v4)] [] false (mz_k S R N b t) := by
  unfold cf_59_40 at hC
  unfold cp_59_40 at hp
  refine g_iinc rfl mzi_1 (Nat.le_of_ble_eq_true rfl) rfl (g_goto (tg := 3) rfl ms_59_3 ?_)
  refine g_weak ?_ (g_cl (hc1 ((v4 + 1), N) hC))
  exact ⟨rfl, rfl, rfl, rfl, rfl, trivial⟩
theorem cb_59_3 (hd : 0 ≤ d) (hS : mz_extR S 232) (hR : mz_rok R 232)  (v1 : Int32) (v3 : Int32) (s : Int32 × mz_N) {C0 : (mz_N) → Prop} (hr : ∀ (N2 : mz_N), C0 N2 → Q (.inl none) (mz_k S R N2 b t)) {C1 : ((Int32 × mz_N) ⊕ (mz_N)) → Prop} (hc1 : ∀ s2, C1 (.inl s2) → mz_G (d, mz_X0 L xs, none, [], mk_59, 5, Q) 3 mt_59_3 [(0, .ref 2), (1, .int v1), (2, .ref 223), (3, .int v3), (4, .int s2.1)] [] false (mz_k S R s2.2 b t)) (hx1 : ∀ z, C1 (.inr z) → C0 z) (hp : cd_59_3 v1 v3 s) (hC : C1 (cq_59_3 v1 v3 s)) : mz_G (d, mz_X0 L xs, none, [], mk_59, 5, Q) 3 mt_59_3 [(0, .ref 2), (1, .int v1), (2, .ref 223), (3, .int v3), (4, .int s.1)] [] false (mz_k S R s.2 b t) := by
  unfold cq_59_3 at hC
  unfold cd_59_3 at hp
  refine g_iload rfl (g_bipush mzb_48 ?_)
  refine g_icge (tg := 46) rfl ms_59_46 hC (fun h1 hC => ?_) (fun h1 hC => ?_)
  · have hp := hp.1 h1
    refine g_aload_n rfl (g_getR (mz_at hS (Nat.le_of_ble_eq_true rfl) mzcS_2) mzcf_5_15 (mz_rb hR (Nat.le_of_ble_eq_true rfl) rfl mzcR_2_15) (g_iload_n rfl (g_bipush mzb_48 (g_imul (g_iload rfl (g_iadd (g_aload_n rfl ?_)))))))
    refine g_iload_n rfl (g_iload rfl (g_iconst mzi_2 (g_idiv (by decide) (g_iadd ?_))))
    obtain ⟨h2, hp⟩ := hp
    refine g_iald hS.1 (mz_at hS (Nat.le_of_ble_eq_true rfl) mzcS_223) h2 (g_iconst mzi_4 (g_iload rfl (g_iconst mzi_2 (g_irem (by decide) (g_imul (g_ishr (g_bipush mzb_15 ?_)))))))
    refine g_iand ?_
    obtain ⟨h3, hp⟩ := hp
    refine g_iast (mz_at hS (Nat.le_of_ble_eq_true rfl) mzcS_37) h3 ?_
    refine g_weak ?_ (g_cl (cg_59_40 hd hS hR v1 v3 s.1 (mz_wI s.2 37 ((v1 * 48) + s.1) ((mz_ishr (mz_gI s.2 223 (v3 + (s.1 / 2))) (4 * (mz_irem s.1 2))) &&& 15)) hr hc1 hx1 hp hC))
    exact ⟨rfl, rfl, rfl, rfl, rfl, trivial⟩
  · have hp := hp.2 h1
    exact g_vret rfl (hr _ (hx1 _ hC))
theorem cg_59_3 (hd : 0 ≤ d) (hS : mz_extR S 232) (hR : mz_rok R 232)  (v1 : Int32) (v3 : Int32) (v4 : Int32) (N : mz_N) {C0 : (mz_N) → Prop} (hr : ∀ (N2 : mz_N), C0 N2 → Q (.inl none) (mz_k S R N2 b t)) (hp : cp_59_3 v1 v3 v4 N) (hC : C0 (cf_59_3 v1 v3 v4 N)) : mz_G (d, mz_X0 L xs, none, [], mk_59, 5, Q) 3 mt_59_3 [(0, .ref 2), (1, .int v1), (2, .ref 223), (3, .int v3), (4, .int v4)] [] false (mz_k S R N b t) := by
  obtain ⟨n, hn⟩ := hp
  exact g_loop (G := fun s => mz_G (d, mz_X0 L xs, none, [], mk_59, 5, Q) 3 mt_59_3 [(0, .ref 2), (1, .int v1), (2, .ref 223), (3, .int v3), (4, .int s.1)] [] false (mz_k S R s.2 b t)) (C := C0) (fun C2 hc hx s hP hC => cb_59_3 hd hS hR v1 v3 s hr hc hx hP hC) n (v4, N) hn hC
theorem cg_59_0 (hd : 0 ≤ d) (hS : mz_extR S 232) (hR : mz_rok R 232)  (v1 : Int32) (v3 : Int32) (N : mz_N) {C0 : (mz_N) → Prop} (hr : ∀ (N2 : mz_N), C0 N2 → Q (.inl none) (mz_k S R N2 b t)) (hp : cp_59_0 v1 v3 N) (hC : C0 (cf_59_0 v1 v3 N)) : mz_G (d, mz_X0 L xs, none, [], mk_59, 5, Q) 0 mk_59 [(0, .ref 2), (1, .int v1), (2, .ref 223), (3, .int v3)] [] true (mz_k S R N b t) := by
  unfold cf_59_0 at hC
  unfold cp_59_0 at hp
  refine g_iconst mzi_0 (g_istore (Nat.le_of_ble_eq_true rfl) rfl ?_)
  refine g_weak ?_ (g_cl (cg_59_3 hd hS hR v1 v3 0 N hr hp hC))
  exact ⟨rfl, rfl, rfl, rfl, rfl, trivial⟩
theorem cs_59 (hd : 1 ≤ d) (hS : mz_extR S 232) (hR : mz_rok R 232)  (v1 : Int32) (v3 : Int32) (N : mz_N) (hp : cp_59_0 v1 v3 N) (hq : Q (.inl none) (mz_k S R (cf_59_0 v1 v3 N) b t)) : mz_Ed (mz_X0 L xs) d 59 [.ref 2, .int v1, .ref 223, .int v3] (mz_k S R N b t) Q :=
  by
  refine g_in mzq_59 (Nat.le_of_ble_eq_true rfl) (Nat.le_of_ble_eq_true rfl) (Nat.le_trans (Nat.le_of_ble_eq_true rfl) hd) ?_
  refine g_weak ?_ (cg_59_0 (d := d - 1) (by omega) hS hR v1 v3 N (C0 := fun z => Q (.inl none) (mz_k S R z b t)) (fun _ h => h) hp hq)
  exact ⟨rfl, rfl, rfl, rfl, trivial⟩
/-! 61 KeptHouse$Store.read ([III)J -/
theorem ms_61_0 : mz_sf mk_61 0 = mk_61 := mz_sf_zero _
theorem ms_61_5 : mz_sf mk_61 5 = mt_61_5 := mz_sf_add ms_61_0 (t := 5) rfl rfl
theorem ms_61_27 : mz_sf mk_61 27 = mt_61_27 := mz_sf_add ms_61_5 (t := 22) rfl rfl
theorem ms_61_33 : mz_sf mk_61 33 = mt_61_33 := mz_sf_add ms_61_27 (t := 6) rfl rfl
set_option maxRecDepth 100000 in
theorem mzq_61 : mz_PG0 61 = some (8, ⟨"KeptHouse$Store", "read", "([III)J"⟩, prog_10_method_3_code, 6, some .long, [], mk_61, []) := rfl
theorem cb_61_5 (hd : 0 ≤ d) (hS : mz_extR S 232) (hR : mz_rok R 232) (a0 : Nat) (n0 : Nat) (hs0 : S[a0]? = some (0, n0, [])) (v1 : Int32) (v2 : Int32) (N : mz_N) (s : Int64 × Int32) {C0 : (Int64) → Prop} (hr : ∀ (w : Int64), C0 w → Q (.inl (some (.long w))) (mz_k S R N b t)) {C1 : ((Int64 × Int32) ⊕ (Int64)) → Prop} (hc1 : ∀ s2, C1 (.inl s2) → mz_G (d, mz_X0 L xs, some .long, [], mk_61, 6, Q) 5 mt_61_5 [(0, .ref a0), (1, .int v1), (2, .int v2), (3, .long s2.1), (5, .int s2.2)] [] false (mz_k S R N b t)) (hx1 : ∀ z, C1 (.inr z) → C0 z) (hp : cd_61_5 a0 n0 v1 v2 N s) (hC : C1 (cq_61_5 a0 n0 v1 v2 N s)) : mz_G (d, mz_X0 L xs, some .long, [], mk_61, 6, Q) 5 mt_61_5 [(0, .ref a0), (1, .int v1), (2, .int v2), (3, .long s.1), (5, .int s.2)] [] false (mz_k S R N b t) := by
  unfold cq_61_5 at hC
  unfold cd_61_5 at hp
  refine g_iload rfl (g_iload_n rfl ?_)
  refine g_icge (tg := 33) rfl ms_61_33 hC (fun h1 hC => ?_) (fun h1 hC => ?_)
  · have hp := hp.1 h1
    refine g_lload_n rfl (g_aload_n rfl (g_iload_n rfl (g_iload rfl (g_iadd ?_))))
    have h2 := hp
    refine g_iald hS.1 hs0 h2 (g_i2l (g_bipush mzb_8 (g_iload rfl (g_imul (g_lshl (g_lor (g_lstore_n (Nat.le_of_ble_eq_true rfl) rfl rfl ?_)))))))
    refine g_iinc rfl mzi_1 (Nat.le_of_ble_eq_true rfl) rfl (g_goto (tg := 5) rfl ms_61_5 ?_)
    refine g_weak ?_ (g_cl (hc1 ((s.1 ||| (mz_lshl ((mz_gI N a0 (v1 + s.2)).toInt64) (8 * s.2))), (s.2 + 1)) hC))
    exact ⟨rfl, rfl, rfl, rfl, rfl, trivial⟩
  · have hp := hp.2 h1
    refine g_bipush mzb_64 (g_bipush mzb_8 (g_iload_n rfl (g_imul (g_isub (g_istore (Nat.le_of_ble_eq_true rfl) rfl (g_lload_n rfl (g_iload rfl ?_)))))))
    refine g_lshl (g_iload rfl (g_lshr ?_))
    exact g_lret rfl (hr _ (hx1 _ hC))
theorem cg_61_5 (hd : 0 ≤ d) (hS : mz_extR S 232) (hR : mz_rok R 232) (a0 : Nat) (n0 : Nat) (hs0 : S[a0]? = some (0, n0, [])) (v1 : Int32) (v2 : Int32) (v3 : Int64) (v5 : Int32) (N : mz_N) {C0 : (Int64) → Prop} (hr : ∀ (w : Int64), C0 w → Q (.inl (some (.long w))) (mz_k S R N b t)) (hp : cp_61_5 a0 n0 v1 v2 v3 v5 N) (hC : C0 (cf_61_5 a0 n0 v1 v2 v3 v5 N)) : mz_G (d, mz_X0 L xs, some .long, [], mk_61, 6, Q) 5 mt_61_5 [(0, .ref a0), (1, .int v1), (2, .int v2), (3, .long v3), (5, .int v5)] [] false (mz_k S R N b t) := by
  obtain ⟨n, hn⟩ := hp
  exact g_loop (G := fun s => mz_G (d, mz_X0 L xs, some .long, [], mk_61, 6, Q) 5 mt_61_5 [(0, .ref a0), (1, .int v1), (2, .int v2), (3, .long s.1), (5, .int s.2)] [] false (mz_k S R N b t)) (C := C0) (fun C2 hc hx s hP hC => cb_61_5 hd hS hR a0 n0 hs0 v1 v2 N s hr hc hx hP hC) n (v3, v5) hn hC
theorem cg_61_0 (hd : 0 ≤ d) (hS : mz_extR S 232) (hR : mz_rok R 232) (a0 : Nat) (n0 : Nat) (hs0 : S[a0]? = some (0, n0, [])) (v1 : Int32) (v2 : Int32) (N : mz_N) {C0 : (Int64) → Prop} (hr : ∀ (w : Int64), C0 w → Q (.inl (some (.long w))) (mz_k S R N b t)) (hp : cp_61_0 a0 n0 v1 v2 N) (hC : C0 (cf_61_0 a0 n0 v1 v2 N)) : mz_G (d, mz_X0 L xs, some .long, [], mk_61, 6, Q) 0 mk_61 [(0, .ref a0), (1, .int v1), (2, .int v2)] [] true (mz_k S R N b t) := by
  unfold cf_61_0 at hC
  unfold cp_61_0 at hp
  refine g_lconst mzl_0 (g_lstore_n (Nat.le_of_ble_eq_true rfl) rfl rfl (g_iconst mzi_0 (g_istore (Nat.le_of_ble_eq_true rfl) rfl ?_)))
  refine g_weak ?_ (g_cl (cg_61_5 hd hS hR a0 n0 hs0 v1 v2 0 0 N hr hp hC))
  exact ⟨rfl, rfl, rfl, rfl, rfl, trivial⟩
theorem cs_61 (hd : 1 ≤ d) (hS : mz_extR S 232) (hR : mz_rok R 232) (a0 : Nat) (n0 : Nat) (hs0 : S[a0]? = some (0, n0, [])) (v1 : Int32) (v2 : Int32) (N : mz_N) (hp : cp_61_0 a0 n0 v1 v2 N) (hq : Q (.inl (some (.long (cf_61_0 a0 n0 v1 v2 N)))) (mz_k S R N b t)) : mz_Ed (mz_X0 L xs) d 61 [.ref a0, .int v1, .int v2] (mz_k S R N b t) Q :=
  by
  refine g_in mzq_61 (Nat.le_of_ble_eq_true rfl) (Nat.le_of_ble_eq_true rfl) (Nat.le_trans (Nat.le_of_ble_eq_true rfl) hd) ?_
  refine g_weak ?_ (cg_61_0 (d := d - 1) (by omega) hS hR a0 n0 hs0 v1 v2 N (C0 := fun z => Q (.inl (some (.long z))) (mz_k S R N b t)) (fun _ h => h) hp hq)
  exact ⟨rfl, rfl, rfl, trivial⟩
/-! 60 KeptHouse$Climate.readWeather (I[II)V -/
theorem ms_60_0 : mz_sf mk_60 0 = mk_60 := mz_sf_zero _
theorem ms_60_3 : mz_sf mk_60 3 = mt_60_3 := mz_sf_add ms_60_0 (t := 3) rfl rfl
theorem ms_60_34 : mz_sf mk_60 34 = mt_60_34 := mz_sf_add ms_60_3 (t := 31) rfl rfl
theorem ms_60_40 : mz_sf mk_60 40 = mt_60_40 := mz_sf_add ms_60_34 (t := 6) rfl rfl
set_option maxRecDepth 100000 in
theorem mzq_60 : mz_PG0 60 = some (3, ⟨"KeptHouse$Climate", "readWeather", "(I[II)V"⟩, prog_5_method_30_code, 5, none, [], mk_60, []) := rfl
theorem cg_60_34 (hd : 1 ≤ d) (hS : mz_extR S 232) (hR : mz_rok R 232)  (v1 : Int32) (v3 : Int32) (v4 : Int32) (N : mz_N) {C0 : (mz_N) → Prop} (hr : ∀ (N2 : mz_N), C0 N2 → Q (.inl none) (mz_k S R N2 b t)) {C1 : ((Int32 × mz_N) ⊕ (mz_N)) → Prop} (hc1 : ∀ s2, C1 (.inl s2) → mz_G (d, mz_X0 L xs, none, [], mk_60, 5, Q) 3 mt_60_3 [(0, .ref 65), (1, .int v1), (2, .ref 223), (3, .int v3), (4, .int s2.1)] [] false (mz_k S R s2.2 b t)) (hx1 : ∀ z, C1 (.inr z) → C0 z) (hp : cp_60_34 v1 v3 v4 N) (hC : C1 (cf_60_34 v1 v3 v4 N)) : mz_G (d, mz_X0 L xs, none, [], mk_60, 5, Q) 34 mt_60_34 [(0, .ref 65), (1, .int v1), (2, .ref 223), (3, .int v3), (4, .int v4)] [] false (mz_k S R N b t) := by
  unfold cf_60_34 at hC
  unfold cp_60_34 at hp
  refine g_iinc rfl mzi_1 (Nat.le_of_ble_eq_true rfl) rfl (g_goto (tg := 3) rfl ms_60_3 ?_)
  refine g_weak ?_ (g_cl (hc1 ((v4 + 1), N) hC))
  exact ⟨rfl, rfl, rfl, rfl, rfl, trivial⟩
theorem cb_60_3 (hd : 1 ≤ d) (hS : mz_extR S 232) (hR : mz_rok R 232)  (v1 : Int32) (v3 : Int32) (s : Int32 × mz_N) {C0 : (mz_N) → Prop} (hr : ∀ (N2 : mz_N), C0 N2 → Q (.inl none) (mz_k S R N2 b t)) {C1 : ((Int32 × mz_N) ⊕ (mz_N)) → Prop} (hc1 : ∀ s2, C1 (.inl s2) → mz_G (d, mz_X0 L xs, none, [], mk_60, 5, Q) 3 mt_60_3 [(0, .ref 65), (1, .int v1), (2, .ref 223), (3, .int v3), (4, .int s2.1)] [] false (mz_k S R s2.2 b t)) (hx1 : ∀ z, C1 (.inr z) → C0 z) (hp : cd_60_3 v1 v3 s) (hC : C1 (cq_60_3 v1 v3 s)) : mz_G (d, mz_X0 L xs, none, [], mk_60, 5, Q) 3 mt_60_3 [(0, .ref 65), (1, .int v1), (2, .ref 223), (3, .int v3), (4, .int s.1)] [] false (mz_k S R s.2 b t) := by
  unfold cq_60_3 at hC
  unfold cd_60_3 at hp
  refine g_iload rfl (g_bipush mzb_12 ?_)
  refine g_icge (tg := 40) rfl ms_60_40 hC (fun h1 hC => ?_) (fun h1 hC => ?_)
  · have hp := hp.1 h1
    refine g_aload_n rfl (g_getR (mz_at hS (Nat.le_of_ble_eq_true rfl) mzcS_65) mzcf_3_0 (mz_rb hR (Nat.le_of_ble_eq_true rfl) rfl mzcR_65_0) (g_bipush mzb_12 (g_iload_n rfl (g_imul (g_iload rfl (g_iadd (g_aload_n rfl ?_)))))))
    refine g_iload_n rfl (g_iconst mzi_2 (g_iload rfl (g_imul (g_iadd (g_iconst mzi_2 ?_)))))
    obtain ⟨h2, hp⟩ := hp
    refine g_s3v (Nat.le_of_ble_eq_true rfl) (fun _ hq => cs_61 (Nat.le_trans (Nat.le_of_ble_eq_true rfl) hd) (hS.le (Nat.le_of_ble_eq_true rfl)) (hR.le (Nat.le_of_ble_eq_true rfl)) 223 3780 (mz_at hS (Nat.le_of_ble_eq_true rfl) mzcS_223) (v3 + (2 * s.1)) 2 s.2 h2 hq) (g_l2i ?_)
    obtain ⟨h3, hp⟩ := hp
    refine g_iast (mz_at hS (Nat.le_of_ble_eq_true rfl) mzcS_66) h3 ?_
    refine g_weak ?_ (g_cl (cg_60_34 hd hS hR v1 v3 s.1 (mz_wI s.2 66 ((12 * v1) + s.1) ((cf_61_0 223 3780 (v3 + (2 * s.1)) 2 s.2).toInt32)) hr hc1 hx1 hp hC))
    exact ⟨rfl, rfl, rfl, rfl, rfl, trivial⟩
  · have hp := hp.2 h1
    exact g_vret rfl (hr _ (hx1 _ hC))
theorem cg_60_3 (hd : 1 ≤ d) (hS : mz_extR S 232) (hR : mz_rok R 232)  (v1 : Int32) (v3 : Int32) (v4 : Int32) (N : mz_N) {C0 : (mz_N) → Prop} (hr : ∀ (N2 : mz_N), C0 N2 → Q (.inl none) (mz_k S R N2 b t)) (hp : cp_60_3 v1 v3 v4 N) (hC : C0 (cf_60_3 v1 v3 v4 N)) : mz_G (d, mz_X0 L xs, none, [], mk_60, 5, Q) 3 mt_60_3 [(0, .ref 65), (1, .int v1), (2, .ref 223), (3, .int v3), (4, .int v4)] [] false (mz_k S R N b t) := by
  obtain ⟨n, hn⟩ := hp
  exact g_loop (G := fun s => mz_G (d, mz_X0 L xs, none, [], mk_60, 5, Q) 3 mt_60_3 [(0, .ref 65), (1, .int v1), (2, .ref 223), (3, .int v3), (4, .int s.1)] [] false (mz_k S R s.2 b t)) (C := C0) (fun C2 hc hx s hP hC => cb_60_3 hd hS hR v1 v3 s hr hc hx hP hC) n (v4, N) hn hC
theorem cg_60_0 (hd : 1 ≤ d) (hS : mz_extR S 232) (hR : mz_rok R 232)  (v1 : Int32) (v3 : Int32) (N : mz_N) {C0 : (mz_N) → Prop} (hr : ∀ (N2 : mz_N), C0 N2 → Q (.inl none) (mz_k S R N2 b t)) (hp : cp_60_0 v1 v3 N) (hC : C0 (cf_60_0 v1 v3 N)) : mz_G (d, mz_X0 L xs, none, [], mk_60, 5, Q) 0 mk_60 [(0, .ref 65), (1, .int v1), (2, .ref 223), (3, .int v3)] [] true (mz_k S R N b t) := by
  unfold cf_60_0 at hC
  unfold cp_60_0 at hp
  refine g_iconst mzi_0 (g_istore (Nat.le_of_ble_eq_true rfl) rfl ?_)
  refine g_weak ?_ (g_cl (cg_60_3 hd hS hR v1 v3 0 N hr hp hC))
  exact ⟨rfl, rfl, rfl, rfl, rfl, trivial⟩
theorem cs_60 (hd : 2 ≤ d) (hS : mz_extR S 232) (hR : mz_rok R 232)  (v1 : Int32) (v3 : Int32) (N : mz_N) (hp : cp_60_0 v1 v3 N) (hq : Q (.inl none) (mz_k S R (cf_60_0 v1 v3 N) b t)) : mz_Ed (mz_X0 L xs) d 60 [.ref 65, .int v1, .ref 223, .int v3] (mz_k S R N b t) Q :=
  by
  refine g_in mzq_60 (Nat.le_of_ble_eq_true rfl) (Nat.le_of_ble_eq_true rfl) (Nat.le_trans (Nat.le_of_ble_eq_true rfl) hd) ?_
  refine g_weak ?_ (cg_60_0 (d := d - 1) (by omega) hS hR v1 v3 N (C0 := fun z => Q (.inl none) (mz_k S R z b t)) (fun _ h => h) hp hq)
  exact ⟨rfl, rfl, rfl, rfl, trivial⟩
/-! 62 KeptHouse$Supply.readRatings (I[II)V -/
theorem ms_62_0 : mz_sf mk_62 0 = mk_62 := mz_sf_zero _
theorem ms_62_3 : mz_sf mk_62 3 = mt_62_3 := mz_sf_add ms_62_0 (t := 3) rfl rfl
theorem ms_62_35 : mz_sf mk_62 35 = mt_62_35 := mz_sf_add ms_62_3 (t := 32) rfl rfl
theorem ms_62_38 : mz_sf mk_62 38 = mt_62_38 := mz_sf_add ms_62_35 (t := 3) rfl rfl
theorem ms_62_53 : mz_sf mk_62 53 = mt_62_53 := mz_sf_add ms_62_38 (t := 15) rfl rfl
theorem ms_62_59 : mz_sf mk_62 59 = mt_62_59 := mz_sf_add ms_62_53 (t := 6) rfl rfl
set_option maxRecDepth 100000 in
theorem mzq_62 : mz_PG0 62 = some (9, ⟨"KeptHouse$Supply", "readRatings", "(I[II)V"⟩, prog_11_method_16_code, 5, none, [], mk_62, []) := rfl
theorem cg_62_53 (hd : 1 ≤ d) (hS : mz_extR S 232) (hR : mz_rok R 232)  (v1 : Int32) (v3 : Int32) (v4 : Int32) (N : mz_N) {C0 : (mz_N) → Prop} (hr : ∀ (N2 : mz_N), C0 N2 → Q (.inl none) (mz_k S R N2 b t)) {C1 : ((Int32 × mz_N) ⊕ (mz_N)) → Prop} (hc1 : ∀ s2, C1 (.inl s2) → mz_G (d, mz_X0 L xs, none, [], mk_62, 5, Q) 3 mt_62_3 [(0, .ref 56), (1, .int v1), (2, .ref 223), (3, .int v3), (4, .int s2.1)] [] false (mz_k S R s2.2 b t)) (hx1 : ∀ z, C1 (.inr z) → C0 z) (hp : cp_62_53 v1 v3 v4 N) (hC : C1 (cf_62_53 v1 v3 v4 N)) : mz_G (d, mz_X0 L xs, none, [], mk_62, 5, Q) 53 mt_62_53 [(0, .ref 56), (1, .int v1), (2, .ref 223), (3, .int v3), (4, .int v4)] [] false (mz_k S R N b t) := by
  unfold cf_62_53 at hC
  unfold cp_62_53 at hp
  refine g_iinc rfl mzi_1 (Nat.le_of_ble_eq_true rfl) rfl (g_goto (tg := 3) rfl ms_62_3 ?_)
  refine g_weak ?_ (g_cl (hc1 ((v4 + 1), N) hC))
  exact ⟨rfl, rfl, rfl, rfl, rfl, trivial⟩
theorem cb_62_3 (hd : 1 ≤ d) (hS : mz_extR S 232) (hR : mz_rok R 232)  (v1 : Int32) (v3 : Int32) (s : Int32 × mz_N) {C0 : (mz_N) → Prop} (hr : ∀ (N2 : mz_N), C0 N2 → Q (.inl none) (mz_k S R N2 b t)) {C1 : ((Int32 × mz_N) ⊕ (mz_N)) → Prop} (hc1 : ∀ s2, C1 (.inl s2) → mz_G (d, mz_X0 L xs, none, [], mk_62, 5, Q) 3 mt_62_3 [(0, .ref 56), (1, .int v1), (2, .ref 223), (3, .int v3), (4, .int s2.1)] [] false (mz_k S R s2.2 b t)) (hx1 : ∀ z, C1 (.inr z) → C0 z) (hp : cd_62_3 v1 v3 s) (hC : C1 (cq_62_3 v1 v3 s)) : mz_G (d, mz_X0 L xs, none, [], mk_62, 5, Q) 3 mt_62_3 [(0, .ref 56), (1, .int v1), (2, .ref 223), (3, .int v3), (4, .int s.1)] [] false (mz_k S R s.2 b t) := by
  unfold cq_62_3 at hC
  unfold cd_62_3 at hp
  refine g_iload rfl (g_bipush mzb_11 ?_)
  refine g_icge (tg := 59) rfl ms_62_59 hC (fun h1 hC => ?_) (fun h1 hC => ?_)
  · have hp := hp.1 h1
    refine g_iload_n rfl ?_
    refine g_ifne (tg := 38) rfl ms_62_38 hC (fun h2 hC => ?_) (fun h2 hC => ?_)
    · have hp := hp.1 h2
      refine g_aload_n rfl (g_getR (mz_at hS (Nat.le_of_ble_eq_true rfl) mzcS_56) mzcf_9_0 (mz_rb hR (Nat.le_of_ble_eq_true rfl) rfl mzcR_56_0) (g_iconst mzi_4 (g_aald4 (m := 62) (mz_at hS (Nat.le_of_ble_eq_true rfl) mzcS_57) (mz_ibd (by decide)) (mz_rb hR (Nat.le_of_ble_eq_true rfl) rfl mzcRr_57_4) (g_iload rfl (g_aload_n rfl (g_iload_n rfl (g_iconst mzi_2 ?_)))))))
      refine g_iload rfl (g_imul (g_iadd (g_iconst mzi_2 ?_)))
      obtain ⟨h3, hp⟩ := hp
      refine g_s3v (Nat.le_of_ble_eq_true rfl) (fun _ hq => cs_61 (Nat.le_trans (Nat.le_of_ble_eq_true rfl) hd) (hS.le (Nat.le_of_ble_eq_true rfl)) (hR.le (Nat.le_of_ble_eq_true rfl)) 223 3780 (mz_at hS (Nat.le_of_ble_eq_true rfl) mzcS_223) (v3 + (2 * s.1)) 2 s.2 h3 hq) (g_l2i ?_)
      obtain ⟨h4, hp⟩ := hp
      refine g_iast (mz_at hS (Nat.le_of_ble_eq_true rfl) mzcS_62) h4 (g_goto (tg := 53) rfl ms_62_53 ?_)
      refine g_weak ?_ (g_cl (cg_62_53 hd hS hR v1 v3 s.1 (mz_wI s.2 62 s.1 ((cf_61_0 223 3780 (v3 + (2 * s.1)) 2 s.2).toInt32)) hr hc1 hx1 hp hC))
      exact ⟨rfl, rfl, rfl, rfl, rfl, trivial⟩
    · have hp := hp.2 h2
      refine g_aload_n rfl (g_getR (mz_at hS (Nat.le_of_ble_eq_true rfl) mzcS_56) mzcf_9_0 (mz_rb hR (Nat.le_of_ble_eq_true rfl) rfl mzcR_56_0) (g_iconst mzi_5 (g_aald4 (m := 63) (mz_at hS (Nat.le_of_ble_eq_true rfl) mzcS_57) (mz_ibd (by decide)) (mz_rb hR (Nat.le_of_ble_eq_true rfl) rfl mzcRr_57_5) (g_iload rfl (g_aload_n rfl (g_iload_n rfl (g_iload rfl ?_)))))))
      refine g_iadd ?_
      obtain ⟨h5, hp⟩ := hp
      refine g_iald hS.1 (mz_at hS (Nat.le_of_ble_eq_true rfl) mzcS_223) h5 ?_
      obtain ⟨h6, hp⟩ := hp
      refine g_iast (mz_at hS (Nat.le_of_ble_eq_true rfl) mzcS_63) h6 ?_
      refine g_weak ?_ (g_cl (cg_62_53 hd hS hR v1 v3 s.1 (mz_wI s.2 63 s.1 (mz_gI s.2 223 (v3 + s.1))) hr hc1 hx1 hp hC))
      exact ⟨rfl, rfl, rfl, rfl, rfl, trivial⟩
  · have hp := hp.2 h1
    exact g_vret rfl (hr _ (hx1 _ hC))
theorem cg_62_3 (hd : 1 ≤ d) (hS : mz_extR S 232) (hR : mz_rok R 232)  (v1 : Int32) (v3 : Int32) (v4 : Int32) (N : mz_N) {C0 : (mz_N) → Prop} (hr : ∀ (N2 : mz_N), C0 N2 → Q (.inl none) (mz_k S R N2 b t)) (hp : cp_62_3 v1 v3 v4 N) (hC : C0 (cf_62_3 v1 v3 v4 N)) : mz_G (d, mz_X0 L xs, none, [], mk_62, 5, Q) 3 mt_62_3 [(0, .ref 56), (1, .int v1), (2, .ref 223), (3, .int v3), (4, .int v4)] [] false (mz_k S R N b t) := by
  obtain ⟨n, hn⟩ := hp
  exact g_loop (G := fun s => mz_G (d, mz_X0 L xs, none, [], mk_62, 5, Q) 3 mt_62_3 [(0, .ref 56), (1, .int v1), (2, .ref 223), (3, .int v3), (4, .int s.1)] [] false (mz_k S R s.2 b t)) (C := C0) (fun C2 hc hx s hP hC => cb_62_3 hd hS hR v1 v3 s hr hc hx hP hC) n (v4, N) hn hC
theorem cg_62_0 (hd : 1 ≤ d) (hS : mz_extR S 232) (hR : mz_rok R 232)  (v1 : Int32) (v3 : Int32) (N : mz_N) {C0 : (mz_N) → Prop} (hr : ∀ (N2 : mz_N), C0 N2 → Q (.inl none) (mz_k S R N2 b t)) (hp : cp_62_0 v1 v3 N) (hC : C0 (cf_62_0 v1 v3 N)) : mz_G (d, mz_X0 L xs, none, [], mk_62, 5, Q) 0 mk_62 [(0, .ref 56), (1, .int v1), (2, .ref 223), (3, .int v3)] [] true (mz_k S R N b t) := by
  unfold cf_62_0 at hC
  unfold cp_62_0 at hp
  refine g_iconst mzi_0 (g_istore (Nat.le_of_ble_eq_true rfl) rfl ?_)
  refine g_weak ?_ (g_cl (cg_62_3 hd hS hR v1 v3 0 N hr hp hC))
  exact ⟨rfl, rfl, rfl, rfl, rfl, trivial⟩
theorem cs_62 (hd : 2 ≤ d) (hS : mz_extR S 232) (hR : mz_rok R 232)  (v1 : Int32) (v3 : Int32) (N : mz_N) (hp : cp_62_0 v1 v3 N) (hq : Q (.inl none) (mz_k S R (cf_62_0 v1 v3 N) b t)) : mz_Ed (mz_X0 L xs) d 62 [.ref 56, .int v1, .ref 223, .int v3] (mz_k S R N b t) Q :=
  by
  refine g_in mzq_62 (Nat.le_of_ble_eq_true rfl) (Nat.le_of_ble_eq_true rfl) (Nat.le_trans (Nat.le_of_ble_eq_true rfl) hd) ?_
  refine g_weak ?_ (cg_62_0 (d := d - 1) (by omega) hS hR v1 v3 N (C0 := fun z => Q (.inl none) (mz_k S R z b t)) (fun _ h => h) hp hq)
  exact ⟨rfl, rfl, rfl, rfl, trivial⟩
/-! 63 KeptHouse$Books.readFlat (I[II)V -/
theorem ms_63_0 : mz_sf mk_63 0 = mk_63 := mz_sf_zero _
theorem ms_63_29 : mz_sf mk_63 29 = mt_63_29 := mz_sf_add ms_63_0 (t := 29) rfl rfl
theorem ms_63_47 : mz_sf mk_63 47 = mt_63_47 := mz_sf_add ms_63_29 (t := 18) rfl rfl
theorem ms_63_65 : mz_sf mk_63 65 = mt_63_65 := mz_sf_add ms_63_47 (t := 18) rfl rfl
theorem ms_63_83 : mz_sf mk_63 83 = mt_63_83 := mz_sf_add ms_63_65 (t := 18) rfl rfl
set_option maxRecDepth 100000 in
theorem mzq_63 : mz_PG0 63 = some (1, ⟨"KeptHouse$Books", "readFlat", "(I[II)V"⟩, prog_3_method_14_code, 4, none, [], mk_63, []) := rfl
theorem cg_63_65 (hd : 1 ≤ d) (hS : mz_extR S 232) (hR : mz_rok R 232)  (v1 : Int32) (v3 : Int32) (N : mz_N) {C0 : (mz_N) → Prop} (hr : ∀ (N2 : mz_N), C0 N2 → Q (.inl none) (mz_k S R N2 b t)) (hp : cp_63_65 v1 v3 N) (hC : C0 (cf_63_65 v1 v3 N)) : mz_G (d, mz_X0 L xs, none, [], mk_63, 4, Q) 65 mt_63_65 [(0, .ref 208), (1, .int v1), (2, .ref 223), (3, .int v3)] [] false (mz_k S R N b t) := by
  unfold cf_63_65 at hC
  unfold cp_63_65 at hp
  refine g_aload_n rfl (g_getR (mz_at hS (Nat.le_of_ble_eq_true rfl) mzcS_208) mzcf_1_5 (mz_rb hR (Nat.le_of_ble_eq_true rfl) rfl mzcR_208_5) (g_iconst mzi_2 (g_aald4 (m := 212) (mz_at hS (Nat.le_of_ble_eq_true rfl) mzcS_209) (mz_ibd (by decide)) (mz_rb hR (Nat.le_of_ble_eq_true rfl) rfl mzcRr_209_2) (g_iload_n rfl (g_aload_n rfl (g_iload_n rfl (g_bipush mzb_24 ?_)))))))
  refine g_iadd (g_iconst mzi_4 ?_)
  obtain ⟨h1, hp⟩ := hp
  refine g_s3v (Nat.le_of_ble_eq_true rfl) (fun _ hq => cs_61 (Nat.le_trans (Nat.le_of_ble_eq_true rfl) hd) (hS.le (Nat.le_of_ble_eq_true rfl)) (hR.le (Nat.le_of_ble_eq_true rfl)) 223 3780 (mz_at hS (Nat.le_of_ble_eq_true rfl) mzcS_223) (v3 + 24) 4 N h1 hq) (g_l2i ?_)
  have h2 := hp
  refine g_iast (mz_at hS (Nat.le_of_ble_eq_true rfl) mzcS_212) h2 ?_
  exact g_vret rfl (hr _ hC)
theorem cg_63_29 (hd : 1 ≤ d) (hS : mz_extR S 232) (hR : mz_rok R 232)  (v1 : Int32) (v3 : Int32) (N : mz_N) {C0 : (mz_N) → Prop} (hr : ∀ (N2 : mz_N), C0 N2 → Q (.inl none) (mz_k S R N2 b t)) (hp : cp_63_29 v1 v3 N) (hC : C0 (cf_63_29 v1 v3 N)) : mz_G (d, mz_X0 L xs, none, [], mk_63, 4, Q) 29 mt_63_29 [(0, .ref 208), (1, .int v1), (2, .ref 223), (3, .int v3)] [] false (mz_k S R N b t) := by
  unfold cf_63_29 at hC
  unfold cp_63_29 at hp
  refine g_aload_n rfl (g_getR (mz_at hS (Nat.le_of_ble_eq_true rfl) mzcS_208) mzcf_1_5 (mz_rb hR (Nat.le_of_ble_eq_true rfl) rfl mzcR_208_5) (g_iconst mzi_0 (g_aald4 (m := 210) (mz_at hS (Nat.le_of_ble_eq_true rfl) mzcS_209) (mz_ibd (by decide)) (mz_rb hR (Nat.le_of_ble_eq_true rfl) rfl mzcRr_209_0) (g_iload_n rfl (g_aload_n rfl (g_iload_n rfl (g_bipush mzb_16 ?_)))))))
  refine g_iadd (g_iconst mzi_4 ?_)
  obtain ⟨h1, hp⟩ := hp
  refine g_s3v (Nat.le_of_ble_eq_true rfl) (fun _ hq => cs_61 (Nat.le_trans (Nat.le_of_ble_eq_true rfl) hd) (hS.le (Nat.le_of_ble_eq_true rfl)) (hR.le (Nat.le_of_ble_eq_true rfl)) 223 3780 (mz_at hS (Nat.le_of_ble_eq_true rfl) mzcS_223) (v3 + 16) 4 N h1 hq) (g_l2i ?_)
  obtain ⟨h2, hp⟩ := hp
  refine g_iast (mz_at hS (Nat.le_of_ble_eq_true rfl) mzcS_210) h2 (g_aload_n rfl (g_getR (mz_at hS (Nat.le_of_ble_eq_true rfl) mzcS_208) mzcf_1_5 (mz_rb hR (Nat.le_of_ble_eq_true rfl) rfl mzcR_208_5) (g_iconst mzi_1 (g_aald4 (m := 211) (mz_at hS (Nat.le_of_ble_eq_true rfl) mzcS_209) (mz_ibd (by decide)) (mz_rb hR (Nat.le_of_ble_eq_true rfl) rfl mzcRr_209_1) (g_iload_n rfl (g_aload_n rfl (g_iload_n rfl ?_)))))))
  refine g_bipush mzb_20 (g_iadd (g_iconst mzi_4 ?_))
  obtain ⟨h3, hp⟩ := hp
  refine g_s3v (Nat.le_of_ble_eq_true rfl) (fun _ hq => cs_61 (Nat.le_trans (Nat.le_of_ble_eq_true rfl) hd) (hS.le (Nat.le_of_ble_eq_true rfl)) (hR.le (Nat.le_of_ble_eq_true rfl)) 223 3780 (mz_at hS (Nat.le_of_ble_eq_true rfl) mzcS_223) (v3 + 20) 4 (mz_wI N 210 v1 ((cf_61_0 223 3780 (v3 + 16) 4 N).toInt32)) h3 hq) (g_l2i ?_)
  obtain ⟨h4, hp⟩ := hp
  refine g_iast (mz_at hS (Nat.le_of_ble_eq_true rfl) mzcS_211) h4 ?_
  refine g_weak ?_ (g_cl (cg_63_65 hd hS hR v1 v3 (mz_wI (mz_wI N 210 v1 ((cf_61_0 223 3780 (v3 + 16) 4 N).toInt32)) 211 v1 ((cf_61_0 223 3780 (v3 + 20) 4 (mz_wI N 210 v1 ((cf_61_0 223 3780 (v3 + 16) 4 N).toInt32))).toInt32)) hr hp hC))
  exact ⟨rfl, rfl, rfl, rfl, trivial⟩
theorem cg_63_0 (hd : 1 ≤ d) (hS : mz_extR S 232) (hR : mz_rok R 232)  (v1 : Int32) (v3 : Int32) (N : mz_N) {C0 : (mz_N) → Prop} (hr : ∀ (N2 : mz_N), C0 N2 → Q (.inl none) (mz_k S R N2 b t)) (hp : cp_63_0 v1 v3 N) (hC : C0 (cf_63_0 v1 v3 N)) : mz_G (d, mz_X0 L xs, none, [], mk_63, 4, Q) 0 mk_63 [(0, .ref 208), (1, .int v1), (2, .ref 223), (3, .int v3)] [] true (mz_k S R N b t) := by
  unfold cf_63_0 at hC
  unfold cp_63_0 at hp
  refine g_aload_n rfl (g_getR (mz_at hS (Nat.le_of_ble_eq_true rfl) mzcS_208) mzcf_1_6 (mz_rb hR (Nat.le_of_ble_eq_true rfl) rfl mzcR_208_6) (g_iload_n rfl (g_aload_n rfl (g_iload_n rfl (g_bipush mzb_8 ?_)))))
  obtain ⟨h1, hp⟩ := hp
  refine g_s3v (Nat.le_of_ble_eq_true rfl) (fun _ hq => cs_61 (Nat.le_trans (Nat.le_of_ble_eq_true rfl) hd) (hS.le (Nat.le_of_ble_eq_true rfl)) (hR.le (Nat.le_of_ble_eq_true rfl)) 223 3780 (mz_at hS (Nat.le_of_ble_eq_true rfl) mzcS_223) v3 8 N h1 hq) ?_
  obtain ⟨h2, hp⟩ := hp
  refine g_last (mz_at hS (Nat.le_of_ble_eq_true rfl) mzcS_213) h2 (g_aload_n rfl (g_getR (mz_at hS (Nat.le_of_ble_eq_true rfl) mzcS_208) mzcf_1_7 (mz_rb hR (Nat.le_of_ble_eq_true rfl) rfl mzcR_208_7) (g_iload_n rfl (g_aload_n rfl (g_iload_n rfl (g_bipush mzb_8 (g_iadd ?_)))))))
  refine g_bipush mzb_8 ?_
  obtain ⟨h3, hp⟩ := hp
  refine g_s3v (Nat.le_of_ble_eq_true rfl) (fun _ hq => cs_61 (Nat.le_trans (Nat.le_of_ble_eq_true rfl) hd) (hS.le (Nat.le_of_ble_eq_true rfl)) (hR.le (Nat.le_of_ble_eq_true rfl)) 223 3780 (mz_at hS (Nat.le_of_ble_eq_true rfl) mzcS_223) (v3 + 8) 8 (mz_wL N 213 v1 (cf_61_0 223 3780 v3 8 N)) h3 hq) ?_
  obtain ⟨h4, hp⟩ := hp
  refine g_last (mz_at hS (Nat.le_of_ble_eq_true rfl) mzcS_214) h4 ?_
  refine g_weak ?_ (g_cl (cg_63_29 hd hS hR v1 v3 (mz_wL (mz_wL N 213 v1 (cf_61_0 223 3780 v3 8 N)) 214 v1 (cf_61_0 223 3780 (v3 + 8) 8 (mz_wL N 213 v1 (cf_61_0 223 3780 v3 8 N)))) hr hp hC))
  exact ⟨rfl, rfl, rfl, rfl, trivial⟩
theorem cs_63 (hd : 2 ≤ d) (hS : mz_extR S 232) (hR : mz_rok R 232)  (v1 : Int32) (v3 : Int32) (N : mz_N) (hp : cp_63_0 v1 v3 N) (hq : Q (.inl none) (mz_k S R (cf_63_0 v1 v3 N) b t)) : mz_Ed (mz_X0 L xs) d 63 [.ref 208, .int v1, .ref 223, .int v3] (mz_k S R N b t) Q :=
  by
  refine g_in mzq_63 (Nat.le_of_ble_eq_true rfl) (Nat.le_of_ble_eq_true rfl) (Nat.le_trans (Nat.le_of_ble_eq_true rfl) hd) ?_
  refine g_weak ?_ (cg_63_0 (d := d - 1) (by omega) hS hR v1 v3 N (C0 := fun z => Q (.inl none) (mz_k S R z b t)) (fun _ h => h) hp hq)
  exact ⟨rfl, rfl, rfl, rfl, trivial⟩
/-! 64 KeptHouse$Books.readCash ([II)V -/
theorem ms_64_0 : mz_sf mk_64 0 = mk_64 := mz_sf_zero _
theorem ms_64_24 : mz_sf mk_64 24 = mt_64_24 := mz_sf_add ms_64_0 (t := 24) rfl rfl
theorem ms_64_52 : mz_sf mk_64 52 = mt_64_52 := mz_sf_add ms_64_24 (t := 28) rfl rfl
set_option maxRecDepth 100000 in
theorem mzq_64 : mz_PG0 64 = some (1, ⟨"KeptHouse$Books", "readCash", "([II)V"⟩, prog_3_method_19_code, 3, none, [], mk_64, []) := rfl
theorem cg_64_52 (hd : 1 ≤ d) (hS : mz_extR S 232) (hR : mz_rok R 232)  (v2 : Int32) (N : mz_N) {C0 : (mz_N) → Prop} (hr : ∀ (N2 : mz_N), C0 N2 → Q (.inl none) (mz_k S R N2 b t)) (hp : cp_64_52 v2 N) (hC : C0 (cf_64_52 v2 N)) : mz_G (d, mz_X0 L xs, none, [], mk_64, 3, Q) 52 mt_64_52 [(0, .ref 208), (1, .ref 223), (2, .int v2)] [] false (mz_k S R N b t) := by
  unfold cf_64_52 at hC
  unfold cp_64_52 at hp
  refine g_aload_n rfl (g_aload_n rfl (g_iload_n rfl (g_bipush mzb_24 (g_iadd (g_iconst mzi_4 ?_)))))
  have h1 := hp
  refine g_s3v (Nat.le_of_ble_eq_true rfl) (fun _ hq => cs_61 (Nat.le_trans (Nat.le_of_ble_eq_true rfl) hd) (hS.le (Nat.le_of_ble_eq_true rfl)) (hR.le (Nat.le_of_ble_eq_true rfl)) 223 3780 (mz_at hS (Nat.le_of_ble_eq_true rfl) mzcS_223) (v2 + 24) 4 N h1 hq) (g_l2i (g_putI (mz_at hS (Nat.le_of_ble_eq_true rfl) mzcS_208) mzcf_1_4 ?_))
  exact g_vret rfl (hr _ hC)
theorem cg_64_24 (hd : 1 ≤ d) (hS : mz_extR S 232) (hR : mz_rok R 232)  (v2 : Int32) (N : mz_N) {C0 : (mz_N) → Prop} (hr : ∀ (N2 : mz_N), C0 N2 → Q (.inl none) (mz_k S R N2 b t)) (hp : cp_64_24 v2 N) (hC : C0 (cf_64_24 v2 N)) : mz_G (d, mz_X0 L xs, none, [], mk_64, 3, Q) 24 mt_64_24 [(0, .ref 208), (1, .ref 223), (2, .int v2)] [] false (mz_k S R N b t) := by
  unfold cf_64_24 at hC
  unfold cp_64_24 at hp
  refine g_aload_n rfl (g_aload_n rfl (g_iload_n rfl (g_bipush mzb_12 (g_iadd (g_bipush mzb_8 ?_)))))
  obtain ⟨h1, hp⟩ := hp
  refine g_s3v (Nat.le_of_ble_eq_true rfl) (fun _ hq => cs_61 (Nat.le_trans (Nat.le_of_ble_eq_true rfl) hd) (hS.le (Nat.le_of_ble_eq_true rfl)) (hR.le (Nat.le_of_ble_eq_true rfl)) 223 3780 (mz_at hS (Nat.le_of_ble_eq_true rfl) mzcS_223) (v2 + 12) 8 N h1 hq) (g_putL (mz_at hS (Nat.le_of_ble_eq_true rfl) mzcS_208) mzcf_1_2 (g_aload_n rfl (g_aload_n rfl (g_iload_n rfl (g_bipush mzb_20 (g_iadd (g_iconst mzi_4 ?_)))))))
  obtain ⟨h2, hp⟩ := hp
  refine g_s3v (Nat.le_of_ble_eq_true rfl) (fun _ hq => cs_61 (Nat.le_trans (Nat.le_of_ble_eq_true rfl) hd) (hS.le (Nat.le_of_ble_eq_true rfl)) (hR.le (Nat.le_of_ble_eq_true rfl)) 223 3780 (mz_at hS (Nat.le_of_ble_eq_true rfl) mzcS_223) (v2 + 20) 4 (mz_pL N 208 2 (cf_61_0 223 3780 (v2 + 12) 8 N)) h2 hq) (g_l2i (g_putI (mz_at hS (Nat.le_of_ble_eq_true rfl) mzcS_208) mzcf_1_3 ?_))
  refine g_weak ?_ (g_cl (cg_64_52 hd hS hR v2 (mz_pI (mz_pL N 208 2 (cf_61_0 223 3780 (v2 + 12) 8 N)) 208 3 ((cf_61_0 223 3780 (v2 + 20) 4 (mz_pL N 208 2 (cf_61_0 223 3780 (v2 + 12) 8 N))).toInt32)) hr hp hC))
  exact ⟨rfl, rfl, rfl, trivial⟩
theorem cg_64_0 (hd : 1 ≤ d) (hS : mz_extR S 232) (hR : mz_rok R 232)  (v2 : Int32) (N : mz_N) {C0 : (mz_N) → Prop} (hr : ∀ (N2 : mz_N), C0 N2 → Q (.inl none) (mz_k S R N2 b t)) (hp : cp_64_0 v2 N) (hC : C0 (cf_64_0 v2 N)) : mz_G (d, mz_X0 L xs, none, [], mk_64, 3, Q) 0 mk_64 [(0, .ref 208), (1, .ref 223), (2, .int v2)] [] true (mz_k S R N b t) := by
  unfold cf_64_0 at hC
  unfold cp_64_0 at hp
  refine g_aload_n rfl (g_aload_n rfl (g_iload_n rfl (g_iconst mzi_4 ?_)))
  obtain ⟨h1, hp⟩ := hp
  refine g_s3v (Nat.le_of_ble_eq_true rfl) (fun _ hq => cs_61 (Nat.le_trans (Nat.le_of_ble_eq_true rfl) hd) (hS.le (Nat.le_of_ble_eq_true rfl)) (hR.le (Nat.le_of_ble_eq_true rfl)) 223 3780 (mz_at hS (Nat.le_of_ble_eq_true rfl) mzcS_223) v2 4 N h1 hq) (g_l2i (g_putI (mz_at hS (Nat.le_of_ble_eq_true rfl) mzcS_208) mzcf_1_0 (g_aload_n rfl (g_aload_n rfl (g_iload_n rfl (g_iconst mzi_4 (g_iadd ?_)))))))
  refine g_bipush mzb_8 ?_
  obtain ⟨h2, hp⟩ := hp
  refine g_s3v (Nat.le_of_ble_eq_true rfl) (fun _ hq => cs_61 (Nat.le_trans (Nat.le_of_ble_eq_true rfl) hd) (hS.le (Nat.le_of_ble_eq_true rfl)) (hR.le (Nat.le_of_ble_eq_true rfl)) 223 3780 (mz_at hS (Nat.le_of_ble_eq_true rfl) mzcS_223) (v2 + 4) 8 (mz_pI N 208 0 ((cf_61_0 223 3780 v2 4 N).toInt32)) h2 hq) (g_putL (mz_at hS (Nat.le_of_ble_eq_true rfl) mzcS_208) mzcf_1_1 ?_)
  refine g_weak ?_ (g_cl (cg_64_24 hd hS hR v2 (mz_pL (mz_pI N 208 0 ((cf_61_0 223 3780 v2 4 N).toInt32)) 208 1 (cf_61_0 223 3780 (v2 + 4) 8 (mz_pI N 208 0 ((cf_61_0 223 3780 v2 4 N).toInt32)))) hr hp hC))
  exact ⟨rfl, rfl, rfl, trivial⟩
theorem cs_64 (hd : 2 ≤ d) (hS : mz_extR S 232) (hR : mz_rok R 232)  (v2 : Int32) (N : mz_N) (hp : cp_64_0 v2 N) (hq : Q (.inl none) (mz_k S R (cf_64_0 v2 N) b t)) : mz_Ed (mz_X0 L xs) d 64 [.ref 208, .ref 223, .int v2] (mz_k S R N b t) Q :=
  by
  refine g_in mzq_64 (Nat.le_of_ble_eq_true rfl) (Nat.le_of_ble_eq_true rfl) (Nat.le_trans (Nat.le_of_ble_eq_true rfl) hd) ?_
  refine g_weak ?_ (cg_64_0 (d := d - 1) (by omega) hS hR v2 N (C0 := fun z => Q (.inl none) (mz_k S R z b t)) (fun _ h => h) hp hq)
  exact ⟨rfl, rfl, rfl, trivial⟩
/-! 65 KeptHouse$Books.readPrices ([II)V -/
theorem ms_65_0 : mz_sf mk_65 0 = mk_65 := mz_sf_zero _
theorem ms_65_34 : mz_sf mk_65 34 = mt_65_34 := mz_sf_add ms_65_0 (t := 34) rfl rfl
theorem ms_65_36 : mz_sf mk_65 36 = mt_65_36 := mz_sf_add ms_65_34 (t := 2) rfl rfl
theorem ms_65_61 : mz_sf mk_65 61 = mt_65_61 := mz_sf_add ms_65_36 (t := 25) rfl rfl
theorem ms_65_67 : mz_sf mk_65 67 = mt_65_67 := mz_sf_add ms_65_61 (t := 6) rfl rfl
set_option maxRecDepth 100000 in
theorem mzq_65 : mz_PG0 65 = some (1, ⟨"KeptHouse$Books", "readPrices", "([II)V"⟩, prog_3_method_22_code, 4, none, [], mk_65, []) := rfl
theorem cg_65_61 (hd : 1 ≤ d) (hS : mz_extR S 232) (hR : mz_rok R 232)  (v2 : Int32) (v3 : Int32) (N : mz_N) {C0 : (mz_N) → Prop} (hr : ∀ (N2 : mz_N), C0 N2 → Q (.inl none) (mz_k S R N2 b t)) {C1 : ((Int32 × mz_N) ⊕ (mz_N)) → Prop} (hc1 : ∀ s2, C1 (.inl s2) → mz_G (d, mz_X0 L xs, none, [], mk_65, 4, Q) 36 mt_65_36 [(0, .ref 208), (1, .ref 223), (2, .int v2), (3, .int s2.1)] [] false (mz_k S R s2.2 b t)) (hx1 : ∀ z, C1 (.inr z) → C0 z) (hp : cp_65_61 v2 v3 N) (hC : C1 (cf_65_61 v2 v3 N)) : mz_G (d, mz_X0 L xs, none, [], mk_65, 4, Q) 61 mt_65_61 [(0, .ref 208), (1, .ref 223), (2, .int v2), (3, .int v3)] [] false (mz_k S R N b t) := by
  unfold cf_65_61 at hC
  unfold cp_65_61 at hp
  refine g_iinc rfl mzi_1 (Nat.le_of_ble_eq_true rfl) rfl (g_goto (tg := 36) rfl ms_65_36 ?_)
  refine g_weak ?_ (g_cl (hc1 ((v3 + 1), N) hC))
  exact ⟨rfl, rfl, rfl, rfl, trivial⟩
theorem cb_65_36 (hd : 1 ≤ d) (hS : mz_extR S 232) (hR : mz_rok R 232)  (v2 : Int32) (s : Int32 × mz_N) {C0 : (mz_N) → Prop} (hr : ∀ (N2 : mz_N), C0 N2 → Q (.inl none) (mz_k S R N2 b t)) {C1 : ((Int32 × mz_N) ⊕ (mz_N)) → Prop} (hc1 : ∀ s2, C1 (.inl s2) → mz_G (d, mz_X0 L xs, none, [], mk_65, 4, Q) 36 mt_65_36 [(0, .ref 208), (1, .ref 223), (2, .int v2), (3, .int s2.1)] [] false (mz_k S R s2.2 b t)) (hx1 : ∀ z, C1 (.inr z) → C0 z) (hp : cd_65_36 v2 s) (hC : C1 (cq_65_36 v2 s)) : mz_G (d, mz_X0 L xs, none, [], mk_65, 4, Q) 36 mt_65_36 [(0, .ref 208), (1, .ref 223), (2, .int v2), (3, .int s.1)] [] false (mz_k S R s.2 b t) := by
  unfold cq_65_36 at hC
  unfold cd_65_36 at hp
  refine g_iload_n rfl (g_iconst mzi_4 ?_)
  refine g_icge (tg := 67) rfl ms_65_67 hC (fun h1 hC => ?_) (fun h1 hC => ?_)
  · have hp := hp.1 h1
    refine g_aload_n rfl (g_getR (mz_at hS (Nat.le_of_ble_eq_true rfl) mzcS_208) mzcf_1_8 (mz_rb hR (Nat.le_of_ble_eq_true rfl) rfl mzcR_208_8) (g_iload_n rfl (g_aload_n rfl (g_iload_n rfl (g_bipush mzb_8 (g_iadd (g_iconst mzi_4 ?_)))))))
    refine g_iload_n rfl (g_imul (g_iadd (g_iconst mzi_4 ?_)))
    obtain ⟨h2, hp⟩ := hp
    refine g_s3v (Nat.le_of_ble_eq_true rfl) (fun _ hq => cs_61 (Nat.le_trans (Nat.le_of_ble_eq_true rfl) hd) (hS.le (Nat.le_of_ble_eq_true rfl)) (hR.le (Nat.le_of_ble_eq_true rfl)) 223 3780 (mz_at hS (Nat.le_of_ble_eq_true rfl) mzcS_223) ((v2 + 8) + (4 * s.1)) 4 s.2 h2 hq) (g_l2i ?_)
    obtain ⟨h3, hp⟩ := hp
    refine g_iast (mz_at hS (Nat.le_of_ble_eq_true rfl) mzcS_215) h3 ?_
    refine g_weak ?_ (g_cl (cg_65_61 hd hS hR v2 s.1 (mz_wI s.2 215 s.1 ((cf_61_0 223 3780 ((v2 + 8) + (4 * s.1)) 4 s.2).toInt32)) hr hc1 hx1 hp hC))
    exact ⟨rfl, rfl, rfl, rfl, trivial⟩
  · have hp := hp.2 h1
    exact g_vret rfl (hr _ (hx1 _ hC))
theorem cg_65_36 (hd : 1 ≤ d) (hS : mz_extR S 232) (hR : mz_rok R 232)  (v2 : Int32) (v3 : Int32) (N : mz_N) {C0 : (mz_N) → Prop} (hr : ∀ (N2 : mz_N), C0 N2 → Q (.inl none) (mz_k S R N2 b t)) (hp : cp_65_36 v2 v3 N) (hC : C0 (cf_65_36 v2 v3 N)) : mz_G (d, mz_X0 L xs, none, [], mk_65, 4, Q) 36 mt_65_36 [(0, .ref 208), (1, .ref 223), (2, .int v2), (3, .int v3)] [] false (mz_k S R N b t) := by
  obtain ⟨n, hn⟩ := hp
  exact g_loop (G := fun s => mz_G (d, mz_X0 L xs, none, [], mk_65, 4, Q) 36 mt_65_36 [(0, .ref 208), (1, .ref 223), (2, .int v2), (3, .int s.1)] [] false (mz_k S R s.2 b t)) (C := C0) (fun C2 hc hx s hP hC => cb_65_36 hd hS hR v2 s hr hc hx hP hC) n (v3, N) hn hC
theorem cg_65_34 (hd : 1 ≤ d) (hS : mz_extR S 232) (hR : mz_rok R 232)  (v2 : Int32) (N : mz_N) {C0 : (mz_N) → Prop} (hr : ∀ (N2 : mz_N), C0 N2 → Q (.inl none) (mz_k S R N2 b t)) (hp : cp_65_34 v2 N) (hC : C0 (cf_65_34 v2 N)) : mz_G (d, mz_X0 L xs, none, [], mk_65, 4, Q) 34 mt_65_34 [(0, .ref 208), (1, .ref 223), (2, .int v2)] [] false (mz_k S R N b t) := by
  unfold cf_65_34 at hC
  unfold cp_65_34 at hp
  refine g_iconst mzi_0 (g_istore_n (Nat.le_of_ble_eq_true rfl) rfl ?_)
  refine g_weak ?_ (g_cl (cg_65_36 hd hS hR v2 0 N hr hp hC))
  exact ⟨rfl, rfl, rfl, rfl, trivial⟩
theorem cg_65_0 (hd : 1 ≤ d) (hS : mz_extR S 232) (hR : mz_rok R 232)  (v2 : Int32) (N : mz_N) {C0 : (mz_N) → Prop} (hr : ∀ (N2 : mz_N), C0 N2 → Q (.inl none) (mz_k S R N2 b t)) (hp : cp_65_0 v2 N) (hC : C0 (cf_65_0 v2 N)) : mz_G (d, mz_X0 L xs, none, [], mk_65, 4, Q) 0 mk_65 [(0, .ref 208), (1, .ref 223), (2, .int v2)] [] true (mz_k S R N b t) := by
  unfold cf_65_0 at hC
  unfold cp_65_0 at hp
  refine g_aload_n rfl (g_getR (mz_at hS (Nat.le_of_ble_eq_true rfl) mzcS_208) mzcf_1_5 (mz_rb hR (Nat.le_of_ble_eq_true rfl) rfl mzcR_208_5) (g_iconst mzi_1 (g_aald4 (m := 211) (mz_at hS (Nat.le_of_ble_eq_true rfl) mzcS_209) (mz_ibd (by decide)) (mz_rb hR (Nat.le_of_ble_eq_true rfl) rfl mzcRr_209_1) (g_bipush mzb_10 (g_aload_n rfl (g_iload_n rfl (g_iconst mzi_4 ?_)))))))
  obtain ⟨h1, hp⟩ := hp
  refine g_s3v (Nat.le_of_ble_eq_true rfl) (fun _ hq => cs_61 (Nat.le_trans (Nat.le_of_ble_eq_true rfl) hd) (hS.le (Nat.le_of_ble_eq_true rfl)) (hR.le (Nat.le_of_ble_eq_true rfl)) 223 3780 (mz_at hS (Nat.le_of_ble_eq_true rfl) mzcS_223) v2 4 N h1 hq) (g_l2i (g_iast (mz_at hS (Nat.le_of_ble_eq_true rfl) mzcS_211) (mz_ibd (by decide)) (g_aload_n rfl (g_getR (mz_at hS (Nat.le_of_ble_eq_true rfl) mzcS_208) mzcf_1_5 (mz_rb hR (Nat.le_of_ble_eq_true rfl) rfl mzcR_208_5) (g_iconst mzi_0 (g_aald4 (m := 210) (mz_at hS (Nat.le_of_ble_eq_true rfl) mzcS_209) (mz_ibd (by decide)) (mz_rb hR (Nat.le_of_ble_eq_true rfl) rfl mzcRr_209_0) (g_bipush mzb_10 ?_)))))))
  refine g_aload_n rfl (g_iload_n rfl (g_iconst mzi_4 (g_iadd (g_iconst mzi_4 ?_))))
  obtain ⟨h2, hp⟩ := hp
  refine g_s3v (Nat.le_of_ble_eq_true rfl) (fun _ hq => cs_61 (Nat.le_trans (Nat.le_of_ble_eq_true rfl) hd) (hS.le (Nat.le_of_ble_eq_true rfl)) (hR.le (Nat.le_of_ble_eq_true rfl)) 223 3780 (mz_at hS (Nat.le_of_ble_eq_true rfl) mzcS_223) (v2 + 4) 4 (mz_wI N 211 10 ((cf_61_0 223 3780 v2 4 N).toInt32)) h2 hq) (g_l2i (g_iast (mz_at hS (Nat.le_of_ble_eq_true rfl) mzcS_210) (mz_ibd (by decide)) ?_))
  refine g_weak ?_ (g_cl (cg_65_34 hd hS hR v2 (mz_wI (mz_wI N 211 10 ((cf_61_0 223 3780 v2 4 N).toInt32)) 210 10 ((cf_61_0 223 3780 (v2 + 4) 4 (mz_wI N 211 10 ((cf_61_0 223 3780 v2 4 N).toInt32))).toInt32)) hr hp hC))
  exact ⟨rfl, rfl, rfl, trivial⟩
theorem cs_65 (hd : 2 ≤ d) (hS : mz_extR S 232) (hR : mz_rok R 232)  (v2 : Int32) (N : mz_N) (hp : cp_65_0 v2 N) (hq : Q (.inl none) (mz_k S R (cf_65_0 v2 N) b t)) : mz_Ed (mz_X0 L xs) d 65 [.ref 208, .ref 223, .int v2] (mz_k S R N b t) Q :=
  by
  refine g_in mzq_65 (Nat.le_of_ble_eq_true rfl) (Nat.le_of_ble_eq_true rfl) (Nat.le_trans (Nat.le_of_ble_eq_true rfl) hd) ?_
  refine g_weak ?_ (cg_65_0 (d := d - 1) (by omega) hS hR v2 N (C0 := fun z => Q (.inl none) (mz_k S R z b t)) (fun _ h => h) hp hq)
  exact ⟨rfl, rfl, rfl, trivial⟩
/-! 66 KeptHouse$Care.readPart (I[II)V -/
theorem ms_66_0 : mz_sf mk_66 0 = mk_66 := mz_sf_zero _
theorem ms_66_32 : mz_sf mk_66 32 = mt_66_32 := mz_sf_add ms_66_0 (t := 32) rfl rfl
theorem ms_66_50 : mz_sf mk_66 50 = mt_66_50 := mz_sf_add ms_66_32 (t := 18) rfl rfl
set_option maxRecDepth 100000 in
theorem mzq_66 : mz_PG0 66 = some (2, ⟨"KeptHouse$Care", "readPart", "(I[II)V"⟩, prog_4_method_30_code, 4, none, [], mk_66, []) := rfl
theorem cg_66_32 (hd : 1 ≤ d) (hS : mz_extR S 232) (hR : mz_rok R 232)  (v1 : Int32) (v3 : Int32) (N : mz_N) {C0 : (mz_N) → Prop} (hr : ∀ (N2 : mz_N), C0 N2 → Q (.inl none) (mz_k S R N2 b t)) (hp : cp_66_32 v1 v3 N) (hC : C0 (cf_66_32 v1 v3 N)) : mz_G (d, mz_X0 L xs, none, [], mk_66, 4, Q) 32 mt_66_32 [(0, .ref 115), (1, .int v1), (2, .ref 223), (3, .int v3)] [] false (mz_k S R N b t) := by
  unfold cf_66_32 at hC
  unfold cp_66_32 at hp
  refine g_aload_n rfl (g_getR (mz_at hS (Nat.le_of_ble_eq_true rfl) mzcS_115) mzcf_2_3 (mz_rb hR (Nat.le_of_ble_eq_true rfl) rfl mzcR_115_3) (g_iconst mzi_2 (g_aald4 (m := 127) (mz_at hS (Nat.le_of_ble_eq_true rfl) mzcS_124) (mz_ibd (by decide)) (mz_rb hR (Nat.le_of_ble_eq_true rfl) rfl mzcRr_124_2) (g_iload_n rfl (g_aload_n rfl (g_iload_n rfl (g_bipush mzb_8 ?_)))))))
  refine g_iadd (g_iconst mzi_4 ?_)
  obtain ⟨h1, hp⟩ := hp
  refine g_s3v (Nat.le_of_ble_eq_true rfl) (fun _ hq => cs_61 (Nat.le_trans (Nat.le_of_ble_eq_true rfl) hd) (hS.le (Nat.le_of_ble_eq_true rfl)) (hR.le (Nat.le_of_ble_eq_true rfl)) 223 3780 (mz_at hS (Nat.le_of_ble_eq_true rfl) mzcS_223) (v3 + 8) 4 N h1 hq) (g_l2i ?_)
  obtain ⟨h2, hp⟩ := hp
  refine g_iast (mz_at hS (Nat.le_of_ble_eq_true rfl) mzcS_127) h2 (g_aload_n rfl (g_getR (mz_at hS (Nat.le_of_ble_eq_true rfl) mzcS_115) mzcf_2_3 (mz_rb hR (Nat.le_of_ble_eq_true rfl) rfl mzcR_115_3) (g_iconst mzi_3 (g_aald4 (m := 128) (mz_at hS (Nat.le_of_ble_eq_true rfl) mzcS_124) (mz_ibd (by decide)) (mz_rb hR (Nat.le_of_ble_eq_true rfl) rfl mzcRr_124_3) (g_iload_n rfl (g_aload_n rfl (g_iload_n rfl ?_)))))))
  refine g_bipush mzb_12 (g_iadd ?_)
  obtain ⟨h3, hp⟩ := hp
  refine g_iald hS.1 (mz_at hS (Nat.le_of_ble_eq_true rfl) mzcS_223) h3 ?_
  have h4 := hp
  refine g_iast (mz_at hS (Nat.le_of_ble_eq_true rfl) mzcS_128) h4 ?_
  exact g_vret rfl (hr _ hC)
theorem cg_66_0 (hd : 1 ≤ d) (hS : mz_extR S 232) (hR : mz_rok R 232)  (v1 : Int32) (v3 : Int32) (N : mz_N) {C0 : (mz_N) → Prop} (hr : ∀ (N2 : mz_N), C0 N2 → Q (.inl none) (mz_k S R N2 b t)) (hp : cp_66_0 v1 v3 N) (hC : C0 (cf_66_0 v1 v3 N)) : mz_G (d, mz_X0 L xs, none, [], mk_66, 4, Q) 0 mk_66 [(0, .ref 115), (1, .int v1), (2, .ref 223), (3, .int v3)] [] true (mz_k S R N b t) := by
  unfold cf_66_0 at hC
  unfold cp_66_0 at hp
  refine g_aload_n rfl (g_getR (mz_at hS (Nat.le_of_ble_eq_true rfl) mzcS_115) mzcf_2_3 (mz_rb hR (Nat.le_of_ble_eq_true rfl) rfl mzcR_115_3) (g_iconst mzi_0 (g_aald4 (m := 125) (mz_at hS (Nat.le_of_ble_eq_true rfl) mzcS_124) (mz_ibd (by decide)) (mz_rb hR (Nat.le_of_ble_eq_true rfl) rfl mzcRr_124_0) (g_iload_n rfl (g_aload_n rfl (g_iload_n rfl (g_iconst mzi_4 ?_)))))))
  obtain ⟨h1, hp⟩ := hp
  refine g_s3v (Nat.le_of_ble_eq_true rfl) (fun _ hq => cs_61 (Nat.le_trans (Nat.le_of_ble_eq_true rfl) hd) (hS.le (Nat.le_of_ble_eq_true rfl)) (hR.le (Nat.le_of_ble_eq_true rfl)) 223 3780 (mz_at hS (Nat.le_of_ble_eq_true rfl) mzcS_223) v3 4 N h1 hq) (g_l2i ?_)
  obtain ⟨h2, hp⟩ := hp
  refine g_iast (mz_at hS (Nat.le_of_ble_eq_true rfl) mzcS_125) h2 (g_aload_n rfl (g_getR (mz_at hS (Nat.le_of_ble_eq_true rfl) mzcS_115) mzcf_2_3 (mz_rb hR (Nat.le_of_ble_eq_true rfl) rfl mzcR_115_3) (g_iconst mzi_1 (g_aald4 (m := 126) (mz_at hS (Nat.le_of_ble_eq_true rfl) mzcS_124) (mz_ibd (by decide)) (mz_rb hR (Nat.le_of_ble_eq_true rfl) rfl mzcRr_124_1) (g_iload_n rfl (g_aload_n rfl (g_iload_n rfl ?_)))))))
  refine g_iconst mzi_4 (g_iadd (g_iconst mzi_4 ?_))
  obtain ⟨h3, hp⟩ := hp
  refine g_s3v (Nat.le_of_ble_eq_true rfl) (fun _ hq => cs_61 (Nat.le_trans (Nat.le_of_ble_eq_true rfl) hd) (hS.le (Nat.le_of_ble_eq_true rfl)) (hR.le (Nat.le_of_ble_eq_true rfl)) 223 3780 (mz_at hS (Nat.le_of_ble_eq_true rfl) mzcS_223) (v3 + 4) 4 (mz_wI N 125 v1 ((cf_61_0 223 3780 v3 4 N).toInt32)) h3 hq) (g_l2i ?_)
  obtain ⟨h4, hp⟩ := hp
  refine g_iast (mz_at hS (Nat.le_of_ble_eq_true rfl) mzcS_126) h4 ?_
  refine g_weak ?_ (g_cl (cg_66_32 hd hS hR v1 v3 (mz_wI (mz_wI N 125 v1 ((cf_61_0 223 3780 v3 4 N).toInt32)) 126 v1 ((cf_61_0 223 3780 (v3 + 4) 4 (mz_wI N 125 v1 ((cf_61_0 223 3780 v3 4 N).toInt32))).toInt32)) hr hp hC))
  exact ⟨rfl, rfl, rfl, rfl, trivial⟩
theorem cs_66 (hd : 2 ≤ d) (hS : mz_extR S 232) (hR : mz_rok R 232)  (v1 : Int32) (v3 : Int32) (N : mz_N) (hp : cp_66_0 v1 v3 N) (hq : Q (.inl none) (mz_k S R (cf_66_0 v1 v3 N) b t)) : mz_Ed (mz_X0 L xs) d 66 [.ref 115, .int v1, .ref 223, .int v3] (mz_k S R N b t) Q :=
  by
  refine g_in mzq_66 (Nat.le_of_ble_eq_true rfl) (Nat.le_of_ble_eq_true rfl) (Nat.le_trans (Nat.le_of_ble_eq_true rfl) hd) ?_
  refine g_weak ?_ (cg_66_0 (d := d - 1) (by omega) hS hR v1 v3 N (C0 := fun z => Q (.inl none) (mz_k S R z b t)) (fun _ h => h) hp hq)
  exact ⟨rfl, rfl, rfl, rfl, trivial⟩
/-! 68 KeptHouse$Care.setTicket (IIII)V -/
theorem ms_68_0 : mz_sf mk_68 0 = mk_68 := mz_sf_zero _
theorem ms_68_16 : mz_sf mk_68 16 = mt_68_16 := mz_sf_add ms_68_0 (t := 16) rfl rfl
theorem ms_68_35 : mz_sf mk_68 35 = mt_68_35 := mz_sf_add ms_68_16 (t := 19) rfl rfl
set_option maxRecDepth 100000 in
theorem mzq_68 : mz_PG0 68 = some (2, ⟨"KeptHouse$Care", "setTicket", "(IIII)V"⟩, prog_4_method_5_code, 5, none, [], mk_68, []) := rfl
theorem cg_68_0 (hd : 0 ≤ d) (hS : mz_extR S 232) (hR : mz_rok R 232)  (v1 : Int32) (v2 : Int32) (v3 : Int32) (v4 : Int32) (N : mz_N) {C0 : (mz_N) → Prop} (hr : ∀ (N2 : mz_N), C0 N2 → Q (.inl none) (mz_k S R N2 b t)) (hp : cp_68_0 v1 v2 v3 v4 N) (hC : C0 (cf_68_0 v1 v2 v3 v4 N)) : mz_G (d, mz_X0 L xs, none, [], mk_68, 5, Q) 0 mk_68 [(0, .ref 115), (1, .int v1), (2, .int v2), (3, .int v3), (4, .int v4)] [] true (mz_k S R N b t) := by
  unfold cf_68_0 at hC
  unfold cp_68_0 at hp
  refine g_aload_n rfl (g_getR (mz_at hS (Nat.le_of_ble_eq_true rfl) mzcS_115) mzcf_2_1 (mz_rb hR (Nat.le_of_ble_eq_true rfl) rfl mzcR_115_1) (g_iload_n rfl (g_iconst mzi_1 ?_)))
  obtain ⟨h1, hp⟩ := hp
  refine g_iast (mz_at hS (Nat.le_of_ble_eq_true rfl) mzcS_123) h1 (g_aload_n rfl (g_getR (mz_at hS (Nat.le_of_ble_eq_true rfl) mzcS_115) mzcf_2_0 (mz_rb hR (Nat.le_of_ble_eq_true rfl) rfl mzcR_115_0) (g_iconst mzi_1 (g_aald4 (m := 118) (mz_at hS (Nat.le_of_ble_eq_true rfl) mzcS_116) (mz_ibd (by decide)) (mz_rb hR (Nat.le_of_ble_eq_true rfl) rfl mzcRr_116_1) (g_iload_n rfl (g_iload_n rfl ?_))))))
  obtain ⟨h2, hp⟩ := hp
  refine g_iast (mz_at hS (Nat.le_of_ble_eq_true rfl) mzcS_118) h2 (g_aload_n rfl (g_getR (mz_at hS (Nat.le_of_ble_eq_true rfl) mzcS_115) mzcf_2_0 (mz_rb hR (Nat.le_of_ble_eq_true rfl) rfl mzcR_115_0) (g_iconst mzi_2 (g_aald4 (m := 119) (mz_at hS (Nat.le_of_ble_eq_true rfl) mzcS_116) (mz_ibd (by decide)) (mz_rb hR (Nat.le_of_ble_eq_true rfl) rfl mzcRr_116_2) (g_iload_n rfl (g_iload_n rfl ?_))))))
  obtain ⟨h3, hp⟩ := hp
  refine g_iast (mz_at hS (Nat.le_of_ble_eq_true rfl) mzcS_119) h3 (g_aload_n rfl (g_getR (mz_at hS (Nat.le_of_ble_eq_true rfl) mzcS_115) mzcf_2_0 (mz_rb hR (Nat.le_of_ble_eq_true rfl) rfl mzcR_115_0) (g_iconst mzi_3 (g_aald4 (m := 120) (mz_at hS (Nat.le_of_ble_eq_true rfl) mzcS_116) (mz_ibd (by decide)) (mz_rb hR (Nat.le_of_ble_eq_true rfl) rfl mzcRr_116_3) (g_iload_n rfl (g_iload rfl ?_))))))
  obtain ⟨h4, hp⟩ := hp
  refine g_iast (mz_at hS (Nat.le_of_ble_eq_true rfl) mzcS_120) h4 (g_aload_n rfl (g_getR (mz_at hS (Nat.le_of_ble_eq_true rfl) mzcS_115) mzcf_2_0 (mz_rb hR (Nat.le_of_ble_eq_true rfl) rfl mzcR_115_0) (g_iconst mzi_5 (g_aald4 (m := 122) (mz_at hS (Nat.le_of_ble_eq_true rfl) mzcS_116) (mz_ibd (by decide)) (mz_rb hR (Nat.le_of_ble_eq_true rfl) rfl mzcRr_116_5) (g_iload_n rfl (g_iconst mzi_m1 ?_))))))
  have h5 := hp
  refine g_iast (mz_at hS (Nat.le_of_ble_eq_true rfl) mzcS_122) h5 ?_
  exact g_vret rfl (hr _ hC)
theorem cs_68 (hd : 1 ≤ d) (hS : mz_extR S 232) (hR : mz_rok R 232)  (v1 : Int32) (v2 : Int32) (v3 : Int32) (v4 : Int32) (N : mz_N) (hp : cp_68_0 v1 v2 v3 v4 N) (hq : Q (.inl none) (mz_k S R (cf_68_0 v1 v2 v3 v4 N) b t)) : mz_Ed (mz_X0 L xs) d 68 [.ref 115, .int v1, .int v2, .int v3, .int v4] (mz_k S R N b t) Q :=
  by
  refine g_in mzq_68 (Nat.le_of_ble_eq_true rfl) (Nat.le_of_ble_eq_true rfl) (Nat.le_trans (Nat.le_of_ble_eq_true rfl) hd) ?_
  refine g_weak ?_ (cg_68_0 (d := d - 1) (by omega) hS hR v1 v2 v3 v4 N (C0 := fun z => Q (.inl none) (mz_k S R z b t)) (fun _ h => h) hp hq)
  exact ⟨rfl, rfl, rfl, rfl, rfl, trivial⟩
/-! 67 KeptHouse$Care.readTicket (I[II)V -/
theorem ms_67_0 : mz_sf mk_67 0 = mk_67 := mz_sf_zero _
theorem ms_67_7 : mz_sf mk_67 7 = mt_67_7 := mz_sf_add ms_67_0 (t := 7) rfl rfl
theorem ms_67_27 : mz_sf mk_67 27 = mt_67_27 := mz_sf_add ms_67_7 (t := 20) rfl rfl
theorem ms_67_44 : mz_sf mk_67 44 = mt_67_44 := mz_sf_add ms_67_27 (t := 17) rfl rfl
theorem ms_67_62 : mz_sf mk_67 62 = mt_67_62 := mz_sf_add ms_67_44 (t := 18) rfl rfl
theorem ms_67_83 : mz_sf mk_67 83 = mt_67_83 := mz_sf_add ms_67_62 (t := 21) rfl rfl
set_option maxRecDepth 100000 in
theorem mzq_67 : mz_PG0 67 = some (2, ⟨"KeptHouse$Care", "readTicket", "(I[II)V"⟩, prog_4_method_33_code, 4, none, [], mk_67, []) := rfl
theorem cg_67_62 (hd : 1 ≤ d) (hS : mz_extR S 232) (hR : mz_rok R 232)  (v1 : Int32) (N : mz_N) {C0 : (mz_N) → Prop} (hr : ∀ (N2 : mz_N), C0 N2 → Q (.inl none) (mz_k S R N2 b t)) (hp : cp_67_62 v1 N) (hC : C0 (cf_67_62 v1 N)) : mz_G (d, mz_X0 L xs, none, [], mk_67, 4, Q) 62 mt_67_62 [(0, .ref 115), (1, .int v1)] [] false (mz_k S R N b t) := by
  unfold cf_67_62 at hC
  unfold cp_67_62 at hp
  refine g_aload_n rfl (g_aload_n rfl (g_getI (mz_at hS (Nat.le_of_ble_eq_true rfl) mzcS_115) mzcf_2_2 (g_aload_n rfl (g_getR (mz_at hS (Nat.le_of_ble_eq_true rfl) mzcS_115) mzcf_2_0 (mz_rb hR (Nat.le_of_ble_eq_true rfl) rfl mzcR_115_0) (g_iconst mzi_0 (g_aald4 (m := 117) (mz_at hS (Nat.le_of_ble_eq_true rfl) mzcS_116) (mz_ibd (by decide)) (mz_rb hR (Nat.le_of_ble_eq_true rfl) rfl mzcRr_116_0) (g_iload_n rfl ?_)))))))
  have h1 := hp
  refine g_iald hS.1 (mz_at hS (Nat.le_of_ble_eq_true rfl) mzcS_117) h1 (g_iconst mzi_1 (g_iadd (g_imax (Nat.le_of_ble_eq_true rfl) (g_putI (mz_at hS (Nat.le_of_ble_eq_true rfl) mzcS_115) mzcf_2_2 ?_))))
  exact g_vret rfl (hr _ hC)
theorem cg_67_27 (hd : 1 ≤ d) (hS : mz_extR S 232) (hR : mz_rok R 232)  (v1 : Int32) (v3 : Int32) (N : mz_N) {C0 : (mz_N) → Prop} (hr : ∀ (N2 : mz_N), C0 N2 → Q (.inl none) (mz_k S R N2 b t)) (hp : cp_67_27 v1 v3 N) (hC : C0 (cf_67_27 v1 v3 N)) : mz_G (d, mz_X0 L xs, none, [], mk_67, 4, Q) 27 mt_67_27 [(0, .ref 115), (1, .int v1), (2, .ref 223), (3, .int v3)] [] false (mz_k S R N b t) := by
  unfold cf_67_27 at hC
  unfold cp_67_27 at hp
  refine g_aload_n rfl (g_getR (mz_at hS (Nat.le_of_ble_eq_true rfl) mzcS_115) mzcf_2_0 (mz_rb hR (Nat.le_of_ble_eq_true rfl) rfl mzcR_115_0) (g_iconst mzi_4 (g_aald4 (m := 121) (mz_at hS (Nat.le_of_ble_eq_true rfl) mzcS_116) (mz_ibd (by decide)) (mz_rb hR (Nat.le_of_ble_eq_true rfl) rfl mzcRr_116_4) (g_iload_n rfl (g_aload_n rfl (g_iload_n rfl (g_iconst mzi_4 ?_)))))))
  refine g_iadd (g_iconst mzi_4 ?_)
  obtain ⟨h1, hp⟩ := hp
  refine g_s3v (Nat.le_of_ble_eq_true rfl) (fun _ hq => cs_61 (Nat.le_trans (Nat.le_of_ble_eq_true rfl) hd) (hS.le (Nat.le_of_ble_eq_true rfl)) (hR.le (Nat.le_of_ble_eq_true rfl)) 223 3780 (mz_at hS (Nat.le_of_ble_eq_true rfl) mzcS_223) (v3 + 4) 4 N h1 hq) (g_l2i ?_)
  obtain ⟨h2, hp⟩ := hp
  refine g_iast (mz_at hS (Nat.le_of_ble_eq_true rfl) mzcS_121) h2 (g_aload_n rfl (g_getR (mz_at hS (Nat.le_of_ble_eq_true rfl) mzcS_115) mzcf_2_0 (mz_rb hR (Nat.le_of_ble_eq_true rfl) rfl mzcR_115_0) (g_iconst mzi_0 (g_aald4 (m := 117) (mz_at hS (Nat.le_of_ble_eq_true rfl) mzcS_116) (mz_ibd (by decide)) (mz_rb hR (Nat.le_of_ble_eq_true rfl) rfl mzcRr_116_0) (g_iload_n rfl (g_aload_n rfl (g_iload_n rfl ?_)))))))
  refine g_bipush mzb_8 (g_iadd (g_iconst mzi_4 ?_))
  obtain ⟨h3, hp⟩ := hp
  refine g_s3v (Nat.le_of_ble_eq_true rfl) (fun _ hq => cs_61 (Nat.le_trans (Nat.le_of_ble_eq_true rfl) hd) (hS.le (Nat.le_of_ble_eq_true rfl)) (hR.le (Nat.le_of_ble_eq_true rfl)) 223 3780 (mz_at hS (Nat.le_of_ble_eq_true rfl) mzcS_223) (v3 + 8) 4 (mz_wI N 121 v1 ((cf_61_0 223 3780 (v3 + 4) 4 N).toInt32)) h3 hq) (g_l2i ?_)
  obtain ⟨h4, hp⟩ := hp
  refine g_iast (mz_at hS (Nat.le_of_ble_eq_true rfl) mzcS_117) h4 ?_
  refine g_weak ?_ (g_cl (cg_67_62 hd hS hR v1 (mz_wI (mz_wI N 121 v1 ((cf_61_0 223 3780 (v3 + 4) 4 N).toInt32)) 117 v1 ((cf_61_0 223 3780 (v3 + 8) 4 (mz_wI N 121 v1 ((cf_61_0 223 3780 (v3 + 4) 4 N).toInt32))).toInt32)) hr hp hC))
  exact ⟨rfl, rfl, trivial⟩
theorem cg_67_0 (hd : 1 ≤ d) (hS : mz_extR S 232) (hR : mz_rok R 232)  (v1 : Int32) (v3 : Int32) (N : mz_N) {C0 : (mz_N) → Prop} (hr : ∀ (N2 : mz_N), C0 N2 → Q (.inl none) (mz_k S R N2 b t)) (hp : cp_67_0 v1 v3 N) (hC : C0 (cf_67_0 v1 v3 N)) : mz_G (d, mz_X0 L xs, none, [], mk_67, 4, Q) 0 mk_67 [(0, .ref 115), (1, .int v1), (2, .ref 223), (3, .int v3)] [] true (mz_k S R N b t) := by
  unfold cf_67_0 at hC
  unfold cp_67_0 at hp
  refine g_aload_n rfl (g_iload_n rfl ?_)
  obtain ⟨h1, hp⟩ := hp
  refine g_iald hS.1 (mz_at hS (Nat.le_of_ble_eq_true rfl) mzcS_223) h1 ?_
  refine g_ifne (tg := 7) rfl ms_67_7 hC (fun h2 hC => ?_) (fun h2 hC => ?_)
  · have hp := hp.1 h2
    exact g_vret rfl (hr _ hC)
  · have hp := hp.2 h2
    refine g_aload_n rfl (g_iload_n rfl (g_aload_n rfl (g_iload_n rfl (g_iconst mzi_1 (g_iadd ?_)))))
    obtain ⟨h3, hp⟩ := hp
    refine g_iald hS.1 (mz_at hS (Nat.le_of_ble_eq_true rfl) mzcS_223) h3 (g_aload_n rfl (g_iload_n rfl (g_iconst mzi_2 (g_iadd ?_))))
    obtain ⟨h4, hp⟩ := hp
    refine g_iald hS.1 (mz_at hS (Nat.le_of_ble_eq_true rfl) mzcS_223) h4 (g_aload_n rfl (g_iload_n rfl (g_iconst mzi_3 (g_iadd ?_))))
    obtain ⟨h5, hp⟩ := hp
    refine g_iald hS.1 (mz_at hS (Nat.le_of_ble_eq_true rfl) mzcS_223) h5 ?_
    obtain ⟨h6, hp⟩ := hp
    refine g_v5n (Nat.le_of_ble_eq_true rfl) (mz_at hS (Nat.le_of_ble_eq_true rfl) mzcS_115) (fun _ hq => cs_68 (Nat.le_trans (Nat.le_of_ble_eq_true rfl) hd) (hS.le (Nat.le_of_ble_eq_true rfl)) (hR.le (Nat.le_of_ble_eq_true rfl))  v1 (mz_gI N 223 (v3 + 1)) (mz_gI N 223 (v3 + 2)) (mz_gI N 223 (v3 + 3)) N h6 hq) ?_
    refine g_weak ?_ (g_cl (cg_67_27 hd hS hR v1 v3 (cf_68_0 v1 (mz_gI N 223 (v3 + 1)) (mz_gI N 223 (v3 + 2)) (mz_gI N 223 (v3 + 3)) N) hr hp hC))
    exact ⟨rfl, rfl, rfl, rfl, trivial⟩
theorem cs_67 (hd : 2 ≤ d) (hS : mz_extR S 232) (hR : mz_rok R 232)  (v1 : Int32) (v3 : Int32) (N : mz_N) (hp : cp_67_0 v1 v3 N) (hq : Q (.inl none) (mz_k S R (cf_67_0 v1 v3 N) b t)) : mz_Ed (mz_X0 L xs) d 67 [.ref 115, .int v1, .ref 223, .int v3] (mz_k S R N b t) Q :=
  by
  refine g_in mzq_67 (Nat.le_of_ble_eq_true rfl) (Nat.le_of_ble_eq_true rfl) (Nat.le_trans (Nat.le_of_ble_eq_true rfl) hd) ?_
  refine g_weak ?_ (cg_67_0 (d := d - 1) (by omega) hS hR v1 v3 N (C0 := fun z => Q (.inl none) (mz_k S R z b t)) (fun _ h => h) hp hq)
  exact ⟨rfl, rfl, rfl, rfl, trivial⟩
/-! 69 KeptHouse$Access.hang (III)V -/
theorem ms_69_0 : mz_sf mk_69 0 = mk_69 := mz_sf_zero _
theorem ms_69_21 : mz_sf mk_69 21 = mt_69_21 := mz_sf_add ms_69_0 (t := 21) rfl rfl
set_option maxRecDepth 100000 in
theorem mzq_69 : mz_PG0 69 = some (0, ⟨"KeptHouse$Access", "hang", "(III)V"⟩, prog_2_method_5_code, 4, none, [], mk_69, []) := rfl
theorem cg_69_0 (hd : 0 ≤ d) (hS : mz_extR S 232) (hR : mz_rok R 232)  (v1 : Int32) (v2 : Int32) (v3 : Int32) (N : mz_N) {C0 : (mz_N) → Prop} (hr : ∀ (N2 : mz_N), C0 N2 → Q (.inl none) (mz_k S R N2 b t)) (hp : cp_69_0 v1 v2 v3 N) (hC : C0 (cf_69_0 v1 v2 v3 N)) : mz_G (d, mz_X0 L xs, none, [], mk_69, 4, Q) 0 mk_69 [(0, .ref 100), (1, .int v1), (2, .int v2), (3, .int v3)] [] true (mz_k S R N b t) := by
  unfold cf_69_0 at hC
  unfold cp_69_0 at hp
  refine g_aload_n rfl (g_getR (mz_at hS (Nat.le_of_ble_eq_true rfl) mzcS_100) mzcf_0_0 (mz_rb hR (Nat.le_of_ble_eq_true rfl) rfl mzcR_100_0) (g_iload_n rfl (g_iconst mzi_1 ?_)))
  obtain ⟨h1, hp⟩ := hp
  refine g_iast (mz_at hS (Nat.le_of_ble_eq_true rfl) mzcS_101) h1 (g_aload_n rfl (g_getR (mz_at hS (Nat.le_of_ble_eq_true rfl) mzcS_100) mzcf_0_1 (mz_rb hR (Nat.le_of_ble_eq_true rfl) rfl mzcR_100_1) (g_iload_n rfl (g_iload_n rfl ?_))))
  obtain ⟨h2, hp⟩ := hp
  refine g_iast (mz_at hS (Nat.le_of_ble_eq_true rfl) mzcS_102) h2 (g_aload_n rfl (g_getR (mz_at hS (Nat.le_of_ble_eq_true rfl) mzcS_100) mzcf_0_2 (mz_rb hR (Nat.le_of_ble_eq_true rfl) rfl mzcR_100_2) (g_iload_n rfl (g_iload_n rfl ?_))))
  have h3 := hp
  refine g_iast (mz_at hS (Nat.le_of_ble_eq_true rfl) mzcS_103) h3 ?_
  exact g_vret rfl (hr _ hC)
theorem cs_69 (hd : 1 ≤ d) (hS : mz_extR S 232) (hR : mz_rok R 232)  (v1 : Int32) (v2 : Int32) (v3 : Int32) (N : mz_N) (hp : cp_69_0 v1 v2 v3 N) (hq : Q (.inl none) (mz_k S R (cf_69_0 v1 v2 v3 N) b t)) : mz_Ed (mz_X0 L xs) d 69 [.ref 100, .int v1, .int v2, .int v3] (mz_k S R N b t) Q :=
  by
  refine g_in mzq_69 (Nat.le_of_ble_eq_true rfl) (Nat.le_of_ble_eq_true rfl) (Nat.le_trans (Nat.le_of_ble_eq_true rfl) hd) ?_
  refine g_weak ?_ (cg_69_0 (d := d - 1) (by omega) hS hR v1 v2 v3 N (C0 := fun z => Q (.inl none) (mz_k S R z b t)) (fun _ h => h) hp hq)
  exact ⟨rfl, rfl, rfl, rfl, trivial⟩
/-! 71 KeptHouse$Access.hand (IIIII)V -/
theorem ms_71_0 : mz_sf mk_71 0 = mk_71 := mz_sf_zero _
theorem ms_71_22 : mz_sf mk_71 22 = mt_71_22 := mz_sf_add ms_71_0 (t := 22) rfl rfl
set_option maxRecDepth 100000 in
theorem mzq_71 : mz_PG0 71 = some (0, ⟨"KeptHouse$Access", "hand", "(IIIII)V"⟩, prog_2_method_6_code, 6, none, [], mk_71, []) := rfl
theorem cg_71_0 (hd : 0 ≤ d) (hS : mz_extR S 232) (hR : mz_rok R 232)  (v1 : Int32) (v2 : Int32) (v3 : Int32) (v4 : Int32) (v5 : Int32) (N : mz_N) {C0 : (mz_N) → Prop} (hr : ∀ (N2 : mz_N), C0 N2 → Q (.inl none) (mz_k S R N2 b t)) (hp : cp_71_0 v1 v2 v3 v4 v5 N) (hC : C0 (cf_71_0 v1 v2 v3 v4 v5 N)) : mz_G (d, mz_X0 L xs, none, [], mk_71, 6, Q) 0 mk_71 [(0, .ref 100), (1, .int v1), (2, .int v2), (3, .int v3), (4, .int v4), (5, .int v5)] [] true (mz_k S R N b t) := by
  unfold cf_71_0 at hC
  unfold cp_71_0 at hp
  refine g_aload_n rfl (g_getR (mz_at hS (Nat.le_of_ble_eq_true rfl) mzcS_100) mzcf_0_3 (mz_rb hR (Nat.le_of_ble_eq_true rfl) rfl mzcR_100_3) (g_iload_n rfl (g_iconst mzi_1 ?_)))
  obtain ⟨h1, hp⟩ := hp
  refine g_iast (mz_at hS (Nat.le_of_ble_eq_true rfl) mzcS_104) h1 (g_aload_n rfl (g_getR (mz_at hS (Nat.le_of_ble_eq_true rfl) mzcS_100) mzcf_0_4 (mz_rb hR (Nat.le_of_ble_eq_true rfl) rfl mzcR_100_4) (g_iload_n rfl (g_iload_n rfl ?_))))
  obtain ⟨h2, hp⟩ := hp
  refine g_iast (mz_at hS (Nat.le_of_ble_eq_true rfl) mzcS_105) h2 (g_aload_n rfl (g_getR (mz_at hS (Nat.le_of_ble_eq_true rfl) mzcS_100) mzcf_0_5 (mz_rb hR (Nat.le_of_ble_eq_true rfl) rfl mzcR_100_5) (g_iload_n rfl (g_iload rfl ?_))))
  obtain ⟨h3, hp⟩ := hp
  refine g_iast (mz_at hS (Nat.le_of_ble_eq_true rfl) mzcS_106) h3 (g_aload_n rfl (g_getR (mz_at hS (Nat.le_of_ble_eq_true rfl) mzcS_100) mzcf_0_6 (mz_rb hR (Nat.le_of_ble_eq_true rfl) rfl mzcR_100_6) (g_iload_n rfl (g_iload rfl ?_))))
  obtain ⟨h4, hp⟩ := hp
  refine g_iast (mz_at hS (Nat.le_of_ble_eq_true rfl) mzcS_107) h4 (g_aload_n rfl (g_getR (mz_at hS (Nat.le_of_ble_eq_true rfl) mzcS_100) mzcf_0_7 (mz_rb hR (Nat.le_of_ble_eq_true rfl) rfl mzcR_100_7) (g_iload_n rfl (g_iload_n rfl ?_))))
  have h5 := hp
  refine g_iast (mz_at hS (Nat.le_of_ble_eq_true rfl) mzcS_108) h5 ?_
  exact g_vret rfl (hr _ hC)
theorem cs_71 (hd : 1 ≤ d) (hS : mz_extR S 232) (hR : mz_rok R 232)  (v1 : Int32) (v2 : Int32) (v3 : Int32) (v4 : Int32) (v5 : Int32) (N : mz_N) (hp : cp_71_0 v1 v2 v3 v4 v5 N) (hq : Q (.inl none) (mz_k S R (cf_71_0 v1 v2 v3 v4 v5 N) b t)) : mz_Ed (mz_X0 L xs) d 71 [.ref 100, .int v1, .int v2, .int v3, .int v4, .int v5] (mz_k S R N b t) Q :=
  by
  refine g_in mzq_71 (Nat.le_of_ble_eq_true rfl) (Nat.le_of_ble_eq_true rfl) (Nat.le_trans (Nat.le_of_ble_eq_true rfl) hd) ?_
  refine g_weak ?_ (cg_71_0 (d := d - 1) (by omega) hS hR v1 v2 v3 v4 v5 N (C0 := fun z => Q (.inl none) (mz_k S R z b t)) (fun _ h => h) hp hq)
  exact ⟨rfl, rfl, rfl, rfl, rfl, rfl, trivial⟩
/-! 70 KeptHouse$Access.readCard (I[II)V -/
theorem ms_70_0 : mz_sf mk_70 0 = mk_70 := mz_sf_zero _
theorem ms_70_29 : mz_sf mk_70 29 = mt_70_29 := mz_sf_add ms_70_0 (t := 29) rfl rfl
set_option maxRecDepth 100000 in
theorem mzq_70 : mz_PG0 70 = some (0, ⟨"KeptHouse$Access", "readCard", "(I[II)V"⟩, prog_2_method_20_code, 4, none, [], mk_70, []) := rfl
theorem cg_70_29 (hd : 1 ≤ d) (hS : mz_extR S 232) (hR : mz_rok R 232)  (N : mz_N) {C0 : (mz_N) → Prop} (hr : ∀ (N2 : mz_N), C0 N2 → Q (.inl none) (mz_k S R N2 b t)) (hp : cp_70_29 N) (hC : C0 (cf_70_29 N)) : mz_G (d, mz_X0 L xs, none, [], mk_70, 4, Q) 29 mt_70_29 [] [] false (mz_k S R N b t) := by
  unfold cf_70_29 at hC
  unfold cp_70_29 at hp
  exact g_vret rfl (hr _ hC)
theorem cg_70_0 (hd : 1 ≤ d) (hS : mz_extR S 232) (hR : mz_rok R 232)  (v1 : Int32) (v3 : Int32) (N : mz_N) {C0 : (mz_N) → Prop} (hr : ∀ (N2 : mz_N), C0 N2 → Q (.inl none) (mz_k S R N2 b t)) (hp : cp_70_0 v1 v3 N) (hC : C0 (cf_70_0 v1 v3 N)) : mz_G (d, mz_X0 L xs, none, [], mk_70, 4, Q) 0 mk_70 [(0, .ref 100), (1, .int v1), (2, .ref 223), (3, .int v3)] [] true (mz_k S R N b t) := by
  unfold cf_70_0 at hC
  unfold cp_70_0 at hp
  refine g_aload_n rfl (g_iload_n rfl (g_aload_n rfl (g_iload_n rfl (g_iconst mzi_4 (g_iadd (g_iconst mzi_4 ?_))))))
  obtain ⟨h1, hp⟩ := hp
  refine g_s3v (Nat.le_of_ble_eq_true rfl) (fun _ hq => cs_61 (Nat.le_trans (Nat.le_of_ble_eq_true rfl) hd) (hS.le (Nat.le_of_ble_eq_true rfl)) (hR.le (Nat.le_of_ble_eq_true rfl)) 223 3780 (mz_at hS (Nat.le_of_ble_eq_true rfl) mzcS_223) (v3 + 4) 4 N h1 hq) (g_l2i (g_aload_n rfl (g_iload_n rfl (g_iconst mzi_1 (g_iadd ?_)))))
  obtain ⟨h2, hp⟩ := hp
  refine g_iald hS.1 (mz_at hS (Nat.le_of_ble_eq_true rfl) mzcS_223) h2 (g_aload_n rfl (g_iload_n rfl (g_iconst mzi_2 (g_iadd ?_))))
  obtain ⟨h3, hp⟩ := hp
  refine g_iald hS.1 (mz_at hS (Nat.le_of_ble_eq_true rfl) mzcS_223) h3 (g_aload_n rfl (g_iload_n rfl (g_iconst mzi_3 (g_iadd ?_))))
  obtain ⟨h4, hp⟩ := hp
  refine g_iald hS.1 (mz_at hS (Nat.le_of_ble_eq_true rfl) mzcS_223) h4 ?_
  obtain ⟨h5, hp⟩ := hp
  refine g_v6n (Nat.le_of_ble_eq_true rfl) (mz_at hS (Nat.le_of_ble_eq_true rfl) mzcS_100) (fun _ hq => cs_71 (Nat.le_trans (Nat.le_of_ble_eq_true rfl) hd) (hS.le (Nat.le_of_ble_eq_true rfl)) (hR.le (Nat.le_of_ble_eq_true rfl))  v1 ((cf_61_0 223 3780 (v3 + 4) 4 N).toInt32) (mz_gI N 223 (v3 + 1)) (mz_gI N 223 (v3 + 2)) (mz_gI N 223 (v3 + 3)) N h5 hq) ?_
  refine g_weak ?_ (g_cl (cg_70_29 hd hS hR (cf_71_0 v1 ((cf_61_0 223 3780 (v3 + 4) 4 N).toInt32) (mz_gI N 223 (v3 + 1)) (mz_gI N 223 (v3 + 2)) (mz_gI N 223 (v3 + 3)) N) hr hp hC))
  exact trivial
theorem cs_70 (hd : 2 ≤ d) (hS : mz_extR S 232) (hR : mz_rok R 232)  (v1 : Int32) (v3 : Int32) (N : mz_N) (hp : cp_70_0 v1 v3 N) (hq : Q (.inl none) (mz_k S R (cf_70_0 v1 v3 N) b t)) : mz_Ed (mz_X0 L xs) d 70 [.ref 100, .int v1, .ref 223, .int v3] (mz_k S R N b t) Q :=
  by
  refine g_in mzq_70 (Nat.le_of_ble_eq_true rfl) (Nat.le_of_ble_eq_true rfl) (Nat.le_trans (Nat.le_of_ble_eq_true rfl) hd) ?_
  refine g_weak ?_ (cg_70_0 (d := d - 1) (by omega) hS hR v1 v3 N (C0 := fun z => Q (.inl none) (mz_k S R z b t)) (fun _ h => h) hp hq)
  exact ⟨rfl, rfl, rfl, rfl, trivial⟩
/-! 72 KeptHouse$Watch.setPoint (III)V -/
theorem ms_72_0 : mz_sf mk_72 0 = mk_72 := mz_sf_zero _
theorem ms_72_21 : mz_sf mk_72 21 = mt_72_21 := mz_sf_add ms_72_0 (t := 21) rfl rfl
set_option maxRecDepth 100000 in
theorem mzq_72 : mz_PG0 72 = some (10, ⟨"KeptHouse$Watch", "setPoint", "(III)V"⟩, prog_12_method_6_code, 4, none, [], mk_72, []) := rfl
theorem cg_72_0 (hd : 0 ≤ d) (hS : mz_extR S 232) (hR : mz_rok R 232)  (v1 : Int32) (v2 : Int32) (v3 : Int32) (N : mz_N) {C0 : (mz_N) → Prop} (hr : ∀ (N2 : mz_N), C0 N2 → Q (.inl none) (mz_k S R N2 b t)) (hp : cp_72_0 v1 v2 v3 N) (hC : C0 (cf_72_0 v1 v2 v3 N)) : mz_G (d, mz_X0 L xs, none, [], mk_72, 4, Q) 0 mk_72 [(0, .ref 81), (1, .int v1), (2, .int v2), (3, .int v3)] [] true (mz_k S R N b t) := by
  unfold cf_72_0 at hC
  unfold cp_72_0 at hp
  refine g_aload_n rfl (g_getR (mz_at hS (Nat.le_of_ble_eq_true rfl) mzcS_81) mzcf_10_4 (mz_rb hR (Nat.le_of_ble_eq_true rfl) rfl mzcR_81_4) (g_iload_n rfl (g_iconst mzi_1 ?_)))
  obtain ⟨h1, hp⟩ := hp
  refine g_iast (mz_at hS (Nat.le_of_ble_eq_true rfl) mzcS_87) h1 (g_aload_n rfl (g_getR (mz_at hS (Nat.le_of_ble_eq_true rfl) mzcS_81) mzcf_10_5 (mz_rb hR (Nat.le_of_ble_eq_true rfl) rfl mzcR_81_5) (g_iload_n rfl (g_iload_n rfl ?_))))
  obtain ⟨h2, hp⟩ := hp
  refine g_iast (mz_at hS (Nat.le_of_ble_eq_true rfl) mzcS_88) h2 (g_aload_n rfl (g_getR (mz_at hS (Nat.le_of_ble_eq_true rfl) mzcS_81) mzcf_10_6 (mz_rb hR (Nat.le_of_ble_eq_true rfl) rfl mzcR_81_6) (g_iload_n rfl (g_iload_n rfl ?_))))
  obtain ⟨h3, hp⟩ := hp
  refine g_iast (mz_at hS (Nat.le_of_ble_eq_true rfl) mzcS_89) h3 (g_aload_n rfl (g_getR (mz_at hS (Nat.le_of_ble_eq_true rfl) mzcS_81) mzcf_10_8 (mz_rb hR (Nat.le_of_ble_eq_true rfl) rfl mzcR_81_8) (g_iload_n rfl (g_iconst mzi_0 ?_))))
  have h4 := hp
  refine g_iast (mz_at hS (Nat.le_of_ble_eq_true rfl) mzcS_99) h4 ?_
  exact g_vret rfl (hr _ hC)
theorem cs_72 (hd : 1 ≤ d) (hS : mz_extR S 232) (hR : mz_rok R 232)  (v1 : Int32) (v2 : Int32) (v3 : Int32) (N : mz_N) (hp : cp_72_0 v1 v2 v3 N) (hq : Q (.inl none) (mz_k S R (cf_72_0 v1 v2 v3 N) b t)) : mz_Ed (mz_X0 L xs) d 72 [.ref 81, .int v1, .int v2, .int v3] (mz_k S R N b t) Q :=
  by
  refine g_in mzq_72 (Nat.le_of_ble_eq_true rfl) (Nat.le_of_ble_eq_true rfl) (Nat.le_trans (Nat.le_of_ble_eq_true rfl) hd) ?_
  refine g_weak ?_ (cg_72_0 (d := d - 1) (by omega) hS hR v1 v2 v3 N (C0 := fun z => Q (.inl none) (mz_k S R z b t)) (fun _ h => h) hp hq)
  exact ⟨rfl, rfl, rfl, rfl, trivial⟩
/-! 57 KeptHouse$Keeper.decode (II[II)V -/
theorem ms_57_0 : mz_sf mk_57 0 = mk_57 := mz_sf_zero _
theorem ms_57_89 : mz_sf mk_57 89 = mt_57_89 := mz_sf_add ms_57_0 (t := 89) rfl rfl
theorem ms_57_103 : mz_sf mk_57 103 = mt_57_103 := mz_sf_add ms_57_89 (t := 14) rfl rfl
theorem ms_57_125 : mz_sf mk_57 125 = mt_57_125 := mz_sf_add ms_57_103 (t := 22) rfl rfl
theorem ms_57_139 : mz_sf mk_57 139 = mt_57_139 := mz_sf_add ms_57_125 (t := 14) rfl rfl
theorem ms_57_161 : mz_sf mk_57 161 = mt_57_161 := mz_sf_add ms_57_139 (t := 22) rfl rfl
theorem ms_57_164 : mz_sf mk_57 164 = mt_57_164 := mz_sf_add ms_57_161 (t := 3) rfl rfl
theorem ms_57_178 : mz_sf mk_57 178 = mt_57_178 := mz_sf_add ms_57_164 (t := 14) rfl rfl
theorem ms_57_192 : mz_sf mk_57 192 = mt_57_192 := mz_sf_add ms_57_178 (t := 14) rfl rfl
theorem ms_57_205 : mz_sf mk_57 205 = mt_57_205 := mz_sf_add ms_57_192 (t := 13) rfl rfl
theorem ms_57_218 : mz_sf mk_57 218 = mt_57_218 := mz_sf_add ms_57_205 (t := 13) rfl rfl
theorem ms_57_232 : mz_sf mk_57 232 = mt_57_232 := mz_sf_add ms_57_218 (t := 14) rfl rfl
theorem ms_57_246 : mz_sf mk_57 246 = mt_57_246 := mz_sf_add ms_57_232 (t := 14) rfl rfl
theorem ms_57_266 : mz_sf mk_57 266 = mt_57_266 := mz_sf_add ms_57_246 (t := 20) rfl rfl
theorem ms_57_269 : mz_sf mk_57 269 = mt_57_269 := mz_sf_add ms_57_266 (t := 3) rfl rfl
theorem ms_57_283 : mz_sf mk_57 283 = mt_57_283 := mz_sf_add ms_57_269 (t := 14) rfl rfl
theorem ms_57_303 : mz_sf mk_57 303 = mt_57_303 := mz_sf_add ms_57_283 (t := 20) rfl rfl
set_option maxRecDepth 100000 in
theorem mzq_57 : mz_PG0 57 = some (4, ⟨"KeptHouse$Keeper", "decode", "(II[II)V"⟩, prog_6_method_7_code, 5, none, [], mk_57, []) := rfl
theorem cg_57_0 (hd : 2 ≤ d) (hS : mz_extR S 232) (hR : mz_rok R 232)  (v1 : Int32) (v2 : Int32) (v4 : Int32) (N : mz_N) {C0 : (mz_N) → Prop} (hr : ∀ (N2 : mz_N), C0 N2 → Q (.inl none) (mz_k S R N2 b t)) (hp : cp_57_0 v1 v2 v4 N) (hC : C0 (cf_57_0 v1 v2 v4 N)) : mz_G (d, mz_X0 L xs, none, [], mk_57, 5, Q) 0 mk_57 [(0, .ref 1), (1, .int v1), (2, .int v2), (3, .ref 223), (4, .int v4)] [] true (mz_k S R N b t) := by
  unfold cf_57_0 at hC
  unfold cp_57_0 at hp
  refine g_iload_n rfl ?_
  refine mz_cs hC (fun h1 hC => ?_) (fun h1 hC => ?_)
  · have hp := hp.1 h1
    refine g_brn (tg := 72) (by rw [h1]; rfl) (by decide) rfl ?_
    refine g_iload_n rfl (g_aload_n rfl (g_iload rfl (g_aload_n rfl (g_getR (mz_at hS (Nat.le_of_ble_eq_true rfl) mzcS_1) mzcf_4_0 (mz_rb hR (Nat.le_of_ble_eq_true rfl) rfl mzcR_1_0) (g_getR (mz_at hS (Nat.le_of_ble_eq_true rfl) mzcS_2) mzcf_5_0 (mz_rb hR (Nat.le_of_ble_eq_true rfl) rfl mzcR_2_0) ?_)))))
    have h32 := hp
    refine g_s4n (Nat.le_of_ble_eq_true rfl) (fun _ hq => cs_58 (Nat.le_trans (Nat.le_of_ble_eq_true rfl) hd) (hS.le (Nat.le_of_ble_eq_true rfl)) (hR.le (Nat.le_of_ble_eq_true rfl)) 223 3 (mz_at hS (Nat.le_of_ble_eq_true rfl) mzcS_223) (mz_at hS (Nat.le_of_ble_eq_true rfl) mzcS_3) v2 v4 N h32 hq) (g_goto (tg := 303) rfl ms_57_303 ?_)
    exact g_vret rfl (hr _ hC)
  · have hp := hp.2 h1
    refine mz_cs hC (fun h2 hC => ?_) (fun h2 hC => ?_)
    · have hp := hp.1 h2
      refine g_br (tg := 89) (by rw [h2]; rfl) ms_57_89 ?_
      refine g_aload_n rfl (g_getR (mz_at hS (Nat.le_of_ble_eq_true rfl) mzcS_1) mzcf_4_0 (mz_rb hR (Nat.le_of_ble_eq_true rfl) rfl mzcR_1_0) (g_iload_n rfl (g_aload_n rfl (g_iload rfl ?_))))
      have h31 := hp
      refine g_v4n (Nat.le_of_ble_eq_true rfl) (mz_at hS (Nat.le_of_ble_eq_true rfl) mzcS_2) (fun _ hq => cs_59 (Nat.le_trans (Nat.le_of_ble_eq_true rfl) hd) (hS.le (Nat.le_of_ble_eq_true rfl)) (hR.le (Nat.le_of_ble_eq_true rfl))  v2 v4 N h31 hq) (g_goto (tg := 303) rfl ms_57_303 ?_)
      exact g_vret rfl (hr _ hC)
    · have hp := hp.2 h2
      refine mz_cs hC (fun h3 hC => ?_) (fun h3 hC => ?_)
      · have hp := hp.1 h3
        refine g_br (tg := 103) (by rw [h3]; rfl) ms_57_103 ?_
        refine g_aload_n rfl (g_iload rfl (g_aload_n rfl (g_getR (mz_at hS (Nat.le_of_ble_eq_true rfl) mzcS_1) mzcf_4_0 (mz_rb hR (Nat.le_of_ble_eq_true rfl) rfl mzcR_1_0) (g_getR (mz_at hS (Nat.le_of_ble_eq_true rfl) mzcS_2) mzcf_5_18 (mz_rb hR (Nat.le_of_ble_eq_true rfl) rfl mzcR_2_18) (g_iload_n rfl (g_bipush mzb_24 (g_imul ?_)))))))
        refine g_bipush mzb_24 ?_
        have h30 := hp
        refine g_cpI (Nat.le_of_ble_eq_true rfl) (mz_at hS (Nat.le_of_ble_eq_true rfl) mzcS_223) (mz_at hS (Nat.le_of_ble_eq_true rfl) mzcS_40) h30 (g_goto (tg := 303) rfl ms_57_303 ?_)
        exact g_vret rfl (hr _ hC)
      · have hp := hp.2 h3
        refine mz_cs hC (fun h4 hC => ?_) (fun h4 hC => ?_)
        · have hp := hp.1 h4
          refine g_br (tg := 125) (by rw [h4]; rfl) ms_57_125 ?_
          refine g_aload_n rfl (g_getR (mz_at hS (Nat.le_of_ble_eq_true rfl) mzcS_1) mzcf_4_3 (mz_rb hR (Nat.le_of_ble_eq_true rfl) rfl mzcR_1_3) (g_iload_n rfl (g_aload_n rfl (g_iload rfl ?_))))
          have h29 := hp
          refine g_v4n (Nat.le_of_ble_eq_true rfl) (mz_at hS (Nat.le_of_ble_eq_true rfl) mzcS_65) (fun _ hq => cs_60 (Nat.le_trans (Nat.le_of_ble_eq_true rfl) hd) (hS.le (Nat.le_of_ble_eq_true rfl)) (hR.le (Nat.le_of_ble_eq_true rfl))  v2 v4 N h29 hq) (g_goto (tg := 303) rfl ms_57_303 ?_)
          exact g_vret rfl (hr _ hC)
        · have hp := hp.2 h4
          refine mz_cs hC (fun h5 hC => ?_) (fun h5 hC => ?_)
          · have hp := hp.1 h5
            refine g_br (tg := 139) (by rw [h5]; rfl) ms_57_139 ?_
            refine g_aload_n rfl (g_iload rfl (g_aload_n rfl (g_getR (mz_at hS (Nat.le_of_ble_eq_true rfl) mzcS_1) mzcf_4_3 (mz_rb hR (Nat.le_of_ble_eq_true rfl) rfl mzcR_1_3) (g_getR (mz_at hS (Nat.le_of_ble_eq_true rfl) mzcS_65) mzcf_3_1 (mz_rb hR (Nat.le_of_ble_eq_true rfl) rfl mzcR_65_1) (g_iload_n rfl (g_bipush mzb_24 (g_imul ?_)))))))
            refine g_bipush mzb_24 ?_
            have h28 := hp
            refine g_cpI (Nat.le_of_ble_eq_true rfl) (mz_at hS (Nat.le_of_ble_eq_true rfl) mzcS_223) (mz_at hS (Nat.le_of_ble_eq_true rfl) mzcS_67) h28 (g_goto (tg := 303) rfl ms_57_303 ?_)
            exact g_vret rfl (hr _ hC)
          · have hp := hp.2 h5
            refine mz_cs hC (fun h6 hC => ?_) (fun h6 hC => ?_)
            · have hp := hp.1 h6
              refine g_br (tg := 161) (by rw [h6]; rfl) ms_57_161 ?_
              refine g_goto (tg := 303) rfl ms_57_303 ?_
              exact g_vret rfl (hr _ hC)
            · have hp := hp.2 h6
              refine mz_cs hC (fun h7 hC => ?_) (fun h7 hC => ?_)
              · have hp := hp.1 h7
                refine g_br (tg := 164) (by rw [h7]; rfl) ms_57_164 ?_
                refine g_aload_n rfl (g_getR (mz_at hS (Nat.le_of_ble_eq_true rfl) mzcS_1) mzcf_4_2 (mz_rb hR (Nat.le_of_ble_eq_true rfl) rfl mzcR_1_2) (g_iload_n rfl (g_aload_n rfl (g_iload rfl ?_))))
                have h27 := hp
                refine g_v4n (Nat.le_of_ble_eq_true rfl) (mz_at hS (Nat.le_of_ble_eq_true rfl) mzcS_56) (fun _ hq => cs_62 (Nat.le_trans (Nat.le_of_ble_eq_true rfl) hd) (hS.le (Nat.le_of_ble_eq_true rfl)) (hR.le (Nat.le_of_ble_eq_true rfl))  v2 v4 N h27 hq) (g_goto (tg := 303) rfl ms_57_303 ?_)
                exact g_vret rfl (hr _ hC)
              · have hp := hp.2 h7
                refine mz_cs hC (fun h8 hC => ?_) (fun h8 hC => ?_)
                · have hp := hp.1 h8
                  refine g_br (tg := 178) (by rw [h8]; rfl) ms_57_178 ?_
                  refine g_aload_n rfl (g_getR (mz_at hS (Nat.le_of_ble_eq_true rfl) mzcS_1) mzcf_4_7 (mz_rb hR (Nat.le_of_ble_eq_true rfl) rfl mzcR_1_7) (g_iload_n rfl (g_aload_n rfl (g_iload rfl ?_))))
                  have h26 := hp
                  refine g_v4n (Nat.le_of_ble_eq_true rfl) (mz_at hS (Nat.le_of_ble_eq_true rfl) mzcS_208) (fun _ hq => cs_63 (Nat.le_trans (Nat.le_of_ble_eq_true rfl) hd) (hS.le (Nat.le_of_ble_eq_true rfl)) (hR.le (Nat.le_of_ble_eq_true rfl))  v2 v4 N h26 hq) (g_goto (tg := 303) rfl ms_57_303 ?_)
                  exact g_vret rfl (hr _ hC)
                · have hp := hp.2 h8
                  refine mz_cs hC (fun h9 hC => ?_) (fun h9 hC => ?_)
                  · have hp := hp.1 h9
                    refine g_br (tg := 192) (by rw [h9]; rfl) ms_57_192 ?_
                    refine g_aload_n rfl (g_getR (mz_at hS (Nat.le_of_ble_eq_true rfl) mzcS_1) mzcf_4_7 (mz_rb hR (Nat.le_of_ble_eq_true rfl) rfl mzcR_1_7) (g_aload_n rfl (g_iload rfl ?_)))
                    have h25 := hp
                    refine g_v3n (Nat.le_of_ble_eq_true rfl) (mz_at hS (Nat.le_of_ble_eq_true rfl) mzcS_208) (fun _ hq => cs_64 (Nat.le_trans (Nat.le_of_ble_eq_true rfl) hd) (hS.le (Nat.le_of_ble_eq_true rfl)) (hR.le (Nat.le_of_ble_eq_true rfl))  v4 N h25 hq) (g_goto (tg := 303) rfl ms_57_303 ?_)
                    exact g_vret rfl (hr _ hC)
                  · have hp := hp.2 h9
                    refine mz_cs hC (fun h10 hC => ?_) (fun h10 hC => ?_)
                    · have hp := hp.1 h10
                      refine g_br (tg := 205) (by rw [h10]; rfl) ms_57_205 ?_
                      refine g_aload_n rfl (g_getR (mz_at hS (Nat.le_of_ble_eq_true rfl) mzcS_1) mzcf_4_7 (mz_rb hR (Nat.le_of_ble_eq_true rfl) rfl mzcR_1_7) (g_aload_n rfl (g_iload rfl ?_)))
                      have h24 := hp
                      refine g_v3n (Nat.le_of_ble_eq_true rfl) (mz_at hS (Nat.le_of_ble_eq_true rfl) mzcS_208) (fun _ hq => cs_65 (Nat.le_trans (Nat.le_of_ble_eq_true rfl) hd) (hS.le (Nat.le_of_ble_eq_true rfl)) (hR.le (Nat.le_of_ble_eq_true rfl))  v4 N h24 hq) (g_goto (tg := 303) rfl ms_57_303 ?_)
                      exact g_vret rfl (hr _ hC)
                    · have hp := hp.2 h10
                      refine mz_cs hC (fun h11 hC => ?_) (fun h11 hC => ?_)
                      · have hp := hp.1 h11
                        refine g_br (tg := 218) (by rw [h11]; rfl) ms_57_218 ?_
                        refine g_aload_n rfl (g_getR (mz_at hS (Nat.le_of_ble_eq_true rfl) mzcS_1) mzcf_4_6 (mz_rb hR (Nat.le_of_ble_eq_true rfl) rfl mzcR_1_6) (g_iload_n rfl (g_aload_n rfl (g_iload rfl ?_))))
                        have h23 := hp
                        refine g_v4n (Nat.le_of_ble_eq_true rfl) (mz_at hS (Nat.le_of_ble_eq_true rfl) mzcS_115) (fun _ hq => cs_66 (Nat.le_trans (Nat.le_of_ble_eq_true rfl) hd) (hS.le (Nat.le_of_ble_eq_true rfl)) (hR.le (Nat.le_of_ble_eq_true rfl))  v2 v4 N h23 hq) (g_goto (tg := 303) rfl ms_57_303 ?_)
                        exact g_vret rfl (hr _ hC)
                      · have hp := hp.2 h11
                        refine mz_cs hC (fun h12 hC => ?_) (fun h12 hC => ?_)
                        · have hp := hp.1 h12
                          refine g_br (tg := 232) (by rw [h12]; rfl) ms_57_232 ?_
                          refine g_aload_n rfl (g_getR (mz_at hS (Nat.le_of_ble_eq_true rfl) mzcS_1) mzcf_4_6 (mz_rb hR (Nat.le_of_ble_eq_true rfl) rfl mzcR_1_6) (g_iload_n rfl (g_aload_n rfl (g_iload rfl ?_))))
                          have h22 := hp
                          refine g_v4n (Nat.le_of_ble_eq_true rfl) (mz_at hS (Nat.le_of_ble_eq_true rfl) mzcS_115) (fun _ hq => cs_67 (Nat.le_trans (Nat.le_of_ble_eq_true rfl) hd) (hS.le (Nat.le_of_ble_eq_true rfl)) (hR.le (Nat.le_of_ble_eq_true rfl))  v2 v4 N h22 hq) (g_goto (tg := 303) rfl ms_57_303 ?_)
                          exact g_vret rfl (hr _ hC)
                        · have hp := hp.2 h12
                          refine mz_cs hC (fun h13 hC => ?_) (fun h13 hC => ?_)
                          · have hp := hp.1 h13
                            refine g_br (tg := 246) (by rw [h13]; rfl) ms_57_246 ?_
                            refine g_aload_n rfl (g_getR (mz_at hS (Nat.le_of_ble_eq_true rfl) mzcS_1) mzcf_4_5 (mz_rb hR (Nat.le_of_ble_eq_true rfl) rfl mzcR_1_5) (g_iload_n rfl (g_aload_n rfl (g_iload rfl (g_iconst mzi_1 (g_iadd ?_))))))
                            obtain ⟨h19, hp⟩ := hp
                            refine g_iald hS.1 (mz_at hS (Nat.le_of_ble_eq_true rfl) mzcS_223) h19 (g_aload_n rfl (g_iload rfl (g_iconst mzi_2 (g_iadd ?_))))
                            obtain ⟨h20, hp⟩ := hp
                            refine g_iald hS.1 (mz_at hS (Nat.le_of_ble_eq_true rfl) mzcS_223) h20 ?_
                            have h21 := hp
                            refine g_v4n (Nat.le_of_ble_eq_true rfl) (mz_at hS (Nat.le_of_ble_eq_true rfl) mzcS_100) (fun _ hq => cs_69 (Nat.le_trans (Nat.le_of_ble_eq_true rfl) hd) (hS.le (Nat.le_of_ble_eq_true rfl)) (hR.le (Nat.le_of_ble_eq_true rfl))  v2 (mz_gI N 223 (v4 + 1)) (mz_gI N 223 (v4 + 2)) N h21 hq) (g_goto (tg := 303) rfl ms_57_303 ?_)
                            exact g_vret rfl (hr _ hC)
                          · have hp := hp.2 h13
                            refine mz_cs hC (fun h14 hC => ?_) (fun h14 hC => ?_)
                            · have hp := hp.1 h14
                              refine g_br (tg := 269) (by rw [h14]; rfl) ms_57_269 ?_
                              refine g_aload_n rfl (g_getR (mz_at hS (Nat.le_of_ble_eq_true rfl) mzcS_1) mzcf_4_5 (mz_rb hR (Nat.le_of_ble_eq_true rfl) rfl mzcR_1_5) (g_iload_n rfl (g_aload_n rfl (g_iload rfl ?_))))
                              have h18 := hp
                              refine g_v4n (Nat.le_of_ble_eq_true rfl) (mz_at hS (Nat.le_of_ble_eq_true rfl) mzcS_100) (fun _ hq => cs_70 (Nat.le_trans (Nat.le_of_ble_eq_true rfl) hd) (hS.le (Nat.le_of_ble_eq_true rfl)) (hR.le (Nat.le_of_ble_eq_true rfl))  v2 v4 N h18 hq) (g_goto (tg := 303) rfl ms_57_303 ?_)
                              exact g_vret rfl (hr _ hC)
                            · have hp := hp.2 h14
                              refine g_br (tg := 283) ((mz_tsw_d (l := [1, 2, 3, 4, 5, 6, 7, 8, 9, 10, 11, 12, 13, 14]) (mz_rng 1 13) ⟨h1, h2, h3, h4, h5, h6, h7, h8, h9, h10, h11, h12, h13, h14, trivial⟩).trans (mz_tg_t rfl)) ms_57_283 ?_
                              refine g_aload_n rfl (g_getR (mz_at hS (Nat.le_of_ble_eq_true rfl) mzcS_1) mzcf_4_4 (mz_rb hR (Nat.le_of_ble_eq_true rfl) rfl mzcR_1_4) (g_iload_n rfl (g_aload_n rfl (g_iload rfl (g_iconst mzi_1 (g_iadd ?_))))))
                              obtain ⟨h15, hp⟩ := hp
                              refine g_iald hS.1 (mz_at hS (Nat.le_of_ble_eq_true rfl) mzcS_223) h15 (g_aload_n rfl (g_iload rfl (g_iconst mzi_2 (g_iadd ?_))))
                              obtain ⟨h16, hp⟩ := hp
                              refine g_iald hS.1 (mz_at hS (Nat.le_of_ble_eq_true rfl) mzcS_223) h16 ?_
                              have h17 := hp
                              refine g_v4n (Nat.le_of_ble_eq_true rfl) (mz_at hS (Nat.le_of_ble_eq_true rfl) mzcS_81) (fun _ hq => cs_72 (Nat.le_trans (Nat.le_of_ble_eq_true rfl) hd) (hS.le (Nat.le_of_ble_eq_true rfl)) (hR.le (Nat.le_of_ble_eq_true rfl))  v2 (mz_gI N 223 (v4 + 1)) (mz_gI N 223 (v4 + 2)) N h17 hq) ?_
                              exact g_vret rfl (hr _ hC)
theorem cs_57 (hd : 3 ≤ d) (hS : mz_extR S 232) (hR : mz_rok R 232)  (v1 : Int32) (v2 : Int32) (v4 : Int32) (N : mz_N) (hp : cp_57_0 v1 v2 v4 N) (hq : Q (.inl none) (mz_k S R (cf_57_0 v1 v2 v4 N) b t)) : mz_Ed (mz_X0 L xs) d 57 [.ref 1, .int v1, .int v2, .ref 223, .int v4] (mz_k S R N b t) Q :=
  by
  refine g_in mzq_57 (Nat.le_of_ble_eq_true rfl) (Nat.le_of_ble_eq_true rfl) (Nat.le_trans (Nat.le_of_ble_eq_true rfl) hd) ?_
  refine g_weak ?_ (cg_57_0 (d := d - 1) (by omega) hS hR v1 v2 v4 N (C0 := fun z => Q (.inl none) (mz_k S R z b t)) (fun _ h => h) hp hq)
  exact ⟨rfl, rfl, rfl, rfl, rfl, trivial⟩
/-! 75 KeptHouse$Store.isBlank ([III)Z -/
theorem ms_75_0 : mz_sf mk_75 0 = mk_75 := mz_sf_zero _
theorem ms_75_2 : mz_sf mk_75 2 = mt_75_2 := mz_sf_add ms_75_0 (t := 2) rfl rfl
theorem ms_75_18 : mz_sf mk_75 18 = mt_75_18 := mz_sf_add ms_75_2 (t := 16) rfl rfl
theorem ms_75_24 : mz_sf mk_75 24 = mt_75_24 := mz_sf_add ms_75_18 (t := 6) rfl rfl
set_option maxRecDepth 100000 in
theorem mzq_75 : mz_PG0 75 = some (8, ⟨"KeptHouse$Store", "isBlank", "([III)Z"⟩, prog_10_method_5_code, 4, some .boolean, [], mk_75, []) := rfl
theorem cb_75_2 (hd : 0 ≤ d) (hS : mz_extR S 232) (hR : mz_rok R 232) (a0 : Nat) (hs0 : S[a0]? = some (0, 3780, [])) (v1 : Int32) (N : mz_N) (s : Int32) {C0 : (Bool) → Prop} (hr : ∀ (w : Bool), C0 w → Q (.inl (some (.int (mz_b01 w)))) (mz_k S R N b t)) {C1 : ((Int32) ⊕ (Bool)) → Prop} (hc1 : ∀ s2, C1 (.inl s2) → mz_G (d, mz_X0 L xs, some .boolean, [], mk_75, 4, Q) 2 mt_75_2 [(0, .ref a0), (1, .int v1), (3, .int s2)] [] false (mz_k S R N b t)) (hx1 : ∀ z, C1 (.inr z) → C0 z) (hp : cd_75_2 a0 v1 N s) (hC : C1 (cq_75_2 a0 v1 N s)) : mz_G (d, mz_X0 L xs, some .boolean, [], mk_75, 4, Q) 2 mt_75_2 [(0, .ref a0), (1, .int v1), (3, .int s)] [] false (mz_k S R N b t) := by
  unfold cq_75_2 at hC
  unfold cd_75_2 at hp
  refine g_iload_n rfl (g_bipush mzb_28 ?_)
  refine g_icge (tg := 24) rfl ms_75_24 hC (fun h1 hC => ?_) (fun h1 hC => ?_)
  · have hp := hp.1 h1
    refine g_aload_n rfl (g_iload_n rfl (g_iload_n rfl (g_iadd ?_)))
    have h2 := hp
    refine g_iald hS.1 hs0 h2 ?_
    refine g_ifeq (tg := 18) rfl ms_75_18 hC (fun h3 hC => ?_) (fun h3 hC => ?_)
    · refine g_iinc rfl mzi_1 (Nat.le_of_ble_eq_true rfl) rfl (g_goto (tg := 2) rfl ms_75_2 ?_)
      refine g_weak ?_ (g_cl (hc1 ((s + 1)) hC))
      exact ⟨rfl, rfl, rfl, trivial⟩
    · refine g_iconst mzi_0 ?_
      exact g_zret (z := false) rfl (hr _ (hx1 _ hC))
  · have hp := hp.2 h1
    refine g_iconst mzi_1 ?_
    exact g_zret (z := true) rfl (hr _ (hx1 _ hC))
theorem cg_75_2 (hd : 0 ≤ d) (hS : mz_extR S 232) (hR : mz_rok R 232) (a0 : Nat) (hs0 : S[a0]? = some (0, 3780, [])) (v1 : Int32) (v3 : Int32) (N : mz_N) {C0 : (Bool) → Prop} (hr : ∀ (w : Bool), C0 w → Q (.inl (some (.int (mz_b01 w)))) (mz_k S R N b t)) (hp : cp_75_2 a0 v1 v3 N) (hC : C0 (cf_75_2 a0 v1 v3 N)) : mz_G (d, mz_X0 L xs, some .boolean, [], mk_75, 4, Q) 2 mt_75_2 [(0, .ref a0), (1, .int v1), (3, .int v3)] [] false (mz_k S R N b t) := by
  obtain ⟨n, hn⟩ := hp
  exact g_loop (G := fun s => mz_G (d, mz_X0 L xs, some .boolean, [], mk_75, 4, Q) 2 mt_75_2 [(0, .ref a0), (1, .int v1), (3, .int s)] [] false (mz_k S R N b t)) (C := C0) (fun C2 hc hx s hP hC => cb_75_2 hd hS hR a0 hs0 v1 N s hr hc hx hP hC) n (v3) hn hC
theorem cg_75_0 (hd : 0 ≤ d) (hS : mz_extR S 232) (hR : mz_rok R 232) (a0 : Nat) (hs0 : S[a0]? = some (0, 3780, [])) (v1 : Int32) (v2 : Int32) (N : mz_N) {C0 : (Bool) → Prop} (hr : ∀ (w : Bool), C0 w → Q (.inl (some (.int (mz_b01 w)))) (mz_k S R N b t)) (hp : cp_75_0 a0 v1 v2 N) (hC : C0 (cf_75_0 a0 v1 v2 N)) : mz_G (d, mz_X0 L xs, some .boolean, [], mk_75, 4, Q) 0 mk_75 [(0, .ref a0), (1, .int v1), (2, .int v2)] [] true (mz_k S R N b t) := by
  unfold cf_75_0 at hC
  unfold cp_75_0 at hp
  refine g_iload_n rfl (g_istore_n (Nat.le_of_ble_eq_true rfl) rfl ?_)
  refine g_weak ?_ (g_cl (cg_75_2 hd hS hR a0 hs0 v1 v2 N hr hp hC))
  exact ⟨rfl, rfl, rfl, trivial⟩
theorem cs_75 (hd : 1 ≤ d) (hS : mz_extR S 232) (hR : mz_rok R 232) (a0 : Nat) (hs0 : S[a0]? = some (0, 3780, [])) (v1 : Int32) (v2 : Int32) (N : mz_N) (hp : cp_75_0 a0 v1 v2 N) (hq : Q (.inl (some (.int (mz_b01 (cf_75_0 a0 v1 v2 N))))) (mz_k S R N b t)) : mz_Ed (mz_X0 L xs) d 75 [.ref a0, .int v1, .int v2] (mz_k S R N b t) Q :=
  by
  refine g_in mzq_75 (Nat.le_of_ble_eq_true rfl) (Nat.le_of_ble_eq_true rfl) (Nat.le_trans (Nat.le_of_ble_eq_true rfl) hd) ?_
  refine g_weak ?_ (cg_75_0 (d := d - 1) (by omega) hS hR a0 hs0 v1 v2 N (C0 := fun z => Q (.inl (some (.int (mz_b01 z)))) (mz_k S R N b t)) (fun _ h => h) hp hq)
  exact ⟨rfl, rfl, rfl, trivial⟩
/-! 74 KeptHouse$Program.findText ([II)Z -/
theorem ms_74_0 : mz_sf mk_74 0 = mk_74 := mz_sf_zero _
theorem ms_74_28 : mz_sf mk_74 28 = mt_74_28 := mz_sf_add ms_74_0 (t := 28) rfl rfl
theorem ms_74_30 : mz_sf mk_74 30 = mt_74_30 := mz_sf_add ms_74_28 (t := 2) rfl rfl
theorem ms_74_33 : mz_sf mk_74 33 = mt_74_33 := mz_sf_add ms_74_30 (t := 3) rfl rfl
theorem ms_74_55 : mz_sf mk_74 55 = mt_74_55 := mz_sf_add ms_74_33 (t := 22) rfl rfl
theorem ms_74_72 : mz_sf mk_74 72 = mt_74_72 := mz_sf_add ms_74_55 (t := 17) rfl rfl
theorem ms_74_77 : mz_sf mk_74 77 = mt_74_77 := mz_sf_add ms_74_72 (t := 5) rfl rfl
theorem ms_74_79 : mz_sf mk_74 79 = mt_74_79 := mz_sf_add ms_74_77 (t := 2) rfl rfl
theorem ms_74_94 : mz_sf mk_74 94 = mt_74_94 := mz_sf_add ms_74_79 (t := 15) rfl rfl
set_option maxRecDepth 100000 in
theorem mzq_74 : mz_PG0 74 = some (6, ⟨"KeptHouse$Program", "findText", "([II)Z"⟩, prog_8_method_13_code, 6, some .boolean, [], mk_74, []) := rfl
theorem cg_74_79 (hd : 1 ≤ d) (hS : mz_extR S 232) (hR : mz_rok R 232) (a1 : Nat) (hs1 : S[a1]? = some (0, 3780, [])) (v2 : Int32) (v3 : Int32) (v4 : Int32) (v5 : Int32) (N : mz_N) {C0 : (Bool × mz_N) → Prop} (hr : ∀ (w : Bool) (N2 : mz_N), C0 (w, N2) → Q (.inl (some (.int (mz_b01 w)))) (mz_k S R N2 b t)) {C1 : ((Int32 × mz_N) ⊕ (Bool × mz_N)) → Prop} (hc1 : ∀ s2, C1 (.inl s2) → mz_G (d, mz_X0 L xs, some .boolean, [], mk_74, 6, Q) 33 mt_74_33 [(0, .ref 41), (1, .ref a1), (2, .int v2), (3, .int v3), (4, .int s2.1)] [] false (mz_k S R s2.2 b t)) (hx1 : ∀ z, C1 (.inr z) → C0 z) (hp : cp_74_79 a1 v2 v3 v4 v5 N) (hC : C1 (cf_74_79 a1 v2 v3 v4 v5 N)) : mz_G (d, mz_X0 L xs, some .boolean, [], mk_74, 6, Q) 79 mt_74_79 [(0, .ref 41), (1, .ref a1), (2, .int v2), (3, .int v3), (4, .int v4), (5, .int v5)] [] false (mz_k S R N b t) := by
  unfold cf_74_79 at hC
  unfold cp_74_79 at hp
  refine g_aload_n rfl (g_getR (mz_at hS (Nat.le_of_ble_eq_true rfl) mzcS_41) mzcf_6_8 (mz_rb hR (Nat.le_of_ble_eq_true rfl) rfl mzcR_41_8) (g_iload rfl (g_iload rfl ?_)))
  have h1 := hp
  refine g_iast (mz_at hS (Nat.le_of_ble_eq_true rfl) mzcS_55) h1 (g_iinc rfl mzi_1 (Nat.le_of_ble_eq_true rfl) rfl (g_goto (tg := 33) rfl ms_74_33 ?_))
  refine g_weak ?_ (g_cl (hc1 ((v4 + 1), mz_wI N 55 v4 v5) hC))
  exact ⟨rfl, rfl, rfl, rfl, rfl, trivial⟩
theorem cb_74_33 (hd : 1 ≤ d) (hS : mz_extR S 232) (hR : mz_rok R 232) (a1 : Nat) (hs1 : S[a1]? = some (0, 3780, [])) (v2 : Int32) (v3 : Int32) (s : Int32 × mz_N) {C0 : (Bool × mz_N) → Prop} (hr : ∀ (w : Bool) (N2 : mz_N), C0 (w, N2) → Q (.inl (some (.int (mz_b01 w)))) (mz_k S R N2 b t)) {C1 : ((Int32 × mz_N) ⊕ (Bool × mz_N)) → Prop} (hc1 : ∀ s2, C1 (.inl s2) → mz_G (d, mz_X0 L xs, some .boolean, [], mk_74, 6, Q) 33 mt_74_33 [(0, .ref 41), (1, .ref a1), (2, .int v2), (3, .int v3), (4, .int s2.1)] [] false (mz_k S R s2.2 b t)) (hx1 : ∀ z, C1 (.inr z) → C0 z) (hp : cd_74_33 a1 v2 v3 s) (hC : C1 (cq_74_33 a1 v2 v3 s)) : mz_G (d, mz_X0 L xs, some .boolean, [], mk_74, 6, Q) 33 mt_74_33 [(0, .ref 41), (1, .ref a1), (2, .int v2), (3, .int v3), (4, .int s.1)] [] false (mz_k S R s.2 b t) := by
  unfold cq_74_33 at hC
  unfold cd_74_33 at hp
  refine g_iload rfl (g_sipush mzs_196 ?_)
  refine g_icge (tg := 94) rfl ms_74_94 hC (fun h1 hC => ?_) (fun h1 hC => ?_)
  · have hp := hp.1 h1
    refine g_aload_n rfl (g_iload_n rfl (g_iload rfl (g_iadd ?_)))
    obtain ⟨h2, hp⟩ := hp
    refine g_iald hS.1 hs1 h2 (g_istore (Nat.le_of_ble_eq_true rfl) rfl (g_iload rfl (g_iload_n rfl ?_)))
    refine g_icge (tg := 72) rfl ms_74_72 hC (fun h3 hC => ?_) (fun h3 hC => ?_)
    · have hp := hp.1 h3
      refine g_iload rfl (g_bipush mzb_32 ?_)
      refine g_iclt (tg := 77) rfl ms_74_77 hC (fun h4 hC => ?_) (fun h4 hC => ?_)
      · have hp := hp.1 h4
        refine g_iconst mzi_0 ?_
        exact g_zret (z := false) rfl (hr _ _ (hx1 _ hC))
      · have hp := hp.2 h4
        refine g_iload rfl (g_bipush mzb_126 ?_)
        refine g_icle (tg := 79) rfl ms_74_79 hC (fun h5 hC => ?_) (fun h5 hC => ?_)
        · have hp := hp.1 h5
          refine g_goto (tg := 77) rfl ms_74_77 (g_iconst mzi_0 ?_)
          exact g_zret (z := false) rfl (hr _ _ (hx1 _ hC))
        · have hp := hp.2 h5
          refine g_weak ?_ (g_cl (cg_74_79 hd hS hR a1 hs1 v2 v3 s.1 (mz_gI s.2 a1 (v2 + s.1)) s.2 hr hc1 hx1 hp hC))
          exact ⟨rfl, rfl, rfl, rfl, rfl, rfl, trivial⟩
    · have hp := hp.2 h3
      refine g_iload rfl ?_
      refine g_ifeq (tg := 79) rfl ms_74_79 hC (fun h6 hC => ?_) (fun h6 hC => ?_)
      · have hp := hp.1 h6
        refine g_weak ?_ (g_cl (cg_74_79 hd hS hR a1 hs1 v2 v3 s.1 (mz_gI s.2 a1 (v2 + s.1)) s.2 hr hc1 hx1 hp hC))
        exact ⟨rfl, rfl, rfl, rfl, rfl, rfl, trivial⟩
      · have hp := hp.2 h6
        refine g_iconst mzi_0 ?_
        exact g_zret (z := false) rfl (hr _ _ (hx1 _ hC))
  · have hp := hp.2 h1
    refine g_aload_n rfl (g_iload_n rfl (g_putI (mz_at hS (Nat.le_of_ble_eq_true rfl) mzcS_41) mzcf_6_9 (g_iconst mzi_1 ?_)))
    exact g_zret (z := true) rfl (hr _ _ (hx1 _ hC))
theorem cg_74_33 (hd : 1 ≤ d) (hS : mz_extR S 232) (hR : mz_rok R 232) (a1 : Nat) (hs1 : S[a1]? = some (0, 3780, [])) (v2 : Int32) (v3 : Int32) (v4 : Int32) (N : mz_N) {C0 : (Bool × mz_N) → Prop} (hr : ∀ (w : Bool) (N2 : mz_N), C0 (w, N2) → Q (.inl (some (.int (mz_b01 w)))) (mz_k S R N2 b t)) (hp : cp_74_33 a1 v2 v3 v4 N) (hC : C0 (cf_74_33 a1 v2 v3 v4 N)) : mz_G (d, mz_X0 L xs, some .boolean, [], mk_74, 6, Q) 33 mt_74_33 [(0, .ref 41), (1, .ref a1), (2, .int v2), (3, .int v3), (4, .int v4)] [] false (mz_k S R N b t) := by
  obtain ⟨n, hn⟩ := hp
  exact g_loop (G := fun s => mz_G (d, mz_X0 L xs, some .boolean, [], mk_74, 6, Q) 33 mt_74_33 [(0, .ref 41), (1, .ref a1), (2, .int v2), (3, .int v3), (4, .int s.1)] [] false (mz_k S R s.2 b t)) (C := C0) (fun C2 hc hx s hP hC => cb_74_33 hd hS hR a1 hs1 v2 v3 s hr hc hx hP hC) n (v4, N) hn hC
theorem cg_74_0 (hd : 1 ≤ d) (hS : mz_extR S 232) (hR : mz_rok R 232) (a1 : Nat) (hs1 : S[a1]? = some (0, 3780, [])) (v2 : Int32) (N : mz_N) {C0 : (Bool × mz_N) → Prop} (hr : ∀ (w : Bool) (N2 : mz_N), C0 (w, N2) → Q (.inl (some (.int (mz_b01 w)))) (mz_k S R N2 b t)) (hp : cp_74_0 a1 v2 N) (hC : C0 (cf_74_0 a1 v2 N)) : mz_G (d, mz_X0 L xs, some .boolean, [], mk_74, 6, Q) 0 mk_74 [(0, .ref 41), (1, .ref a1), (2, .int v2)] [] true (mz_k S R N b t) := by
  unfold cf_74_0 at hC
  unfold cp_74_0 at hp
  refine g_aload_n rfl (g_iload_n rfl (g_sipush mzs_196 (g_iadd ?_)))
  obtain ⟨h1, hp⟩ := hp
  refine g_iald hS.1 hs1 h1 (g_istore_n (Nat.le_of_ble_eq_true rfl) rfl (g_iload_n rfl (g_sipush mzs_196 ?_)))
  refine g_icgt (tg := 28) rfl ms_74_28 hC (fun h2 hC => ?_) (fun h2 hC => ?_)
  · have hp := hp.1 h2
    refine g_iconst mzi_0 ?_
    exact g_zret (z := false) rfl (hr _ _ hC)
  · have hp := hp.2 h2
    refine g_aload_n rfl (g_iload_n rfl (g_sipush mzs_196 (g_iadd (g_iconst mzi_1 ?_))))
    obtain ⟨h3, hp⟩ := hp
    refine g_s3v (Nat.le_of_ble_eq_true rfl) (fun _ hq => cs_75 (Nat.le_trans (Nat.le_of_ble_eq_true rfl) hd) (hS.le (Nat.le_of_ble_eq_true rfl)) (hR.le (Nat.le_of_ble_eq_true rfl)) a1 hs1 (v2 + 196) 1 N h3 hq) ?_
    refine g_zne (tg := 30) rfl ms_74_30 hC (fun h4 hC => ?_) (fun h4 hC => ?_)
    · have hp := hp.1 h4
      refine g_iconst mzi_0 (g_istore (Nat.le_of_ble_eq_true rfl) rfl ?_)
      refine g_weak ?_ (g_cl (cg_74_33 hd hS hR a1 hs1 v2 (mz_gI N a1 (v2 + 196)) 0 N hr hp hC))
      exact ⟨rfl, rfl, rfl, rfl, rfl, trivial⟩
    · have hp := hp.2 h4
      refine g_iconst mzi_0 ?_
      exact g_zret (z := false) rfl (hr _ _ hC)
theorem cs_74 (hd : 2 ≤ d) (hS : mz_extR S 232) (hR : mz_rok R 232) (a1 : Nat) (hs1 : S[a1]? = some (0, 3780, [])) (v2 : Int32) (N : mz_N) (hp : cp_74_0 a1 v2 N) (hq : Q (.inl (some (.int (mz_b01 ((cf_74_0 a1 v2 N).1))))) (mz_k S R ((cf_74_0 a1 v2 N).2) b t)) : mz_Ed (mz_X0 L xs) d 74 [.ref 41, .ref a1, .int v2] (mz_k S R N b t) Q :=
  by
  refine g_in mzq_74 (Nat.le_of_ble_eq_true rfl) (Nat.le_of_ble_eq_true rfl) (Nat.le_trans (Nat.le_of_ble_eq_true rfl) hd) ?_
  refine g_weak ?_ (cg_74_0 (d := d - 1) (by omega) hS hR a1 hs1 v2 N (C0 := fun z => Q (.inl (some (.int (mz_b01 z.1)))) (mz_k S R z.2 b t)) (fun _ _ h => h) hp hq)
  exact ⟨rfl, rfl, rfl, trivial⟩
/-! 76 KeptHouse$Program.exchange ()V -/
theorem ms_76_0 : mz_sf mk_76 0 = mk_76 := mz_sf_zero _
set_option maxRecDepth 100000 in
theorem mzq_76 : mz_PG0 76 = some (6, ⟨"KeptHouse$Program", "exchange", "()V"⟩, prog_8_method_5_code, 2, none, [], mk_76, []) := rfl
theorem cs_76 (hd : 4 ≤ d) (hS : mz_extR S 232) (hR : mz_rok R 232) (N : mz_N) (b : Bool) (hp : cp_76_0 N b) (hq : Q (.inl none) (mz_k S R (cf_76_0 N b).1 (cf_76_0 N b).2 t)) : mz_Ed (mz_X0 L xs) d 76 [.ref 41] (mz_k S R N b t) Q :=
  by
  refine g_in mzq_76 (Nat.le_of_ble_eq_true rfl) (Nat.le_of_ble_eq_true rfl) (Nat.le_trans (Nat.le_of_ble_eq_true rfl) hd) ?_
  refine g_weak (lv' := [(0, .ref 41)]) ⟨rfl, trivial⟩ ?_
  refine g_aload_n rfl (g_getR (mz_at hS (Nat.le_of_ble_eq_true rfl) mzcS_41) mzcf_6_2 (mz_rb_lv b hR (Nat.le_of_ble_eq_true rfl)) (g_astore_n (Nat.le_of_ble_eq_true rfl) rfl (g_aload_n rfl (g_aload_n rfl (g_getR (mz_at hS (Nat.le_of_ble_eq_true rfl) mzcS_41) mzcf_6_3 (mz_rb_ot b hR (Nat.le_of_ble_eq_true rfl)) ?_)))))
  refine g_xch1 (mz_at hS (Nat.le_of_ble_eq_true rfl) mzcS_41) mzcf_6_2 (g_aload_n rfl (g_aload_n rfl (g_xch2 hR (Nat.le_of_ble_eq_true rfl) (mz_at hS (Nat.le_of_ble_eq_true rfl) mzcS_41) mzcf_6_3 ?_)))
  refine g_aload_n rfl (g_v1n (Nat.le_of_ble_eq_true rfl) (mz_at hS (Nat.le_of_ble_eq_true rfl) mzcS_41) (fun _ hq => cs_44 (Nat.le_trans (n := 3) (Nat.le_of_ble_eq_true rfl) (Nat.le_sub_one_of_lt hd)) (hS.le (Nat.le_of_ble_eq_true rfl)) (hR.le (Nat.le_of_ble_eq_true rfl)) N hp hq) ?_)
  exact g_vret rfl hq
/-! 73 KeptHouse$Program.restore ([II)V -/
theorem ms_73_0 : mz_sf mk_73 0 = mk_73 := mz_sf_zero _
theorem ms_73_27 : mz_sf mk_73 27 = mt_73_27 := mz_sf_add ms_73_0 (t := 27) rfl rfl
theorem ms_73_31 : mz_sf mk_73 31 = mt_73_31 := mz_sf_add ms_73_27 (t := 4) rfl rfl
set_option maxRecDepth 100000 in
theorem mzq_73 : mz_PG0 73 = some (6, ⟨"KeptHouse$Program", "restore", "([II)V"⟩, prog_8_method_14_code, 3, none, [], mk_73, []) := rfl
theorem cg_73_31 (hd : 5 ≤ d) (hS : mz_extR S 232) (hR : mz_rok R 232)  (N : mz_N) (b : Bool) {C0 : (mz_N × Bool) → Prop} (hr : ∀ (N2 : mz_N) (b2 : Bool), C0 (N2, b2) → Q (.inl none) (mz_k S R N2 b2 t)) (hp : cp_73_31 N b) (hC : C0 (cf_73_31 N b)) : mz_G (d, mz_X0 L xs, none, [], mk_73, 3, Q) 31 mt_73_31 [] [] false (mz_k S R N b t) := by
  unfold cf_73_31 at hC
  unfold cp_73_31 at hp
  exact g_vret rfl (hr _ _ hC)
theorem cg_73_27 (hd : 5 ≤ d) (hS : mz_extR S 232) (hR : mz_rok R 232)  (N : mz_N) (b : Bool) {C0 : (mz_N × Bool) → Prop} (hr : ∀ (N2 : mz_N) (b2 : Bool), C0 (N2, b2) → Q (.inl none) (mz_k S R N2 b2 t)) (hp : cp_73_27 N b) (hC : C0 (cf_73_27 N b)) : mz_G (d, mz_X0 L xs, none, [], mk_73, 3, Q) 27 mt_73_27 [(0, .ref 41)] [] false (mz_k S R N b t) := by
  unfold cf_73_27 at hC
  unfold cp_73_27 at hp
  refine g_aload_n rfl ?_
  obtain ⟨h1, hp⟩ := hp
  refine g_v1n (Nat.le_of_ble_eq_true rfl) (mz_at hS (Nat.le_of_ble_eq_true rfl) mzcS_41) (fun _ hq => cs_76 (Nat.le_trans (Nat.le_of_ble_eq_true rfl) hd) (hS.le (Nat.le_of_ble_eq_true rfl)) (hR.le (Nat.le_of_ble_eq_true rfl))  N b h1 hq) ?_
  refine g_weak ?_ (g_cl (cg_73_31 hd hS hR ((cf_76_0 N b).1) ((cf_76_0 N b).2) hr hp hC))
  exact trivial
theorem cg_73_0 (hd : 5 ≤ d) (hS : mz_extR S 232) (hR : mz_rok R 232)  (v2 : Int32) (N : mz_N) (b : Bool) {C0 : (mz_N × Bool) → Prop} (hr : ∀ (N2 : mz_N) (b2 : Bool), C0 (N2, b2) → Q (.inl none) (mz_k S R N2 b2 t)) (hp : cp_73_0 v2 N b) (hC : C0 (cf_73_0 v2 N b)) : mz_G (d, mz_X0 L xs, none, [], mk_73, 3, Q) 0 mk_73 [(0, .ref 41), (1, .ref 223), (2, .int v2)] [] true (mz_k S R N b t) := by
  unfold cf_73_0 at hC
  unfold cp_73_0 at hp
  refine g_aload_n rfl (g_aload_n rfl (g_iload_n rfl ?_))
  obtain ⟨h1, hp⟩ := hp
  refine g_v3v (Nat.le_of_ble_eq_true rfl) (mz_at hS (Nat.le_of_ble_eq_true rfl) mzcS_41) (fun _ hq => cs_74 (Nat.le_trans (Nat.le_of_ble_eq_true rfl) hd) (hS.le (Nat.le_of_ble_eq_true rfl)) (hR.le (Nat.le_of_ble_eq_true rfl)) 223 (mz_at hS (Nat.le_of_ble_eq_true rfl) mzcS_223) v2 N h1 hq) ?_
  refine g_zeq (tg := 31) rfl ms_73_31 hC (fun h2 hC => ?_) (fun h2 hC => ?_)
  · have hp := hp.1 h2
    refine g_aload_n rfl (g_getR (mz_at hS (Nat.le_of_ble_eq_true rfl) mzcS_41) mzcf_6_3 (mz_rb_ot b hR (Nat.le_of_ble_eq_true rfl)) (g_aload_n rfl (g_getR (mz_at hS (Nat.le_of_ble_eq_true rfl) mzcS_41) mzcf_6_8 (mz_rb hR (Nat.le_of_ble_eq_true rfl) rfl mzcR_41_8) (g_aload_n rfl (g_getI (mz_at hS (Nat.le_of_ble_eq_true rfl) mzcS_41) mzcf_6_9 ?_)))))
    obtain ⟨h3, hp⟩ := hp
    refine g_v3v (Nat.le_of_ble_eq_true rfl) (mz_at hS (mz_oL0 (mz_ot_or b) (Nat.le_of_ble_eq_true rfl)) (mz_oA0 (mz_ot_or b))) (fun _ hq => cs_23 (Nat.le_trans (Nat.le_of_ble_eq_true rfl) hd) (hS.le (Nat.le_of_ble_eq_true rfl)) (hR.le (Nat.le_of_ble_eq_true rfl)) (mz_ot b) 55 (mz_ot_or b) (mz_at hS (Nat.le_of_ble_eq_true rfl) mzcS_55) (((cf_74_0 223 v2 N).2).1 41 9) ((cf_74_0 223 v2 N).2) h3 hq) ?_
    refine g_zeq (tg := 31) rfl ms_73_31 hC (fun h4 hC => ?_) (fun h4 hC => ?_)
    · have hp := hp.1 h4
      refine g_weak ?_ (g_cl (cg_73_27 hd hS hR ((cf_23_0 (mz_ot b) 55 (((cf_74_0 223 v2 N).2).1 41 9) ((cf_74_0 223 v2 N).2)).2) b hr hp hC))
      exact ⟨rfl, trivial⟩
    · have hp := hp.2 h4
      refine g_weak ?_ (g_cl (cg_73_31 hd hS hR ((cf_23_0 (mz_ot b) 55 (((cf_74_0 223 v2 N).2).1 41 9) ((cf_74_0 223 v2 N).2)).2) b hr hp hC))
      exact trivial
  · have hp := hp.2 h2
    refine g_weak ?_ (g_cl (cg_73_31 hd hS hR ((cf_74_0 223 v2 N).2) b hr hp hC))
    exact trivial
theorem cs_73 (hd : 6 ≤ d) (hS : mz_extR S 232) (hR : mz_rok R 232)  (v2 : Int32) (N : mz_N) (b : Bool) (hp : cp_73_0 v2 N b) (hq : Q (.inl none) (mz_k S R ((cf_73_0 v2 N b).1) ((cf_73_0 v2 N b).2) t)) : mz_Ed (mz_X0 L xs) d 73 [.ref 41, .ref 223, .int v2] (mz_k S R N b t) Q :=
  by
  refine g_in mzq_73 (Nat.le_of_ble_eq_true rfl) (Nat.le_of_ble_eq_true rfl) (Nat.le_trans (Nat.le_of_ble_eq_true rfl) hd) ?_
  refine g_weak ?_ (cg_73_0 (d := d - 1) (by omega) hS hR v2 N b (C0 := fun z => Q (.inl none) (mz_k S R z.1 z.2 t)) (fun _ _ h => h) hp hq)
  exact ⟨rfl, rfl, rfl, trivial⟩
end Fn2
