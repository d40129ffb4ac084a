/-! THE FUNCTIONS: written by program: what each method comes to. -/
section Fn1
variable {L : Nat} {xs : Nat → Int32} {d : Nat} {S : mz_S} {R : Nat → Nat → Option Nat} {Q : mz_Q} {N : mz_N} {b : Bool} {t : Nat}
/-! 88 KeptHouse$Plan.listPairs ()V -/
theorem ms_88_0 : mz_sf mk_88 0 = mk_88 := mz_sf_zero _
theorem ms_88_7 : mz_sf mk_88 7 = mt_88_7 := mz_sf_add ms_88_0 (t := 7) rfl rfl
theorem ms_88_19 : mz_sf mk_88 19 = mt_88_19 := mz_sf_add ms_88_7 (t := 12) rfl rfl
theorem ms_88_39 : mz_sf mk_88 39 = mt_88_39 := mz_sf_add ms_88_19 (t := 20) rfl rfl
theorem ms_88_67 : mz_sf mk_88 67 = mt_88_67 := mz_sf_add ms_88_39 (t := 28) rfl rfl
theorem ms_88_89 : mz_sf mk_88 89 = mt_88_89 := mz_sf_add ms_88_67 (t := 22) rfl rfl
theorem ms_88_95 : mz_sf mk_88 95 = mt_88_95 := mz_sf_add ms_88_89 (t := 6) rfl rfl
theorem ms_88_101 : mz_sf mk_88 101 = mt_88_101 := mz_sf_add ms_88_95 (t := 6) rfl rfl
set_option maxRecDepth 100000 in
theorem mzq_88 : mz_PG0 88 = some (5, ⟨"KeptHouse$Plan", "listPairs", "()V"⟩, prog_7_method_30_code, 4, none, [], mk_88, []) := rfl
noncomputable def cf_88_89 (v1 : Int32) (v2 : Int32) (N : mz_N) : ((Int32 × mz_N) ⊕ ((Int32 × mz_N) ⊕ (mz_N))) := (.inl ((v2 + 1), N))
def cp_88_89 (v1 : Int32) (v2 : Int32) (N : mz_N) : Prop := True
theorem cg_88_89 (hd : 0 ≤ d) (hS : mz_ext S 232) (hR : mz_rok R 232)  (v1 : Int32) (v2 : Int32) (N : mz_N) {C0 : (mz_N) → Prop} (hr : ∀ (N2 : mz_N), C0 N2 → Q (.inl none) (mz_k S R N2 b t)) {C1 : ((Int32 × mz_N) ⊕ (mz_N)) → Prop} (hc1 : ∀ s2, C1 (.inl s2) → mz_G (d, mz_X0 L xs, none, [], mk_88, 4, Q) 7 mt_88_7 [(0, .ref 2), (1, .int s2.1)] [] false (mz_k S R s2.2 b t)) (hx1 : ∀ z, C1 (.inr z) → C0 z) {C2 : ((Int32 × mz_N) ⊕ ((Int32 × mz_N) ⊕ (mz_N))) → Prop} (hc2 : ∀ s2, C2 (.inl s2) → mz_G (d, mz_X0 L xs, none, [], mk_88, 4, Q) 19 mt_88_19 [(0, .ref 2), (1, .int v1), (2, .int s2.1)] [] false (mz_k S R s2.2 b t)) (hx2 : ∀ z, C2 (.inr z) → C1 z) (hp : cp_88_89 v1 v2 N) (hC : C2 (cf_88_89 v1 v2 N)) : mz_G (d, mz_X0 L xs, none, [], mk_88, 4, Q) 89 mt_88_89 [(0, .ref 2), (1, .int v1), (2, .int v2)] [] false (mz_k S R N b t) := by
  unfold cf_88_89 at hC
  unfold cp_88_89 at hp
  refine g_iinc rfl mzi_1 (Nat.le_of_ble_eq_true rfl) rfl (g_goto (tg := 19) rfl ms_88_19 ?_)
  refine g_weak ?_ (g_cl (hc2 _ hC))
  exact ⟨rfl, rfl, rfl, trivial⟩
noncomputable def cf_88_67 (v1 : Int32) (v2 : Int32) (v3 : Int32) (N : mz_N) : ((Int32 × mz_N) ⊕ ((Int32 × mz_N) ⊕ (mz_N))) := (cf_88_89 v1 v2 (mz_pI (mz_wI N 35 (N.1 2 13) v3) 2 13 (((mz_wI N 35 (N.1 2 13) v3).1 2 13) + 1)))
def cp_88_67 (v1 : Int32) (v2 : Int32) (v3 : Int32) (N : mz_N) : Prop := (mz_ib (N.1 2 13) 780) ∧ (cp_88_89 v1 v2 (mz_pI (mz_wI N 35 (N.1 2 13) v3) 2 13 (((mz_wI N 35 (N.1 2 13) v3).1 2 13) + 1)))
theorem cg_88_67 (hd : 0 ≤ d) (hS : mz_ext S 232) (hR : mz_rok R 232)  (v1 : Int32) (v2 : Int32) (v3 : Int32) (N : mz_N) {C0 : (mz_N) → Prop} (hr : ∀ (N2 : mz_N), C0 N2 → Q (.inl none) (mz_k S R N2 b t)) {C1 : ((Int32 × mz_N) ⊕ (mz_N)) → Prop} (hc1 : ∀ s2, C1 (.inl s2) → mz_G (d, mz_X0 L xs, none, [], mk_88, 4, Q) 7 mt_88_7 [(0, .ref 2), (1, .int s2.1)] [] false (mz_k S R s2.2 b t)) (hx1 : ∀ z, C1 (.inr z) → C0 z) {C2 : ((Int32 × mz_N) ⊕ ((Int32 × mz_N) ⊕ (mz_N))) → Prop} (hc2 : ∀ s2, C2 (.inl s2) → mz_G (d, mz_X0 L xs, none, [], mk_88, 4, Q) 19 mt_88_19 [(0, .ref 2), (1, .int v1), (2, .int s2.1)] [] false (mz_k S R s2.2 b t)) (hx2 : ∀ z, C2 (.inr z) → C1 z) (hp : cp_88_67 v1 v2 v3 N) (hC : C2 (cf_88_67 v1 v2 v3 N)) : mz_G (d, mz_X0 L xs, none, [], mk_88, 4, Q) 67 mt_88_67 [(0, .ref 2), (1, .int v1), (2, .int v2), (3, .int v3)] [] false (mz_k S R N b t) := by
  unfold cf_88_67 at hC
  unfold cp_88_67 at hp
  refine g_aload_n rfl (g_getR (mz_at hS (Nat.le_of_ble_eq_true rfl) mzcS_2) mzcf_5_12 (mz_rb hR (Nat.le_of_ble_eq_true rfl) rfl mzcR_2_12) (g_iconst mzi_2 (g_aald4 (m := 35) (mz_at hS (Nat.le_of_ble_eq_true rfl) mzcS_32) (mz_ibd (by decide)) (mz_rb hR (Nat.le_of_ble_eq_true rfl) rfl mzcRr_32_2) (g_aload_n rfl (g_getI (mz_at hS (Nat.le_of_ble_eq_true rfl) mzcS_2) mzcf_5_13 (g_iload_n rfl ?_))))))
  obtain ⟨h1, hp⟩ := hp
  refine g_iast (mz_at hS (Nat.le_of_ble_eq_true rfl) mzcS_35) h1 (g_aload_n rfl (g_dup rfl (g_getI (mz_at hS (Nat.le_of_ble_eq_true rfl) mzcS_2) mzcf_5_13 (g_iconst mzi_1 (g_iadd (g_putI (mz_at hS (Nat.le_of_ble_eq_true rfl) mzcS_2) mzcf_5_13 ?_))))))
  refine g_weak ?_ (g_cl (cg_88_89 hd hS hR v1 v2 (mz_pI (mz_wI N 35 (N.1 2 13) v3) 2 13 (((mz_wI N 35 (N.1 2 13) v3).1 2 13) + 1)) hr hc1 hx1 hc2 hx2 hp hC))
  exact ⟨rfl, rfl, rfl, trivial⟩
noncomputable def cq_88_19 (v1 : Int32) (s : Int32 × mz_N) : ((Int32 × mz_N) ⊕ ((Int32 × mz_N) ⊕ (mz_N))) := if s.1 < (s.2.1 2 7) then (if 0 < (mz_gI s.2 31 ((v1 * 40) + s.1)) then (cf_88_67 v1 s.1 (mz_gI s.2 31 ((v1 * 40) + s.1)) (mz_wI (mz_wI s.2 33 (s.2.1 2 13) v1) 34 ((mz_wI s.2 33 (s.2.1 2 13) v1).1 2 13) s.1)) else (cf_88_89 v1 s.1 s.2)) else (.inr (.inl ((v1 + 1), s.2)))
def cd_88_19 (v1 : Int32) (s : Int32 × mz_N) : Prop := (s.1 < (s.2.1 2 7) → ((mz_ib ((v1 * 40) + s.1) 1600) ∧ ((0 < (mz_gI s.2 31 ((v1 * 40) + s.1)) → ((mz_ib (s.2.1 2 13) 780) ∧ ((mz_ib ((mz_wI s.2 33 (s.2.1 2 13) v1).1 2 13) 780) ∧ (cp_88_67 v1 s.1 (mz_gI s.2 31 ((v1 * 40) + s.1)) (mz_wI (mz_wI s.2 33 (s.2.1 2 13) v1) 34 ((mz_wI s.2 33 (s.2.1 2 13) v1).1 2 13) s.1))))) ∧ (¬ (0 < (mz_gI s.2 31 ((v1 * 40) + s.1))) → (cp_88_89 v1 s.1 s.2))))) ∧ (¬ (s.1 < (s.2.1 2 7)) → True)
noncomputable def cf_88_19 (v1 : Int32) (v2 : Int32) (N : mz_N) : ((Int32 × mz_N) ⊕ (mz_N)) := mz_run (cq_88_19 v1) (v2, N)
def cp_88_19 (v1 : Int32) (v2 : Int32) (N : mz_N) : Prop := ∃ n, mz_ok (cq_88_19 v1) (cd_88_19 v1) n (v2, N)
theorem cb_88_19 (hd : 0 ≤ d) (hS : mz_ext S 232) (hR : mz_rok R 232)  (v1 : Int32) (s : Int32 × mz_N) {C0 : (mz_N) → Prop} (hr : ∀ (N2 : mz_N), C0 N2 → Q (.inl none) (mz_k S R N2 b t)) {C1 : ((Int32 × mz_N) ⊕ (mz_N)) → Prop} (hc1 : ∀ s2, C1 (.inl s2) → mz_G (d, mz_X0 L xs, none, [], mk_88, 4, Q) 7 mt_88_7 [(0, .ref 2), (1, .int s2.1)] [] false (mz_k S R s2.2 b t)) (hx1 : ∀ z, C1 (.inr z) → C0 z) {C2 : ((Int32 × mz_N) ⊕ ((Int32 × mz_N) ⊕ (mz_N))) → Prop} (hc2 : ∀ s2, C2 (.inl s2) → mz_G (d, mz_X0 L xs, none, [], mk_88, 4, Q) 19 mt_88_19 [(0, .ref 2), (1, .int v1), (2, .int s2.1)] [] false (mz_k S R s2.2 b t)) (hx2 : ∀ z, C2 (.inr z) → C1 z) (hp : cd_88_19 v1 s) (hC : C2 (cq_88_19 v1 s)) : mz_G (d, mz_X0 L xs, none, [], mk_88, 4, Q) 19 mt_88_19 [(0, .ref 2), (1, .int v1), (2, .int s.1)] [] false (mz_k S R s.2 b t) := by
  unfold cq_88_19 at hC
  unfold cd_88_19 at hp
  refine g_iload_n rfl (g_aload_n rfl (g_getI (mz_at hS (Nat.le_of_ble_eq_true rfl) mzcS_2) mzcf_5_7 ?_))
  refine g_icge (tg := 95) rfl ms_88_95 hC (fun h1 hC => ?_) (fun h1 hC => ?_)
  · have hp := hp.1 h1
    refine g_aload_n rfl (g_getR (mz_at hS (Nat.le_of_ble_eq_true rfl) mzcS_2) mzcf_5_11 (mz_rb hR (Nat.le_of_ble_eq_true rfl) rfl mzcR_2_11) (g_iload_n rfl (g_bipush mzb_40 (g_imul (g_iload_n rfl (g_iadd ?_))))))
    obtain ⟨h2, hp⟩ := hp
    refine g_iald hS.1 (mz_at hS (Nat.le_of_ble_eq_true rfl) mzcS_31) h2 (g_istore_n (Nat.le_of_ble_eq_true rfl) rfl (g_iload_n rfl ?_))
    refine g_ifle (tg := 89) rfl ms_88_89 hC (fun h3 hC => ?_) (fun h3 hC => ?_)
    · have hp := hp.1 h3
      refine g_aload_n rfl (g_getR (mz_at hS (Nat.le_of_ble_eq_true rfl) mzcS_2) mzcf_5_12 (mz_rb hR (Nat.le_of_ble_eq_true rfl) rfl mzcR_2_12) (g_iconst mzi_0 (g_aald4 (m := 33) (mz_at hS (Nat.le_of_ble_eq_true rfl) mzcS_32) (mz_ibd (by decide)) (mz_rb hR (Nat.le_of_ble_eq_true rfl) rfl mzcRr_32_0) (g_aload_n rfl (g_getI (mz_at hS (Nat.le_of_ble_eq_true rfl) mzcS_2) mzcf_5_13 (g_iload_n rfl ?_))))))
      obtain ⟨h4, hp⟩ := hp
      refine g_iast (mz_at hS (Nat.le_of_ble_eq_true rfl) mzcS_33) h4 (g_aload_n rfl (g_getR (mz_at hS (Nat.le_of_ble_eq_true rfl) mzcS_2) mzcf_5_12 (mz_rb hR (Nat.le_of_ble_eq_true rfl) rfl mzcR_2_12) (g_iconst mzi_1 (g_aald4 (m := 34) (mz_at hS (Nat.le_of_ble_eq_true rfl) mzcS_32) (mz_ibd (by decide)) (mz_rb hR (Nat.le_of_ble_eq_true rfl) rfl mzcRr_32_1) (g_aload_n rfl (g_getI (mz_at hS (Nat.le_of_ble_eq_true rfl) mzcS_2) mzcf_5_13 (g_iload_n rfl ?_)))))))
      obtain ⟨h5, hp⟩ := hp
      refine g_iast (mz_at hS (Nat.le_of_ble_eq_true rfl) mzcS_34) h5 ?_
      refine g_weak ?_ (g_cl (cg_88_67 hd hS hR v1 s.1 (mz_gI s.2 31 ((v1 * 40) + s.1)) (mz_wI (mz_wI s.2 33 (s.2.1 2 13) v1) 34 ((mz_wI s.2 33 (s.2.1 2 13) v1).1 2 13) s.1) hr hc1 hx1 hc2 hx2 hp hC))
      exact ⟨rfl, rfl, rfl, rfl, trivial⟩
    · have hp := hp.2 h3
      refine g_weak ?_ (g_cl (cg_88_89 hd hS hR v1 s.1 s.2 hr hc1 hx1 hc2 hx2 hp hC))
      exact ⟨rfl, rfl, rfl, trivial⟩
  · have hp := hp.2 h1
    refine g_iinc rfl mzi_1 (Nat.le_of_ble_eq_true rfl) rfl (g_goto (tg := 7) rfl ms_88_7 ?_)
    refine g_weak ?_ (g_cl (hc1 _ (hx2 _ hC)))
    exact ⟨rfl, rfl, trivial⟩
theorem cg_88_19 (hd : 0 ≤ d) (hS : mz_ext S 232) (hR : mz_rok R 232)  (v1 : Int32) (v2 : Int32) (N : mz_N) {C0 : (mz_N) → Prop} (hr : ∀ (N2 : mz_N), C0 N2 → Q (.inl none) (mz_k S R N2 b t)) {C1 : ((Int32 × mz_N) ⊕ (mz_N)) → Prop} (hc1 : ∀ s2, C1 (.inl s2) → mz_G (d, mz_X0 L xs, none, [], mk_88, 4, Q) 7 mt_88_7 [(0, .ref 2), (1, .int s2.1)] [] false (mz_k S R s2.2 b t)) (hx1 : ∀ z, C1 (.inr z) → C0 z) (hp : cp_88_19 v1 v2 N) (hC : C1 (cf_88_19 v1 v2 N)) : mz_G (d, mz_X0 L xs, none, [], mk_88, 4, Q) 19 mt_88_19 [(0, .ref 2), (1, .int v1), (2, .int v2)] [] false (mz_k S R N b t) := by
  obtain ⟨n, hn⟩ := hp
  exact g_loop (G := fun s => mz_G (d, mz_X0 L xs, none, [], mk_88, 4, Q) 19 mt_88_19 [(0, .ref 2), (1, .int v1), (2, .int s.1)] [] false (mz_k S R s.2 b t)) (C := C1) (fun C2 hc hx s hP hC => cb_88_19 hd hS hR v1 s hr hc1 hx1 hc hx hP hC) n (v2, N) hn hC
noncomputable def cq_88_7  (s : Int32 × mz_N) : ((Int32 × mz_N) ⊕ (mz_N)) := if s.1 < (s.2.1 2 7) then (cf_88_19 s.1 (s.1 + 1) s.2) else (.inr s.2)
def cd_88_7  (s : Int32 × mz_N) : Prop := (s.1 < (s.2.1 2 7) → (cp_88_19 s.1 (s.1 + 1) s.2)) ∧ (¬ (s.1 < (s.2.1 2 7)) → True)
noncomputable def cf_88_7 (v1 : Int32) (N : mz_N) : (mz_N) := mz_run (cq_88_7 ) (v1, N)
def cp_88_7 (v1 : Int32) (N : mz_N) : Prop := ∃ n, mz_ok (cq_88_7 ) (cd_88_7 ) n (v1, N)
theorem cb_88_7 (hd : 0 ≤ d) (hS : mz_ext S 232) (hR : mz_rok R 232)   (s : Int32 × mz_N) {C0 : (mz_N) → Prop} (hr : ∀ (N2 : mz_N), C0 N2 → Q (.inl none) (mz_k S R N2 b t)) {C1 : ((Int32 × mz_N) ⊕ (mz_N)) → Prop} (hc1 : ∀ s2, C1 (.inl s2) → mz_G (d, mz_X0 L xs, none, [], mk_88, 4, Q) 7 mt_88_7 [(0, .ref 2), (1, .int s2.1)] [] false (mz_k S R s2.2 b t)) (hx1 : ∀ z, C1 (.inr z) → C0 z) (hp : cd_88_7  s) (hC : C1 (cq_88_7  s)) : mz_G (d, mz_X0 L xs, none, [], mk_88, 4, Q) 7 mt_88_7 [(0, .ref 2), (1, .int s.1)] [] false (mz_k S R s.2 b t) := by
  unfold cq_88_7 at hC
  unfold cd_88_7 at hp
  refine g_iload_n rfl (g_aload_n rfl (g_getI (mz_at hS (Nat.le_of_ble_eq_true rfl) mzcS_2) mzcf_5_7 ?_))
  refine g_icge (tg := 101) rfl ms_88_101 hC (fun h1 hC => ?_) (fun h1 hC => ?_)
  · have hp := hp.1 h1
    refine g_iload_n rfl (g_iconst mzi_1 (g_iadd (g_istore_n (Nat.le_of_ble_eq_true rfl) rfl ?_)))
    refine g_weak ?_ (g_cl (cg_88_19 hd hS hR s.1 (s.1 + 1) s.2 hr hc1 hx1 hp hC))
    exact ⟨rfl, rfl, rfl, trivial⟩
  · have hp := hp.2 h1
    exact g_vret rfl (hr _ (hx1 _ hC))
theorem cg_88_7 (hd : 0 ≤ d) (hS : mz_ext S 232) (hR : mz_rok R 232)  (v1 : Int32) (N : mz_N) {C0 : (mz_N) → Prop} (hr : ∀ (N2 : mz_N), C0 N2 → Q (.inl none) (mz_k S R N2 b t)) (hp : cp_88_7 v1 N) (hC : C0 (cf_88_7 v1 N)) : mz_G (d, mz_X0 L xs, none, [], mk_88, 4, Q) 7 mt_88_7 [(0, .ref 2), (1, .int v1)] [] false (mz_k S R N b t) := by
  obtain ⟨n, hn⟩ := hp
  exact g_loop (G := fun s => mz_G (d, mz_X0 L xs, none, [], mk_88, 4, Q) 7 mt_88_7 [(0, .ref 2), (1, .int s.1)] [] false (mz_k S R s.2 b t)) (C := C0) (fun C2 hc hx s hP hC => cb_88_7 hd hS hR  s hr hc hx hP hC) n (v1, N) hn hC
noncomputable def cf_88_0 (N : mz_N) : (mz_N) := (cf_88_7 0 (mz_pI N 2 13 0))
def cp_88_0 (N : mz_N) : Prop := cp_88_7 0 (mz_pI N 2 13 0)
theorem cg_88_0 (hd : 0 ≤ d) (hS : mz_ext S 232) (hR : mz_rok R 232)  (N : mz_N) {C0 : (mz_N) → Prop} (hr : ∀ (N2 : mz_N), C0 N2 → Q (.inl none) (mz_k S R N2 b t)) (hp : cp_88_0 N) (hC : C0 (cf_88_0 N)) : mz_G (d, mz_X0 L xs, none, [], mk_88, 4, Q) 0 mk_88 [(0, .ref 2)] [] true (mz_k S R N b t) := by
  unfold cf_88_0 at hC
  unfold cp_88_0 at hp
  refine g_aload_n rfl (g_iconst mzi_0 (g_putI (mz_at hS (Nat.le_of_ble_eq_true rfl) mzcS_2) mzcf_5_13 (g_iconst mzi_0 (g_istore_n (Nat.le_of_ble_eq_true rfl) rfl ?_))))
  refine g_weak ?_ (g_cl (cg_88_7 hd hS hR 0 (mz_pI N 2 13 0) hr hp hC))
  exact ⟨rfl, rfl, trivial⟩
theorem cs_88 (hd : 1 ≤ d) (hS : mz_ext S 232) (hR : mz_rok R 232)  (N : mz_N) (hp : cp_88_0 N) (hq : Q (.inl none) (mz_k S R (cf_88_0 N) b t)) : mz_Ed (mz_X0 L xs) d 88 [.ref 2] (mz_k S R N b t) Q :=
  by
  refine g_in mzq_88 (Nat.le_of_ble_eq_true rfl) (Nat.le_of_ble_eq_true rfl) (Nat.le_trans (Nat.le_of_ble_eq_true rfl) hd) ?_
  refine g_weak ?_ (cg_88_0 (d := d - 1) (by omega) hS hR N (C0 := fun z => Q (.inl none) (mz_k S R z b t)) (fun _ h => h) hp hq)
  exact ⟨rfl, trivial⟩
/-! 89 KeptHouse$Plan.findHearts ()V -/
theorem ms_89_0 : mz_sf mk_89 0 = mk_89 := mz_sf_zero _
theorem ms_89_18 : mz_sf mk_89 18 = mt_89_18 := mz_sf_add ms_89_0 (t := 18) rfl rfl
theorem ms_89_41 : mz_sf mk_89 41 = mt_89_41 := mz_sf_add ms_89_18 (t := 23) rfl rfl
theorem ms_89_58 : mz_sf mk_89 58 = mt_89_58 := mz_sf_add ms_89_41 (t := 17) rfl rfl
theorem ms_89_75 : mz_sf mk_89 75 = mt_89_75 := mz_sf_add ms_89_58 (t := 17) rfl rfl
theorem ms_89_81 : mz_sf mk_89 81 = mt_89_81 := mz_sf_add ms_89_75 (t := 6) rfl rfl
set_option maxRecDepth 100000 in
theorem mzq_89 : mz_PG0 89 = some (5, ⟨"KeptHouse$Plan", "findHearts", "()V"⟩, prog_7_method_31_code, 3, none, [], mk_89, []) := rfl
noncomputable def cf_89_75 (v1 : Int32) (N : mz_N) : ((Int32 × mz_N) ⊕ (mz_N)) := (.inl ((v1 + 1), N))
def cp_89_75 (v1 : Int32) (N : mz_N) : Prop := True
theorem cg_89_75 (hd : 1 ≤ d) (hS : mz_ext S 232) (hR : mz_rok R 232)  (v1 : Int32) (N : mz_N) {C0 : (mz_N) → Prop} (hr : ∀ (N2 : mz_N), C0 N2 → Q (.inl none) (mz_k S R N2 b t)) {C1 : ((Int32 × mz_N) ⊕ (mz_N)) → Prop} (hc1 : ∀ s2, C1 (.inl s2) → mz_G (d, mz_X0 L xs, none, [], mk_89, 3, Q) 18 mt_89_18 [(0, .ref 2), (1, .int s2.1)] [] false (mz_k S R s2.2 b t)) (hx1 : ∀ z, C1 (.inr z) → C0 z) (hp : cp_89_75 v1 N) (hC : C1 (cf_89_75 v1 N)) : mz_G (d, mz_X0 L xs, none, [], mk_89, 3, Q) 75 mt_89_75 [(0, .ref 2), (1, .int v1)] [] false (mz_k S R N b t) := by
  unfold cf_89_75 at hC
  unfold cp_89_75 at hp
  refine g_iinc rfl mzi_1 (Nat.le_of_ble_eq_true rfl) rfl (g_goto (tg := 18) rfl ms_89_18 ?_)
  refine g_weak ?_ (g_cl (hc1 _ hC))
  exact ⟨rfl, rfl, trivial⟩
noncomputable def cf_89_58 (v1 : Int32) (v2 : Int32) (N : mz_N) : ((Int32 × mz_N) ⊕ (mz_N)) := if (mz_gI N 38 v2) = (-1) then (cf_89_75 v1 (mz_wI N 38 v2 v1)) else (cf_89_75 v1 N)
def cp_89_58 (v1 : Int32) (v2 : Int32) (N : mz_N) : Prop := (mz_ib v2 10) ∧ (((mz_gI N 38 v2) = (-1) → ((mz_ib v2 10) ∧ (cp_89_75 v1 (mz_wI N 38 v2 v1)))) ∧ (¬ ((mz_gI N 38 v2) = (-1)) → (cp_89_75 v1 N)))
theorem cg_89_58 (hd : 1 ≤ d) (hS : mz_ext S 232) (hR : mz_rok R 232)  (v1 : Int32) (v2 : Int32) (N : mz_N) {C0 : (mz_N) → Prop} (hr : ∀ (N2 : mz_N), C0 N2 → Q (.inl none) (mz_k S R N2 b t)) {C1 : ((Int32 × mz_N) ⊕ (mz_N)) → Prop} (hc1 : ∀ s2, C1 (.inl s2) → mz_G (d, mz_X0 L xs, none, [], mk_89, 3, Q) 18 mt_89_18 [(0, .ref 2), (1, .int s2.1)] [] false (mz_k S R s2.2 b t)) (hx1 : ∀ z, C1 (.inr z) → C0 z) (hp : cp_89_58 v1 v2 N) (hC : C1 (cf_89_58 v1 v2 N)) : mz_G (d, mz_X0 L xs, none, [], mk_89, 3, Q) 58 mt_89_58 [(0, .ref 2), (1, .int v1), (2, .int v2)] [] false (mz_k S R N b t) := by
  unfold cf_89_58 at hC
  unfold cp_89_58 at hp
  refine g_aload_n rfl (g_getR (mz_at hS (Nat.le_of_ble_eq_true rfl) mzcS_2) mzcf_5_16 (mz_rb hR (Nat.le_of_ble_eq_true rfl) rfl mzcR_2_16) (g_iload_n rfl ?_))
  obtain ⟨h1, hp⟩ := hp
  refine g_iald hS.1 (mz_at hS (Nat.le_of_ble_eq_true rfl) mzcS_38) h1 (g_iconst mzi_m1 ?_)
  refine g_icne (tg := 75) rfl ms_89_75 hC (fun h2 hC => ?_) (fun h2 hC => ?_)
  · have hp := hp.1 h2
    refine g_aload_n rfl (g_getR (mz_at hS (Nat.le_of_ble_eq_true rfl) mzcS_2) mzcf_5_16 (mz_rb hR (Nat.le_of_ble_eq_true rfl) rfl mzcR_2_16) (g_iload_n rfl (g_iload_n rfl ?_)))
    obtain ⟨h3, hp⟩ := hp
    refine g_iast (mz_at hS (Nat.le_of_ble_eq_true rfl) mzcS_38) h3 ?_
    refine g_weak ?_ (g_cl (cg_89_75 hd hS hR v1 (mz_wI N 38 v2 v1) hr hc1 hx1 hp hC))
    exact ⟨rfl, rfl, trivial⟩
  · have hp := hp.2 h2
    refine g_weak ?_ (g_cl (cg_89_75 hd hS hR v1 N hr hc1 hx1 hp hC))
    exact ⟨rfl, rfl, trivial⟩
noncomputable def cq_89_18  (s : Int32 × mz_N) : ((Int32 × mz_N) ⊕ (mz_N)) := if s.1 < (s.2.1 2 7) then (if (mz_gI s.2 20 s.1) < 10 then (cf_89_58 s.1 (mz_gI s.2 20 s.1) (mz_wI s.2 39 (mz_gI s.2 20 s.1) ((mz_gI s.2 39 (mz_gI s.2 20 s.1)) + (mz_gI s.2 19 s.1)))) else (cf_89_75 s.1 s.2)) else (.inr s.2)
def cd_89_18  (s : Int32 × mz_N) : Prop := (s.1 < (s.2.1 2 7) → ((mz_ib s.1 40) ∧ (((mz_gI s.2 20 s.1) < 10 → ((mz_ib (mz_gI s.2 20 s.1) 10) ∧ ((mz_ib s.1 40) ∧ ((mz_ib (mz_gI s.2 20 s.1) 10) ∧ (cp_89_58 s.1 (mz_gI s.2 20 s.1) (mz_wI s.2 39 (mz_gI s.2 20 s.1) ((mz_gI s.2 39 (mz_gI s.2 20 s.1)) + (mz_gI s.2 19 s.1)))))))) ∧ (¬ ((mz_gI s.2 20 s.1) < 10) → (cp_89_75 s.1 s.2))))) ∧ (¬ (s.1 < (s.2.1 2 7)) → True)
noncomputable def cf_89_18 (v1 : Int32) (N : mz_N) : (mz_N) := mz_run (cq_89_18 ) (v1, N)
def cp_89_18 (v1 : Int32) (N : mz_N) : Prop := ∃ n, mz_ok (cq_89_18 ) (cd_89_18 ) n (v1, N)
theorem cb_89_18 (hd : 1 ≤ d) (hS : mz_ext S 232) (hR : mz_rok R 232)   (s : Int32 × mz_N) {C0 : (mz_N) → Prop} (hr : ∀ (N2 : mz_N), C0 N2 → Q (.inl none) (mz_k S R N2 b t)) {C1 : ((Int32 × mz_N) ⊕ (mz_N)) → Prop} (hc1 : ∀ s2, C1 (.inl s2) → mz_G (d, mz_X0 L xs, none, [], mk_89, 3, Q) 18 mt_89_18 [(0, .ref 2), (1, .int s2.1)] [] false (mz_k S R s2.2 b t)) (hx1 : ∀ z, C1 (.inr z) → C0 z) (hp : cd_89_18  s) (hC : C1 (cq_89_18  s)) : mz_G (d, mz_X0 L xs, none, [], mk_89, 3, Q) 18 mt_89_18 [(0, .ref 2), (1, .int s.1)] [] false (mz_k S R s.2 b t) := by
  unfold cq_89_18 at hC
  unfold cd_89_18 at hp
  refine g_iload_n rfl (g_aload_n rfl (g_getI (mz_at hS (Nat.le_of_ble_eq_true rfl) mzcS_2) mzcf_5_7 ?_))
  refine g_icge (tg := 81) rfl ms_89_81 hC (fun h1 hC => ?_) (fun h1 hC => ?_)
  · have hp := hp.1 h1
    refine g_aload_n rfl (g_getR (mz_at hS (Nat.le_of_ble_eq_true rfl) mzcS_2) mzcf_5_9 (mz_rb hR (Nat.le_of_ble_eq_true rfl) rfl mzcR_2_9) (g_iconst mzi_3 (g_aald4 (m := 20) (mz_at hS (Nat.le_of_ble_eq_true rfl) mzcS_16) (mz_ibd (by decide)) (mz_rb hR (Nat.le_of_ble_eq_true rfl) rfl mzcRr_16_3) (g_iload_n rfl ?_))))
    obtain ⟨h2, hp⟩ := hp
    refine g_iald hS.1 (mz_at hS (Nat.le_of_ble_eq_true rfl) mzcS_20) h2 (g_istore_n (Nat.le_of_ble_eq_true rfl) rfl (g_iload_n rfl (g_bipush mzb_10 ?_)))
    refine g_icge (tg := 75) rfl ms_89_75 hC (fun h3 hC => ?_) (fun h3 hC => ?_)
    · have hp := hp.1 h3
      refine g_aload_n rfl (g_getR (mz_at hS (Nat.le_of_ble_eq_true rfl) mzcS_2) mzcf_5_17 (mz_rb hR (Nat.le_of_ble_eq_true rfl) rfl mzcR_2_17) (g_iload_n rfl (g_dup2 rfl rfl ?_)))
      obtain ⟨h4, hp⟩ := hp
      refine g_iald hS.1 (mz_at hS (Nat.le_of_ble_eq_true rfl) mzcS_39) h4 (g_aload_n rfl (g_getR (mz_at hS (Nat.le_of_ble_eq_true rfl) mzcS_2) mzcf_5_9 (mz_rb hR (Nat.le_of_ble_eq_true rfl) rfl mzcR_2_9) (g_iconst mzi_2 (g_aald4 (m := 19) (mz_at hS (Nat.le_of_ble_eq_true rfl) mzcS_16) (mz_ibd (by decide)) (mz_rb hR (Nat.le_of_ble_eq_true rfl) rfl mzcRr_16_2) (g_iload_n rfl ?_)))))
      obtain ⟨h5, hp⟩ := hp
      refine g_iald hS.1 (mz_at hS (Nat.le_of_ble_eq_true rfl) mzcS_19) h5 (g_iadd ?_)
      obtain ⟨h6, hp⟩ := hp
      refine g_iast (mz_at hS (Nat.le_of_ble_eq_true rfl) mzcS_39) h6 ?_
      refine g_weak ?_ (g_cl (cg_89_58 hd hS hR s.1 (mz_gI s.2 20 s.1) (mz_wI s.2 39 (mz_gI s.2 20 s.1) ((mz_gI s.2 39 (mz_gI s.2 20 s.1)) + (mz_gI s.2 19 s.1))) hr hc1 hx1 hp hC))
      exact ⟨rfl, rfl, rfl, trivial⟩
    · have hp := hp.2 h3
      refine g_weak ?_ (g_cl (cg_89_75 hd hS hR s.1 s.2 hr hc1 hx1 hp hC))
      exact ⟨rfl, rfl, trivial⟩
  · have hp := hp.2 h1
    exact g_vret rfl (hr _ (hx1 _ hC))
theorem cg_89_18 (hd : 1 ≤ d) (hS : mz_ext S 232) (hR : mz_rok R 232)  (v1 : Int32) (N : mz_N) {C0 : (mz_N) → Prop} (hr : ∀ (N2 : mz_N), C0 N2 → Q (.inl none) (mz_k S R N2 b t)) (hp : cp_89_18 v1 N) (hC : C0 (cf_89_18 v1 N)) : mz_G (d, mz_X0 L xs, none, [], mk_89, 3, Q) 18 mt_89_18 [(0, .ref 2), (1, .int v1)] [] false (mz_k S R N b t) := by
  obtain ⟨n, hn⟩ := hp
  exact g_loop (G := fun s => mz_G (d, mz_X0 L xs, none, [], mk_89, 3, Q) 18 mt_89_18 [(0, .ref 2), (1, .int s.1)] [] false (mz_k S R s.2 b t)) (C := C0) (fun C2 hc hx s hP hC => cb_89_18 hd hS hR  s hr hc hx hP hC) n (v1, N) hn hC
noncomputable def cf_89_0 (N : mz_N) : (mz_N) := (cf_89_18 0 (cf_13_0 39 10 0 (cf_13_0 38 10 (-1) N)))
def cp_89_0 (N : mz_N) : Prop := (cp_13_0 38 10 (-1) N) ∧ ((cp_13_0 39 10 0 (cf_13_0 38 10 (-1) N)) ∧ (cp_89_18 0 (cf_13_0 39 10 0 (cf_13_0 38 10 (-1) N))))
theorem cg_89_0 (hd : 1 ≤ d) (hS : mz_ext S 232) (hR : mz_rok R 232)  (N : mz_N) {C0 : (mz_N) → Prop} (hr : ∀ (N2 : mz_N), C0 N2 → Q (.inl none) (mz_k S R N2 b t)) (hp : cp_89_0 N) (hC : C0 (cf_89_0 N)) : mz_G (d, mz_X0 L xs, none, [], mk_89, 3, Q) 0 mk_89 [(0, .ref 2)] [] true (mz_k S R N b t) := by
  unfold cf_89_0 at hC
  unfold cp_89_0 at hp
  refine g_aload_n rfl (g_getR (mz_at hS (Nat.le_of_ble_eq_true rfl) mzcS_2) mzcf_5_16 (mz_rb hR (Nat.le_of_ble_eq_true rfl) rfl mzcR_2_16) (g_iconst mzi_m1 ?_))
  obtain ⟨h1, hp⟩ := hp
  refine g_s2n (Nat.le_of_ble_eq_true rfl) (fun _ hq => cs_13 (Nat.le_trans (Nat.le_of_ble_eq_true rfl) hd) (hS.le (Nat.le_of_ble_eq_true rfl)) (hR.le (Nat.le_of_ble_eq_true rfl)) 38 10 (mz_at hS (Nat.le_of_ble_eq_true rfl) mzcS_38) (-1) N h1 hq) (g_aload_n rfl (g_getR (mz_at hS (Nat.le_of_ble_eq_true rfl) mzcS_2) mzcf_5_17 (mz_rb hR (Nat.le_of_ble_eq_true rfl) rfl mzcR_2_17) (g_iconst mzi_0 ?_)))
  obtain ⟨h2, hp⟩ := hp
  refine g_s2n (Nat.le_of_ble_eq_true rfl) (fun _ hq => cs_13 (Nat.le_trans (Nat.le_of_ble_eq_true rfl) hd) (hS.le (Nat.le_of_ble_eq_true rfl)) (hR.le (Nat.le_of_ble_eq_true rfl)) 39 10 (mz_at hS (Nat.le_of_ble_eq_true rfl) mzcS_39) 0 (cf_13_0 38 10 (-1) N) h2 hq) (g_iconst mzi_0 (g_istore_n (Nat.le_of_ble_eq_true rfl) rfl ?_))
  refine g_weak ?_ (g_cl (cg_89_18 hd hS hR 0 (cf_13_0 39 10 0 (cf_13_0 38 10 (-1) N)) hr hp hC))
  exact ⟨rfl, rfl, trivial⟩
theorem cs_89 (hd : 2 ≤ d) (hS : mz_ext S 232) (hR : mz_rok R 232)  (N : mz_N) (hp : cp_89_0 N) (hq : Q (.inl none) (mz_k S R (cf_89_0 N) b t)) : mz_Ed (mz_X0 L xs) d 89 [.ref 2] (mz_k S R N b t) Q :=
  by
  refine g_in mzq_89 (Nat.le_of_ble_eq_true rfl) (Nat.le_of_ble_eq_true rfl) (Nat.le_trans (Nat.le_of_ble_eq_true rfl) hd) ?_
  refine g_weak ?_ (cg_89_0 (d := d - 1) (by omega) hS hR N (C0 := fun z => Q (.inl none) (mz_k S R z b t)) (fun _ h => h) hp hq)
  exact ⟨rfl, trivial⟩
/-! 77 KeptHouse$Plan.survey ()V -/
theorem ms_77_0 : mz_sf mk_77 0 = mk_77 := mz_sf_zero _
theorem ms_77_23 : mz_sf mk_77 23 = mt_77_23 := mz_sf_add ms_77_0 (t := 23) rfl rfl
theorem ms_77_45 : mz_sf mk_77 45 = mt_77_45 := mz_sf_add ms_77_23 (t := 22) rfl rfl
theorem ms_77_67 : mz_sf mk_77 67 = mt_77_67 := mz_sf_add ms_77_45 (t := 22) rfl rfl
theorem ms_77_92 : mz_sf mk_77 92 = mt_77_92 := mz_sf_add ms_77_67 (t := 25) rfl rfl
theorem ms_77_95 : mz_sf mk_77 95 = mt_77_95 := mz_sf_add ms_77_92 (t := 3) rfl rfl
theorem ms_77_101 : mz_sf mk_77 101 = mt_77_101 := mz_sf_add ms_77_95 (t := 6) rfl rfl
theorem ms_77_107 : mz_sf mk_77 107 = mt_77_107 := mz_sf_add ms_77_101 (t := 6) rfl rfl
set_option maxRecDepth 100000 in
theorem mzq_77 : mz_PG0 77 = some (5, ⟨"KeptHouse$Plan", "survey", "()V"⟩, prog_7_method_25_code, 3, none, [], mk_77, []) := rfl
noncomputable def cf_77_101 (v1 : Int32) (N : mz_N) : ((Int32 × mz_N) ⊕ (mz_N)) := (.inl ((v1 + 1), N))
def cp_77_101 (v1 : Int32) (N : mz_N) : Prop := True
theorem cg_77_101 (hd : 3 ≤ d) (hS : mz_ext S 232) (hR : mz_rok R 232)  (v1 : Int32) (N : mz_N) {C0 : (mz_N) → Prop} (hr : ∀ (N2 : mz_N), C0 N2 → Q (.inl none) (mz_k S R N2 b t)) {C1 : ((Int32 × mz_N) ⊕ (mz_N)) → Prop} (hc1 : ∀ s2, C1 (.inl s2) → mz_G (d, mz_X0 L xs, none, [], mk_77, 3, Q) 67 mt_77_67 [(0, .ref 2), (1, .int s2.1)] [] false (mz_k S R s2.2 b t)) (hx1 : ∀ z, C1 (.inr z) → C0 z) (hp : cp_77_101 v1 N) (hC : C1 (cf_77_101 v1 N)) : mz_G (d, mz_X0 L xs, none, [], mk_77, 3, Q) 101 mt_77_101 [(0, .ref 2), (1, .int v1)] [] false (mz_k S R N b t) := by
  unfold cf_77_101 at hC
  unfold cp_77_101 at hp
  refine g_iinc rfl mzi_1 (Nat.le_of_ble_eq_true rfl) rfl (g_goto (tg := 67) rfl ms_77_67 ?_)
  refine g_weak ?_ (g_cl (hc1 _ hC))
  exact ⟨rfl, rfl, trivial⟩
noncomputable def cq_77_67  (s : Int32 × mz_N) : ((Int32 × mz_N) ⊕ (mz_N)) := if s.1 < 550 then (if (cf_21_0 (mz_irem s.1 110)) = (-1) then (cf_77_101 s.1 (cf_83_0 s.1 s.2)) else (cf_77_101 s.1 (cf_86_0 s.1 (cf_21_0 (mz_irem s.1 110)) s.2))) else (.inr (cf_89_0 (cf_88_0 (cf_87_0 s.2))))
def cd_77_67  (s : Int32 × mz_N) : Prop := (s.1 < 550 → (((cf_21_0 (mz_irem s.1 110)) = (-1) → ((cp_83_0 s.1 s.2) ∧ (cp_77_101 s.1 (cf_83_0 s.1 s.2)))) ∧ (¬ ((cf_21_0 (mz_irem s.1 110)) = (-1)) → ((cp_86_0 s.1 (cf_21_0 (mz_irem s.1 110)) s.2) ∧ (cp_77_101 s.1 (cf_86_0 s.1 (cf_21_0 (mz_irem s.1 110)) s.2)))))) ∧ (¬ (s.1 < 550) → ((cp_87_0 s.2) ∧ ((cp_88_0 (cf_87_0 s.2)) ∧ (cp_89_0 (cf_88_0 (cf_87_0 s.2))))))
noncomputable def cf_77_67 (v1 : Int32) (N : mz_N) : (mz_N) := mz_run (cq_77_67 ) (v1, N)
def cp_77_67 (v1 : Int32) (N : mz_N) : Prop := ∃ n, mz_ok (cq_77_67 ) (cd_77_67 ) n (v1, N)
theorem cb_77_67 (hd : 3 ≤ d) (hS : mz_ext S 232) (hR : mz_rok R 232)   (s : Int32 × mz_N) {C0 : (mz_N) → Prop} (hr : ∀ (N2 : mz_N), C0 N2 → Q (.inl none) (mz_k S R N2 b t)) {C1 : ((Int32 × mz_N) ⊕ (mz_N)) → Prop} (hc1 : ∀ s2, C1 (.inl s2) → mz_G (d, mz_X0 L xs, none, [], mk_77, 3, Q) 67 mt_77_67 [(0, .ref 2), (1, .int s2.1)] [] false (mz_k S R s2.2 b t)) (hx1 : ∀ z, C1 (.inr z) → C0 z) (hp : cd_77_67  s) (hC : C1 (cq_77_67  s)) : mz_G (d, mz_X0 L xs, none, [], mk_77, 3, Q) 67 mt_77_67 [(0, .ref 2), (1, .int s.1)] [] false (mz_k S R s.2 b t) := by
  unfold cq_77_67 at hC
  unfold cd_77_67 at hp
  refine g_iload_n rfl (g_sipush mzs_550 ?_)
  refine g_icge (tg := 107) rfl ms_77_107 hC (fun h1 hC => ?_) (fun h1 hC => ?_)
  · have hp := hp.1 h1
    refine g_iload_n rfl (g_bipush mzb_110 (g_irem (by decide) ?_))
    refine g_s1v (Nat.le_of_ble_eq_true rfl) (fun _ hq => cs_21 (Nat.le_trans (Nat.le_of_ble_eq_true rfl) hd) (hS.le (Nat.le_of_ble_eq_true rfl)) (hR.le (Nat.le_of_ble_eq_true rfl))  (mz_irem s.1 110) trivial hq) (g_istore_n (Nat.le_of_ble_eq_true rfl) rfl (g_iload_n rfl (g_iconst mzi_m1 ?_)))
    refine g_icne (tg := 95) rfl ms_77_95 hC (fun h3 hC => ?_) (fun h3 hC => ?_)
    · have hp := hp.1 h3
      refine g_aload_n rfl (g_iload_n rfl ?_)
      obtain ⟨h4, hp⟩ := hp
      refine g_v2n (Nat.le_of_ble_eq_true rfl) (mz_at hS (Nat.le_of_ble_eq_true rfl) mzcS_2) (fun _ hq => cs_83 (Nat.le_trans (Nat.le_of_ble_eq_true rfl) hd) (hS.le (Nat.le_of_ble_eq_true rfl)) (hR.le (Nat.le_of_ble_eq_true rfl))  s.1 s.2 h4 hq) (g_goto (tg := 101) rfl ms_77_101 ?_)
      refine g_weak ?_ (g_cl (cg_77_101 hd hS hR s.1 (cf_83_0 s.1 s.2) hr hc1 hx1 hp hC))
      exact ⟨rfl, rfl, trivial⟩
    · have hp := hp.2 h3
      refine g_aload_n rfl (g_iload_n rfl (g_iload_n rfl ?_))
      obtain ⟨h5, hp⟩ := hp
      refine g_v3n (Nat.le_of_ble_eq_true rfl) (mz_at hS (Nat.le_of_ble_eq_true rfl) mzcS_2) (fun _ hq => cs_86 (Nat.le_trans (Nat.le_of_ble_eq_true rfl) hd) (hS.le (Nat.le_of_ble_eq_true rfl)) (hR.le (Nat.le_of_ble_eq_true rfl))  s.1 (cf_21_0 (mz_irem s.1 110)) s.2 h5 hq) ?_
      refine g_weak ?_ (g_cl (cg_77_101 hd hS hR s.1 (cf_86_0 s.1 (cf_21_0 (mz_irem s.1 110)) s.2) hr hc1 hx1 hp hC))
      exact ⟨rfl, rfl, trivial⟩
  · have hp := hp.2 h1
    refine g_aload_n rfl ?_
    obtain ⟨h6, hp⟩ := hp
    refine g_v1n (Nat.le_of_ble_eq_true rfl) (mz_at hS (Nat.le_of_ble_eq_true rfl) mzcS_2) (fun _ hq => cs_87 (Nat.le_trans (Nat.le_of_ble_eq_true rfl) hd) (hS.le (Nat.le_of_ble_eq_true rfl)) (hR.le (Nat.le_of_ble_eq_true rfl))  s.2 h6 hq) (g_aload_n rfl ?_)
    obtain ⟨h7, hp⟩ := hp
    refine g_v1n (Nat.le_of_ble_eq_true rfl) (mz_at hS (Nat.le_of_ble_eq_true rfl) mzcS_2) (fun _ hq => cs_88 (Nat.le_trans (Nat.le_of_ble_eq_true rfl) hd) (hS.le (Nat.le_of_ble_eq_true rfl)) (hR.le (Nat.le_of_ble_eq_true rfl))  (cf_87_0 s.2) h7 hq) (g_aload_n rfl ?_)
    have h8 := hp
    refine g_v1n (Nat.le_of_ble_eq_true rfl) (mz_at hS (Nat.le_of_ble_eq_true rfl) mzcS_2) (fun _ hq => cs_89 (Nat.le_trans (Nat.le_of_ble_eq_true rfl) hd) (hS.le (Nat.le_of_ble_eq_true rfl)) (hR.le (Nat.le_of_ble_eq_true rfl))  (cf_88_0 (cf_87_0 s.2)) h8 hq) ?_
    exact g_vret rfl (hr _ (hx1 _ hC))
theorem cg_77_67 (hd : 3 ≤ d) (hS : mz_ext S 232) (hR : mz_rok R 232)  (v1 : Int32) (N : mz_N) {C0 : (mz_N) → Prop} (hr : ∀ (N2 : mz_N), C0 N2 → Q (.inl none) (mz_k S R N2 b t)) (hp : cp_77_67 v1 N) (hC : C0 (cf_77_67 v1 N)) : mz_G (d, mz_X0 L xs, none, [], mk_77, 3, Q) 67 mt_77_67 [(0, .ref 2), (1, .int v1)] [] false (mz_k S R N b t) := by
  obtain ⟨n, hn⟩ := hp
  exact g_loop (G := fun s => mz_G (d, mz_X0 L xs, none, [], mk_77, 3, Q) 67 mt_77_67 [(0, .ref 2), (1, .int s.1)] [] false (mz_k S R s.2 b t)) (C := C0) (fun C2 hc hx s hP hC => cb_77_67 hd hS hR  s hr hc hx hP hC) n (v1, N) hn hC
noncomputable def cq_77_23  (s : Int32 × mz_N) : ((Int32 × mz_N) ⊕ (mz_N)) := if s.1 < 13 then (.inl ((s.1 + 1), (cf_13_0 (17 + s.1.toNatClampNeg) 40 0 s.2))) else (.inr (cf_77_67 0 (cf_82_0 (cf_13_0 36 240 0 (cf_13_0 31 1600 0 s.2)))))
def cd_77_23  (s : Int32 × mz_N) : Prop := (s.1 < 13 → ((mz_ib s.1 13) ∧ (cp_13_0 (17 + s.1.toNatClampNeg) 40 0 s.2))) ∧ (¬ (s.1 < 13) → ((cp_13_0 31 1600 0 s.2) ∧ ((cp_13_0 36 240 0 (cf_13_0 31 1600 0 s.2)) ∧ ((cp_82_0 (cf_13_0 36 240 0 (cf_13_0 31 1600 0 s.2))) ∧ (cp_77_67 0 (cf_82_0 (cf_13_0 36 240 0 (cf_13_0 31 1600 0 s.2))))))))
noncomputable def cf_77_23 (v1 : Int32) (N : mz_N) : (mz_N) := mz_run (cq_77_23 ) (v1, N)
def cp_77_23 (v1 : Int32) (N : mz_N) : Prop := ∃ n, mz_ok (cq_77_23 ) (cd_77_23 ) n (v1, N)
theorem cb_77_23 (hd : 3 ≤ d) (hS : mz_ext S 232) (hR : mz_rok R 232)   (s : Int32 × mz_N) {C0 : (mz_N) → Prop} (hr : ∀ (N2 : mz_N), C0 N2 → Q (.inl none) (mz_k S R N2 b t)) {C1 : ((Int32 × mz_N) ⊕ (mz_N)) → Prop} (hc1 : ∀ s2, C1 (.inl s2) → mz_G (d, mz_X0 L xs, none, [], mk_77, 3, Q) 23 mt_77_23 [(0, .ref 2), (1, .int s2.1)] [] false (mz_k S R s2.2 b t)) (hx1 : ∀ z, C1 (.inr z) → C0 z) (hp : cd_77_23  s) (hC : C1 (cq_77_23  s)) : mz_G (d, mz_X0 L xs, none, [], mk_77, 3, Q) 23 mt_77_23 [(0, .ref 2), (1, .int s.1)] [] false (mz_k S R s.2 b t) := by
  unfold cq_77_23 at hC
  unfold cd_77_23 at hp
  refine g_iload_n rfl (g_bipush mzb_13 ?_)
  refine g_icge (tg := 45) rfl ms_77_45 hC (fun h1 hC => ?_) (fun h1 hC => ?_)
  · have hp := hp.1 h1
    refine g_aload_n rfl (g_getR (mz_at hS (Nat.le_of_ble_eq_true rfl) mzcS_2) mzcf_5_9 (mz_rb hR (Nat.le_of_ble_eq_true rfl) rfl mzcR_2_9) (g_iload_n rfl ?_))
    obtain ⟨h2, hp⟩ := hp
    refine g_aald4 (mz_at hS (Nat.le_of_ble_eq_true rfl) mzcS_16) h2 (mz_rb hR (Nat.le_of_ble_eq_true rfl) rfl (mzcR2_16 h2)) (g_iconst mzi_0 ?_)
    have h3 := hp
    refine g_s2n (Nat.le_of_ble_eq_true rfl) (fun _ hq => cs_13 (Nat.le_trans (Nat.le_of_ble_eq_true rfl) hd) (hS.le (Nat.le_of_ble_eq_true rfl)) (hR.le (Nat.le_of_ble_eq_true rfl)) (17 + s.1.toNatClampNeg) 40 (mz_at hS (mzcL2_16 h2 (Nat.le_of_ble_eq_true rfl)) (mzcS2_16 h2)) 0 s.2 h3 hq) (g_iinc rfl mzi_1 (Nat.le_of_ble_eq_true rfl) rfl (g_goto (tg := 23) rfl ms_77_23 ?_))
    refine g_weak ?_ (g_cl (hc1 _ hC))
    exact ⟨rfl, rfl, trivial⟩
  · have hp := hp.2 h1
    refine g_aload_n rfl (g_getR (mz_at hS (Nat.le_of_ble_eq_true rfl) mzcS_2) mzcf_5_11 (mz_rb hR (Nat.le_of_ble_eq_true rfl) rfl mzcR_2_11) (g_iconst mzi_0 ?_))
    obtain ⟨h4, hp⟩ := hp
    refine g_s2n (Nat.le_of_ble_eq_true rfl) (fun _ hq => cs_13 (Nat.le_trans (Nat.le_of_ble_eq_true rfl) hd) (hS.le (Nat.le_of_ble_eq_true rfl)) (hR.le (Nat.le_of_ble_eq_true rfl)) 31 1600 (mz_at hS (Nat.le_of_ble_eq_true rfl) mzcS_31) 0 s.2 h4 hq) (g_aload_n rfl (g_getR (mz_at hS (Nat.le_of_ble_eq_true rfl) mzcS_2) mzcf_5_14 (mz_rb hR (Nat.le_of_ble_eq_true rfl) rfl mzcR_2_14) (g_iconst mzi_0 ?_)))
    obtain ⟨h5, hp⟩ := hp
    refine g_s2n (Nat.le_of_ble_eq_true rfl) (fun _ hq => cs_13 (Nat.le_trans (Nat.le_of_ble_eq_true rfl) hd) (hS.le (Nat.le_of_ble_eq_true rfl)) (hR.le (Nat.le_of_ble_eq_true rfl)) 36 240 (mz_at hS (Nat.le_of_ble_eq_true rfl) mzcS_36) 0 (cf_13_0 31 1600 0 s.2) h5 hq) (g_aload_n rfl ?_)
    obtain ⟨h6, hp⟩ := hp
    refine g_v1n (Nat.le_of_ble_eq_true rfl) (mz_at hS (Nat.le_of_ble_eq_true rfl) mzcS_2) (fun _ hq => cs_82 (Nat.le_trans (Nat.le_of_ble_eq_true rfl) hd) (hS.le (Nat.le_of_ble_eq_true rfl)) (hR.le (Nat.le_of_ble_eq_true rfl))  (cf_13_0 36 240 0 (cf_13_0 31 1600 0 s.2)) h6 hq) (g_iconst mzi_0 (g_istore_n (Nat.le_of_ble_eq_true rfl) rfl ?_))
    refine g_weak ?_ (g_cl (cg_77_67 hd hS hR 0 (cf_82_0 (cf_13_0 36 240 0 (cf_13_0 31 1600 0 s.2))) hr hp (hx1 _ hC)))
    exact ⟨rfl, rfl, trivial⟩
theorem cg_77_23 (hd : 3 ≤ d) (hS : mz_ext S 232) (hR : mz_rok R 232)  (v1 : Int32) (N : mz_N) {C0 : (mz_N) → Prop} (hr : ∀ (N2 : mz_N), C0 N2 → Q (.inl none) (mz_k S R N2 b t)) (hp : cp_77_23 v1 N) (hC : C0 (cf_77_23 v1 N)) : mz_G (d, mz_X0 L xs, none, [], mk_77, 3, Q) 23 mt_77_23 [(0, .ref 2), (1, .int v1)] [] false (mz_k S R N b t) := by
  obtain ⟨n, hn⟩ := hp
  exact g_loop (G := fun s => mz_G (d, mz_X0 L xs, none, [], mk_77, 3, Q) 23 mt_77_23 [(0, .ref 2), (1, .int s.1)] [] false (mz_k S R s.2 b t)) (C := C0) (fun C2 hc hx s hP hC => cb_77_23 hd hS hR  s hr hc hx hP hC) n (v1, N) hn hC
noncomputable def cf_77_0 (N : mz_N) : (mz_N) := (cf_77_23 0 (mz_pI ((cf_78_0 3 15 N).2) 2 7 (mz_imin ((cf_78_0 3 15 N).1) 40)))
def cp_77_0 (N : mz_N) : Prop := (cp_78_0 3 15 N) ∧ (cp_77_23 0 (mz_pI ((cf_78_0 3 15 N).2) 2 7 (mz_imin ((cf_78_0 3 15 N).1) 40)))
theorem cg_77_0 (hd : 3 ≤ d) (hS : mz_ext S 232) (hR : mz_rok R 232)  (N : mz_N) {C0 : (mz_N) → Prop} (hr : ∀ (N2 : mz_N), C0 N2 → Q (.inl none) (mz_k S R N2 b t)) (hp : cp_77_0 N) (hC : C0 (cf_77_0 N)) : mz_G (d, mz_X0 L xs, none, [], mk_77, 3, Q) 0 mk_77 [(0, .ref 2)] [] true (mz_k S R N b t) := by
  unfold cf_77_0 at hC
  unfold cp_77_0 at hp
  refine g_aload_n rfl (g_aload_n rfl (g_aload_n rfl (g_getR (mz_at hS (Nat.le_of_ble_eq_true rfl) mzcS_2) mzcf_5_0 (mz_rb hR (Nat.le_of_ble_eq_true rfl) rfl mzcR_2_0) (g_aload_n rfl (g_getR (mz_at hS (Nat.le_of_ble_eq_true rfl) mzcS_2) mzcf_5_8 (mz_rb hR (Nat.le_of_ble_eq_true rfl) rfl mzcR_2_8) ?_)))))
  obtain ⟨h1, hp⟩ := hp
  refine g_v3v (Nat.le_of_ble_eq_true rfl) (mz_at hS (Nat.le_of_ble_eq_true rfl) mzcS_2) (fun _ hq => cs_78 (Nat.le_trans (Nat.le_of_ble_eq_true rfl) hd) (hS.le (Nat.le_of_ble_eq_true rfl)) (hR.le (Nat.le_of_ble_eq_true rfl)) 3 15 (mz_at hS (Nat.le_of_ble_eq_true rfl) mzcS_3) (mz_at hS (Nat.le_of_ble_eq_true rfl) mzcS_15) N h1 hq) (g_bipush mzb_40 (g_imin (Nat.le_of_ble_eq_true rfl) (g_putI (mz_at hS (Nat.le_of_ble_eq_true rfl) mzcS_2) mzcf_5_7 (g_iconst mzi_0 (g_istore_n (Nat.le_of_ble_eq_true rfl) rfl ?_)))))
  refine g_weak ?_ (g_cl (cg_77_23 hd hS hR 0 (mz_pI ((cf_78_0 3 15 N).2) 2 7 (mz_imin ((cf_78_0 3 15 N).1) 40)) hr hp hC))
  exact ⟨rfl, rfl, trivial⟩
theorem cs_77 (hd : 4 ≤ d) (hS : mz_ext S 232) (hR : mz_rok R 232)  (N : mz_N) (hp : cp_77_0 N) (hq : Q (.inl none) (mz_k S R (cf_77_0 N) b t)) : mz_Ed (mz_X0 L xs) d 77 [.ref 2] (mz_k S R N b t) Q :=
  by
  refine g_in mzq_77 (Nat.le_of_ble_eq_true rfl) (Nat.le_of_ble_eq_true rfl) (Nat.le_trans (Nat.le_of_ble_eq_true rfl) hd) ?_
  refine g_weak ?_ (cg_77_0 (d := d - 1) (by omega) hS hR N (C0 := fun z => Q (.inl none) (mz_k S R z b t)) (fun _ h => h) hp hq)
  exact ⟨rfl, trivial⟩
/-! 114 KeptHouse$Plan.isMine (II)Z -/
theorem ms_114_0 : mz_sf mk_114 0 = mk_114 := mz_sf_zero _
theorem ms_114_19 : mz_sf mk_114 19 = mt_114_19 := mz_sf_add ms_114_0 (t := 19) rfl rfl
theorem ms_114_23 : mz_sf mk_114 23 = mt_114_23 := mz_sf_add ms_114_19 (t := 4) rfl rfl
theorem ms_114_24 : mz_sf mk_114 24 = mt_114_24 := mz_sf_add ms_114_23 (t := 1) rfl rfl
set_option maxRecDepth 100000 in
theorem mzq_114 : mz_PG0 114 = some (5, ⟨"KeptHouse$Plan", "isMine", "(II)Z"⟩, prog_7_method_14_code, 3, some .boolean, [], mk_114, []) := rfl
noncomputable def cf_114_0 (v1 : Int32) (v2 : Int32) (N : mz_N) : (Bool) := if (mz_gI N (5 + v1.toNatClampNeg) v2) = (mz_gI N (9 + v1.toNatClampNeg) v2) then false else true
def cp_114_0 (v1 : Int32) (v2 : Int32) (N : mz_N) : Prop := (mz_ib v1 3) ∧ ((mz_ib v2 550) ∧ ((mz_ib v1 3) ∧ (mz_ib v2 550)))
theorem cg_114_0 (hd : 0 ≤ d) (hS : mz_ext S 232) (hR : mz_rok R 232)  (v1 : Int32) (v2 : Int32) (N : mz_N) {C0 : (Bool) → Prop} (hr : ∀ (w : Bool), C0 w → Q (.inl (some (.int (mz_b01 w)))) (mz_k S R N b t)) (hp : cp_114_0 v1 v2 N) (hC : C0 (cf_114_0 v1 v2 N)) : mz_G (d, mz_X0 L xs, some .boolean, [], mk_114, 3, Q) 0 mk_114 [(0, .ref 2), (1, .int v1), (2, .int v2)] [] true (mz_k S R N b t) := by
  unfold cf_114_0 at hC
  unfold cp_114_0 at hp
  refine g_aload_n rfl (g_getR (mz_at hS (Nat.le_of_ble_eq_true rfl) mzcS_2) mzcf_5_1 (mz_rb hR (Nat.le_of_ble_eq_true rfl) rfl mzcR_2_1) (g_iload_n rfl ?_))
  obtain ⟨h1, hp⟩ := hp
  refine g_aald4 (mz_at hS (Nat.le_of_ble_eq_true rfl) mzcS_4) h1 (mz_rb hR (Nat.le_of_ble_eq_true rfl) rfl (mzcR2_4 h1)) (g_iload_n rfl ?_)
  obtain ⟨h2, hp⟩ := hp
  refine g_iald hS.1 (mz_at hS (mzcL2_4 h1 (Nat.le_of_ble_eq_true rfl)) (mzcS2_4 h1)) h2 (g_aload_n rfl (g_getR (mz_at hS (Nat.le_of_ble_eq_true rfl) mzcS_2) mzcf_5_2 (mz_rb hR (Nat.le_of_ble_eq_true rfl) rfl mzcR_2_2) (g_iload_n rfl ?_)))
  obtain ⟨h3, hp⟩ := hp
  refine g_aald4 (mz_at hS (Nat.le_of_ble_eq_true rfl) mzcS_8) h3 (mz_rb hR (Nat.le_of_ble_eq_true rfl) rfl (mzcR2_8 h3)) (g_iload_n rfl ?_)
  have h4 := hp
  refine g_iald hS.1 (mz_at hS (mzcL2_8 h3 (Nat.le_of_ble_eq_true rfl)) (mzcS2_8 h3)) h4 ?_
  refine g_iceq (tg := 23) rfl ms_114_23 hC (fun h5 hC => ?_) (fun h5 hC => ?_)
  · refine g_iconst mzi_0 ?_
    exact g_zret (z := false) rfl (hr _ hC)
  · refine g_iconst mzi_1 (g_goto (tg := 24) rfl ms_114_24 ?_)
    exact g_zret (z := true) rfl (hr _ hC)
theorem cs_114 (hd : 1 ≤ d) (hS : mz_ext S 232) (hR : mz_rok R 232)  (v1 : Int32) (v2 : Int32) (N : mz_N) (hp : cp_114_0 v1 v2 N) (hq : Q (.inl (some (.int (mz_b01 (cf_114_0 v1 v2 N))))) (mz_k S R N b t)) : mz_Ed (mz_X0 L xs) d 114 [.ref 2, .int v1, .int v2] (mz_k S R N b t) Q :=
  by
  refine g_in mzq_114 (Nat.le_of_ble_eq_true rfl) (Nat.le_of_ble_eq_true rfl) (Nat.le_trans (Nat.le_of_ble_eq_true rfl) hd) ?_
  refine g_weak ?_ (cg_114_0 (d := d - 1) (by omega) hS hR v1 v2 N (C0 := fun z => Q (.inl (some (.int (mz_b01 z)))) (mz_k S R N b t)) (fun _ h => h) hp hq)
  exact ⟨rfl, rfl, rfl, trivial⟩
/-! 113 KeptHouse$Plan.isConflict (II)Z -/
theorem ms_113_0 : mz_sf mk_113 0 = mk_113 := mz_sf_zero _
theorem ms_113_26 : mz_sf mk_113 26 = mt_113_26 := mz_sf_add ms_113_0 (t := 26) rfl rfl
theorem ms_113_47 : mz_sf mk_113 47 = mt_113_47 := mz_sf_add ms_113_26 (t := 21) rfl rfl
theorem ms_113_48 : mz_sf mk_113 48 = mt_113_48 := mz_sf_add ms_113_47 (t := 1) rfl rfl
set_option maxRecDepth 100000 in
theorem mzq_113 : mz_PG0 113 = some (5, ⟨"KeptHouse$Plan", "isConflict", "(II)Z"⟩, prog_7_method_15_code, 3, some .boolean, [], mk_113, []) := rfl
noncomputable def cf_113_0 (v1 : Int32) (v2 : Int32) (N : mz_N) : (Bool) := if (cf_114_0 v1 v2 N) = true then (if (mz_gI N 3 v2) = (mz_gI N (9 + v1.toNatClampNeg) v2) then false else (if (mz_gI N 3 v2) = (mz_gI N (5 + v1.toNatClampNeg) v2) then false else true)) else false
def cp_113_0 (v1 : Int32) (v2 : Int32) (N : mz_N) : Prop := (cp_114_0 v1 v2 N) ∧ (((cf_114_0 v1 v2 N) = true → ((mz_ib v2 550) ∧ ((mz_ib v1 3) ∧ ((mz_ib v2 550) ∧ (((mz_gI N 3 v2) = (mz_gI N (9 + v1.toNatClampNeg) v2) → True) ∧ (¬ ((mz_gI N 3 v2) = (mz_gI N (9 + v1.toNatClampNeg) v2)) → ((mz_ib v2 550) ∧ ((mz_ib v1 3) ∧ (mz_ib v2 550))))))))) ∧ (¬ ((cf_114_0 v1 v2 N) = true) → True))
theorem cg_113_0 (hd : 1 ≤ d) (hS : mz_ext S 232) (hR : mz_rok R 232)  (v1 : Int32) (v2 : Int32) (N : mz_N) {C0 : (Bool) → Prop} (hr : ∀ (w : Bool), C0 w → Q (.inl (some (.int (mz_b01 w)))) (mz_k S R N b t)) (hp : cp_113_0 v1 v2 N) (hC : C0 (cf_113_0 v1 v2 N)) : mz_G (d, mz_X0 L xs, some .boolean, [], mk_113, 3, Q) 0 mk_113 [(0, .ref 2), (1, .int v1), (2, .int v2)] [] true (mz_k S R N b t) := by
  unfold cf_113_0 at hC
  unfold cp_113_0 at hp
  refine g_aload_n rfl (g_iload_n rfl (g_iload_n rfl ?_))
  obtain ⟨h1, hp⟩ := hp
  refine g_v3v (Nat.le_of_ble_eq_true rfl) (mz_at hS (Nat.le_of_ble_eq_true rfl) mzcS_2) (fun _ hq => cs_114 (Nat.le_trans (Nat.le_of_ble_eq_true rfl) hd) (hS.le (Nat.le_of_ble_eq_true rfl)) (hR.le (Nat.le_of_ble_eq_true rfl))  v1 v2 N h1 hq) ?_
  refine g_zeq (tg := 47) rfl ms_113_47 hC (fun h2 hC => ?_) (fun h2 hC => ?_)
  · have hp := hp.1 h2
    refine g_aload_n rfl (g_getR (mz_at hS (Nat.le_of_ble_eq_true rfl) mzcS_2) mzcf_5_0 (mz_rb hR (Nat.le_of_ble_eq_true rfl) rfl mzcR_2_0) (g_iload_n rfl ?_))
    obtain ⟨h3, hp⟩ := hp
    refine g_iald hS.1 (mz_at hS (Nat.le_of_ble_eq_true rfl) mzcS_3) h3 (g_aload_n rfl (g_getR (mz_at hS (Nat.le_of_ble_eq_true rfl) mzcS_2) mzcf_5_2 (mz_rb hR (Nat.le_of_ble_eq_true rfl) rfl mzcR_2_2) (g_iload_n rfl ?_)))
    obtain ⟨h4, hp⟩ := hp
    refine g_aald4 (mz_at hS (Nat.le_of_ble_eq_true rfl) mzcS_8) h4 (mz_rb hR (Nat.le_of_ble_eq_true rfl) rfl (mzcR2_8 h4)) (g_iload_n rfl ?_)
    obtain ⟨h5, hp⟩ := hp
    refine g_iald hS.1 (mz_at hS (mzcL2_8 h4 (Nat.le_of_ble_eq_true rfl)) (mzcS2_8 h4)) h5 ?_
    refine g_iceq (tg := 47) rfl ms_113_47 hC (fun h6 hC => ?_) (fun h6 hC => ?_)
    · have hp := hp.1 h6
      refine g_iconst mzi_0 ?_
      exact g_zret (z := false) rfl (hr _ hC)
    · have hp := hp.2 h6
      refine g_aload_n rfl (g_getR (mz_at hS (Nat.le_of_ble_eq_true rfl) mzcS_2) mzcf_5_0 (mz_rb hR (Nat.le_of_ble_eq_true rfl) rfl mzcR_2_0) (g_iload_n rfl ?_))
      obtain ⟨h7, hp⟩ := hp
      refine g_iald hS.1 (mz_at hS (Nat.le_of_ble_eq_true rfl) mzcS_3) h7 (g_aload_n rfl (g_getR (mz_at hS (Nat.le_of_ble_eq_true rfl) mzcS_2) mzcf_5_1 (mz_rb hR (Nat.le_of_ble_eq_true rfl) rfl mzcR_2_1) (g_iload_n rfl ?_)))
      obtain ⟨h8, hp⟩ := hp
      refine g_aald4 (mz_at hS (Nat.le_of_ble_eq_true rfl) mzcS_4) h8 (mz_rb hR (Nat.le_of_ble_eq_true rfl) rfl (mzcR2_4 h8)) (g_iload_n rfl ?_)
      have h9 := hp
      refine g_iald hS.1 (mz_at hS (mzcL2_4 h8 (Nat.le_of_ble_eq_true rfl)) (mzcS2_4 h8)) h9 ?_
      refine g_iceq (tg := 47) rfl ms_113_47 hC (fun h10 hC => ?_) (fun h10 hC => ?_)
      · refine g_iconst mzi_0 ?_
        exact g_zret (z := false) rfl (hr _ hC)
      · refine g_iconst mzi_1 (g_goto (tg := 48) rfl ms_113_48 ?_)
        exact g_zret (z := true) rfl (hr _ hC)
  · have hp := hp.2 h2
    refine g_iconst mzi_0 ?_
    exact g_zret (z := false) rfl (hr _ hC)
theorem cs_113 (hd : 2 ≤ d) (hS : mz_ext S 232) (hR : mz_rok R 232)  (v1 : Int32) (v2 : Int32) (N : mz_N) (hp : cp_113_0 v1 v2 N) (hq : Q (.inl (some (.int (mz_b01 (cf_113_0 v1 v2 N))))) (mz_k S R N b t)) : mz_Ed (mz_X0 L xs) d 113 [.ref 2, .int v1, .int v2] (mz_k S R N b t) Q :=
  by
  refine g_in mzq_113 (Nat.le_of_ble_eq_true rfl) (Nat.le_of_ble_eq_true rfl) (Nat.le_trans (Nat.le_of_ble_eq_true rfl) hd) ?_
  refine g_weak ?_ (cg_113_0 (d := d - 1) (by omega) hS hR v1 v2 N (C0 := fun z => Q (.inl (some (.int (mz_b01 z)))) (mz_k S R N b t)) (fun _ h => h) hp hq)
  exact ⟨rfl, rfl, rfl, trivial⟩
/-! 112 KeptHouse$Plan.countConflicts (I)I -/
theorem ms_112_0 : mz_sf mk_112 0 = mk_112 := mz_sf_zero _
theorem ms_112_4 : mz_sf mk_112 4 = mt_112_4 := mz_sf_add ms_112_0 (t := 4) rfl rfl
theorem ms_112_23 : mz_sf mk_112 23 = mt_112_23 := mz_sf_add ms_112_4 (t := 19) rfl rfl
theorem ms_112_29 : mz_sf mk_112 29 = mt_112_29 := mz_sf_add ms_112_23 (t := 6) rfl rfl
set_option maxRecDepth 100000 in
theorem mzq_112 : mz_PG0 112 = some (5, ⟨"KeptHouse$Plan", "countConflicts", "(I)I"⟩, prog_7_method_16_code, 4, some .int, [], mk_112, []) := rfl
noncomputable def cf_112_23 (v1 : Int32) (v2 : Int32) (v3 : Int32) (N : mz_N) : ((Int32 × Int32) ⊕ (Int32)) := (.inl (v2, (v3 + 1)))
def cp_112_23 (v1 : Int32) (v2 : Int32) (v3 : Int32) (N : mz_N) : Prop := True
theorem cg_112_23 (hd : 2 ≤ d) (hS : mz_ext S 232) (hR : mz_rok R 232)  (v1 : Int32) (v2 : Int32) (v3 : Int32) (N : mz_N) {C0 : (Int32) → Prop} (hr : ∀ (w : Int32), C0 w → Q (.inl (some (.int w))) (mz_k S R N b t)) {C1 : ((Int32 × Int32) ⊕ (Int32)) → Prop} (hc1 : ∀ s2, C1 (.inl s2) → mz_G (d, mz_X0 L xs, some .int, [], mk_112, 4, Q) 4 mt_112_4 [(0, .ref 2), (1, .int v1), (2, .int s2.1), (3, .int s2.2)] [] false (mz_k S R N b t)) (hx1 : ∀ z, C1 (.inr z) → C0 z) (hp : cp_112_23 v1 v2 v3 N) (hC : C1 (cf_112_23 v1 v2 v3 N)) : mz_G (d, mz_X0 L xs, some .int, [], mk_112, 4, Q) 23 mt_112_23 [(0, .ref 2), (1, .int v1), (2, .int v2), (3, .int v3)] [] false (mz_k S R N b t) := by
  unfold cf_112_23 at hC
  unfold cp_112_23 at hp
  refine g_iinc rfl mzi_1 (Nat.le_of_ble_eq_true rfl) rfl (g_goto (tg := 4) rfl ms_112_4 ?_)
  refine g_weak ?_ (g_cl (hc1 _ hC))
  exact ⟨rfl, rfl, rfl, rfl, trivial⟩
noncomputable def cq_112_4 (v1 : Int32) (N : mz_N) (s : Int32 × Int32) : ((Int32 × Int32) ⊕ (Int32)) := if s.2 < 550 then (if (cf_113_0 v1 s.2 N) = true then (cf_112_23 v1 (s.1 + 1) s.2 N) else (cf_112_23 v1 s.1 s.2 N)) else (.inr s.1)
def cd_112_4 (v1 : Int32) (N : mz_N) (s : Int32 × Int32) : Prop := (s.2 < 550 → ((cp_113_0 v1 s.2 N) ∧ (((cf_113_0 v1 s.2 N) = true → (cp_112_23 v1 (s.1 + 1) s.2 N)) ∧ (¬ ((cf_113_0 v1 s.2 N) = true) → (cp_112_23 v1 s.1 s.2 N))))) ∧ (¬ (s.2 < 550) → True)
noncomputable def cf_112_4 (v1 : Int32) (v2 : Int32) (v3 : Int32) (N : mz_N) : (Int32) := mz_run (cq_112_4 v1 N) (v2, v3)
def cp_112_4 (v1 : Int32) (v2 : Int32) (v3 : Int32) (N : mz_N) : Prop := ∃ n, mz_ok (cq_112_4 v1 N) (cd_112_4 v1 N) n (v2, v3)
theorem cb_112_4 (hd : 2 ≤ d) (hS : mz_ext S 232) (hR : mz_rok R 232)  (v1 : Int32) (N : mz_N) (s : Int32 × Int32) {C0 : (Int32) → Prop} (hr : ∀ (w : Int32), C0 w → Q (.inl (some (.int w))) (mz_k S R N b t)) {C1 : ((Int32 × Int32) ⊕ (Int32)) → Prop} (hc1 : ∀ s2, C1 (.inl s2) → mz_G (d, mz_X0 L xs, some .int, [], mk_112, 4, Q) 4 mt_112_4 [(0, .ref 2), (1, .int v1), (2, .int s2.1), (3, .int s2.2)] [] false (mz_k S R N b t)) (hx1 : ∀ z, C1 (.inr z) → C0 z) (hp : cd_112_4 v1 N s) (hC : C1 (cq_112_4 v1 N s)) : mz_G (d, mz_X0 L xs, some .int, [], mk_112, 4, Q) 4 mt_112_4 [(0, .ref 2), (1, .int v1), (2, .int s.1), (3, .int s.2)] [] false (mz_k S R N b t) := by
  unfold cq_112_4 at hC
  unfold cd_112_4 at hp
  refine g_iload_n rfl (g_sipush mzs_550 ?_)
  refine g_icge (tg := 29) rfl ms_112_29 hC (fun h1 hC => ?_) (fun h1 hC => ?_)
  · have hp := hp.1 h1
    refine g_aload_n rfl (g_iload_n rfl (g_iload_n rfl ?_))
    obtain ⟨h2, hp⟩ := hp
    refine g_v3v (Nat.le_of_ble_eq_true rfl) (mz_at hS (Nat.le_of_ble_eq_true rfl) mzcS_2) (fun _ hq => cs_113 (Nat.le_trans (Nat.le_of_ble_eq_true rfl) hd) (hS.le (Nat.le_of_ble_eq_true rfl)) (hR.le (Nat.le_of_ble_eq_true rfl))  v1 s.2 N h2 hq) ?_
    refine g_zeq (tg := 23) rfl ms_112_23 hC (fun h3 hC => ?_) (fun h3 hC => ?_)
    · have hp := hp.1 h3
      refine g_iinc rfl mzi_1 (Nat.le_of_ble_eq_true rfl) rfl ?_
      refine g_weak ?_ (g_cl (cg_112_23 hd hS hR v1 (s.1 + 1) s.2 N hr hc1 hx1 hp hC))
      exact ⟨rfl, rfl, rfl, rfl, trivial⟩
    · have hp := hp.2 h3
      refine g_weak ?_ (g_cl (cg_112_23 hd hS hR v1 s.1 s.2 N hr hc1 hx1 hp hC))
      exact ⟨rfl, rfl, rfl, rfl, trivial⟩
  · have hp := hp.2 h1
    refine g_iload_n rfl ?_
    exact g_iret rfl (hr _ (hx1 _ hC))
theorem cg_112_4 (hd : 2 ≤ d) (hS : mz_ext S 232) (hR : mz_rok R 232)  (v1 : Int32) (v2 : Int32) (v3 : Int32) (N : mz_N) {C0 : (Int32) → Prop} (hr : ∀ (w : Int32), C0 w → Q (.inl (some (.int w))) (mz_k S R N b t)) (hp : cp_112_4 v1 v2 v3 N) (hC : C0 (cf_112_4 v1 v2 v3 N)) : mz_G (d, mz_X0 L xs, some .int, [], mk_112, 4, Q) 4 mt_112_4 [(0, .ref 2), (1, .int v1), (2, .int v2), (3, .int v3)] [] false (mz_k S R N b t) := by
  obtain ⟨n, hn⟩ := hp
  exact g_loop (G := fun s => mz_G (d, mz_X0 L xs, some .int, [], mk_112, 4, Q) 4 mt_112_4 [(0, .ref 2), (1, .int v1), (2, .int s.1), (3, .int s.2)] [] false (mz_k S R N b t)) (C := C0) (fun C2 hc hx s hP hC => cb_112_4 hd hS hR v1 N s hr hc hx hP hC) n (v2, v3) hn hC
noncomputable def cf_112_0 (v1 : Int32) (N : mz_N) : (Int32) := (cf_112_4 v1 0 0 N)
def cp_112_0 (v1 : Int32) (N : mz_N) : Prop := cp_112_4 v1 0 0 N
theorem cg_112_0 (hd : 2 ≤ d) (hS : mz_ext S 232) (hR : mz_rok R 232)  (v1 : Int32) (N : mz_N) {C0 : (Int32) → Prop} (hr : ∀ (w : Int32), C0 w → Q (.inl (some (.int w))) (mz_k S R N b t)) (hp : cp_112_0 v1 N) (hC : C0 (cf_112_0 v1 N)) : mz_G (d, mz_X0 L xs, some .int, [], mk_112, 4, Q) 0 mk_112 [(0, .ref 2), (1, .int v1)] [] true (mz_k S R N b t) := by
  unfold cf_112_0 at hC
  unfold cp_112_0 at hp
  refine g_iconst mzi_0 (g_istore_n (Nat.le_of_ble_eq_true rfl) rfl (g_iconst mzi_0 (g_istore_n (Nat.le_of_ble_eq_true rfl) rfl ?_)))
  refine g_weak ?_ (g_cl (cg_112_4 hd hS hR v1 0 0 N hr hp hC))
  exact ⟨rfl, rfl, rfl, rfl, trivial⟩
theorem cs_112 (hd : 3 ≤ d) (hS : mz_ext S 232) (hR : mz_rok R 232)  (v1 : Int32) (N : mz_N) (hp : cp_112_0 v1 N) (hq : Q (.inl (some (.int (cf_112_0 v1 N)))) (mz_k S R N b t)) : mz_Ed (mz_X0 L xs) d 112 [.ref 2, .int v1] (mz_k S R N b t) Q :=
  by
  refine g_in mzq_112 (Nat.le_of_ble_eq_true rfl) (Nat.le_of_ble_eq_true rfl) (Nat.le_trans (Nat.le_of_ble_eq_true rfl) hd) ?_
  refine g_weak ?_ (cg_112_0 (d := d - 1) (by omega) hS hR v1 N (C0 := fun z => Q (.inl (some (.int z))) (mz_k S R N b t)) (fun _ h => h) hp hq)
  exact ⟨rfl, rfl, trivial⟩
/-! 116 KeptHouse$Plan.countTrial ()I -/
theorem ms_116_0 : mz_sf mk_116 0 = mk_116 := mz_sf_zero _
set_option maxRecDepth 100000 in
theorem mzq_116 : mz_PG0 116 = some (5, ⟨"KeptHouse$Plan", "countTrial", "()I"⟩, prog_7_method_20_code, 1, some .int, [], mk_116, []) := rfl
noncomputable def cf_116_0 (N : mz_N) : (Int32 × mz_N) := (((cf_78_0 12 13 N).1), (cf_78_0 12 13 N).2)
def cp_116_0 (N : mz_N) : Prop := cp_78_0 12 13 N
theorem cg_116_0 (hd : 3 ≤ d) (hS : mz_ext S 232) (hR : mz_rok R 232)  (N : mz_N) {C0 : (Int32 × mz_N) → Prop} (hr : ∀ (w : Int32) (N2 : mz_N), C0 (w, N2) → Q (.inl (some (.int w))) (mz_k S R N2 b t)) (hp : cp_116_0 N) (hC : C0 (cf_116_0 N)) : mz_G (d, mz_X0 L xs, some .int, [], mk_116, 1, Q) 0 mk_116 [(0, .ref 2)] [] true (mz_k S R N b t) := by
  unfold cf_116_0 at hC
  unfold cp_116_0 at hp
  refine g_aload_n rfl (g_aload_n rfl (g_getR (mz_at hS (Nat.le_of_ble_eq_true rfl) mzcS_2) mzcf_5_4 (mz_rb hR (Nat.le_of_ble_eq_true rfl) rfl mzcR_2_4) (g_aload_n rfl (g_getR (mz_at hS (Nat.le_of_ble_eq_true rfl) mzcS_2) mzcf_5_5 (mz_rb hR (Nat.le_of_ble_eq_true rfl) rfl mzcR_2_5) ?_))))
  have h1 := hp
  refine g_v3v (Nat.le_of_ble_eq_true rfl) (mz_at hS (Nat.le_of_ble_eq_true rfl) mzcS_2) (fun _ hq => cs_78 (Nat.le_trans (Nat.le_of_ble_eq_true rfl) hd) (hS.le (Nat.le_of_ble_eq_true rfl)) (hR.le (Nat.le_of_ble_eq_true rfl)) 12 13 (mz_at hS (Nat.le_of_ble_eq_true rfl) mzcS_12) (mz_at hS (Nat.le_of_ble_eq_true rfl) mzcS_13) N h1 hq) ?_
  exact g_iret rfl (hr _ _ hC)
theorem cs_116 (hd : 4 ≤ d) (hS : mz_ext S 232) (hR : mz_rok R 232)  (N : mz_N) (hp : cp_116_0 N) (hq : Q (.inl (some (.int ((cf_116_0 N).1)))) (mz_k S R ((cf_116_0 N).2) b t)) : mz_Ed (mz_X0 L xs) d 116 [.ref 2] (mz_k S R N b t) Q :=
  by
  refine g_in mzq_116 (Nat.le_of_ble_eq_true rfl) (Nat.le_of_ble_eq_true rfl) (Nat.le_trans (Nat.le_of_ble_eq_true rfl) hd) ?_
  refine g_weak ?_ (cg_116_0 (d := d - 1) (by omega) hS hR N (C0 := fun z => Q (.inl (some (.int z.1))) (mz_k S R z.2 b t)) (fun _ _ h => h) hp hq)
  exact ⟨rfl, trivial⟩
/-! 118 KeptHouse$Plan.trialDiffers (I)Z -/
theorem ms_118_0 : mz_sf mk_118 0 = mk_118 := mz_sf_zero _
theorem ms_118_2 : mz_sf mk_118 2 = mt_118_2 := mz_sf_add ms_118_0 (t := 2) rfl rfl
theorem ms_118_33 : mz_sf mk_118 33 = mt_118_33 := mz_sf_add ms_118_2 (t := 31) rfl rfl
theorem ms_118_35 : mz_sf mk_118 35 = mt_118_35 := mz_sf_add ms_118_33 (t := 2) rfl rfl
theorem ms_118_41 : mz_sf mk_118 41 = mt_118_41 := mz_sf_add ms_118_35 (t := 6) rfl rfl
set_option maxRecDepth 100000 in
theorem mzq_118 : mz_PG0 118 = some (5, ⟨"KeptHouse$Plan", "trialDiffers", "(I)Z"⟩, prog_7_method_21_code, 3, some .boolean, [], mk_118, []) := rfl
noncomputable def cq_118_2 (v1 : Int32) (N : mz_N) (s : Int32) : ((Int32) ⊕ (Bool)) := if s < 110 then (if (mz_gI N 12 ((v1 * 110) + s)) = (mz_gI N 3 ((v1 * 110) + s)) then (.inl ((s + 1))) else (.inr true)) else (.inr false)
def cd_118_2 (v1 : Int32) (N : mz_N) (s : Int32) : Prop := (s < 110 → ((mz_ib ((v1 * 110) + s) 550) ∧ (mz_ib ((v1 * 110) + s) 550))) ∧ (¬ (s < 110) → True)
noncomputable def cf_118_2 (v1 : Int32) (v2 : Int32) (N : mz_N) : (Bool) := mz_run (cq_118_2 v1 N) (v2)
def cp_118_2 (v1 : Int32) (v2 : Int32) (N : mz_N) : Prop := ∃ n, mz_ok (cq_118_2 v1 N) (cd_118_2 v1 N) n (v2)
theorem cb_118_2 (hd : 0 ≤ d) (hS : mz_ext S 232) (hR : mz_rok R 232)  (v1 : Int32) (N : mz_N) (s : Int32) {C0 : (Bool) → Prop} (hr : ∀ (w : Bool), C0 w → Q (.inl (some (.int (mz_b01 w)))) (mz_k S R N b t)) {C1 : ((Int32) ⊕ (Bool)) → Prop} (hc1 : ∀ s2, C1 (.inl s2) → mz_G (d, mz_X0 L xs, some .boolean, [], mk_118, 3, Q) 2 mt_118_2 [(0, .ref 2), (1, .int v1), (2, .int s2)] [] false (mz_k S R N b t)) (hx1 : ∀ z, C1 (.inr z) → C0 z) (hp : cd_118_2 v1 N s) (hC : C1 (cq_118_2 v1 N s)) : mz_G (d, mz_X0 L xs, some .boolean, [], mk_118, 3, Q) 2 mt_118_2 [(0, .ref 2), (1, .int v1), (2, .int s)] [] false (mz_k S R N b t) := by
  unfold cq_118_2 at hC
  unfold cd_118_2 at hp
  refine g_iload_n rfl (g_bipush mzb_110 ?_)
  refine g_icge (tg := 41) rfl ms_118_41 hC (fun h1 hC => ?_) (fun h1 hC => ?_)
  · have hp := hp.1 h1
    refine g_aload_n rfl (g_getR (mz_at hS (Nat.le_of_ble_eq_true rfl) mzcS_2) mzcf_5_4 (mz_rb hR (Nat.le_of_ble_eq_true rfl) rfl mzcR_2_4) (g_iload_n rfl (g_bipush mzb_110 (g_imul (g_iload_n rfl (g_iadd ?_))))))
    obtain ⟨h2, hp⟩ := hp
    refine g_iald hS.1 (mz_at hS (Nat.le_of_ble_eq_true rfl) mzcS_12) h2 (g_aload_n rfl (g_getR (mz_at hS (Nat.le_of_ble_eq_true rfl) mzcS_2) mzcf_5_0 (mz_rb hR (Nat.le_of_ble_eq_true rfl) rfl mzcR_2_0) (g_iload_n rfl (g_bipush mzb_110 (g_imul (g_iload_n rfl (g_iadd ?_)))))))
    have h3 := hp
    refine g_iald hS.1 (mz_at hS (Nat.le_of_ble_eq_true rfl) mzcS_3) h3 ?_
    refine g_iceq (tg := 35) rfl ms_118_35 hC (fun h4 hC => ?_) (fun h4 hC => ?_)
    · refine g_iinc rfl mzi_1 (Nat.le_of_ble_eq_true rfl) rfl (g_goto (tg := 2) rfl ms_118_2 ?_)
      refine g_weak ?_ (g_cl (hc1 _ hC))
      exact ⟨rfl, rfl, rfl, trivial⟩
    · refine g_iconst mzi_1 ?_
      exact g_zret (z := true) rfl (hr _ (hx1 _ hC))
  · have hp := hp.2 h1
    refine g_iconst mzi_0 ?_
    exact g_zret (z := false) rfl (hr _ (hx1 _ hC))
theorem cg_118_2 (hd : 0 ≤ d) (hS : mz_ext S 232) (hR : mz_rok R 232)  (v1 : Int32) (v2 : Int32) (N : mz_N) {C0 : (Bool) → Prop} (hr : ∀ (w : Bool), C0 w → Q (.inl (some (.int (mz_b01 w)))) (mz_k S R N b t)) (hp : cp_118_2 v1 v2 N) (hC : C0 (cf_118_2 v1 v2 N)) : mz_G (d, mz_X0 L xs, some .boolean, [], mk_118, 3, Q) 2 mt_118_2 [(0, .ref 2), (1, .int v1), (2, .int v2)] [] false (mz_k S R N b t) := by
  obtain ⟨n, hn⟩ := hp
  exact g_loop (G := fun s => mz_G (d, mz_X0 L xs, some .boolean, [], mk_118, 3, Q) 2 mt_118_2 [(0, .ref 2), (1, .int v1), (2, .int s)] [] false (mz_k S R N b t)) (C := C0) (fun C2 hc hx s hP hC => cb_118_2 hd hS hR v1 N s hr hc hx hP hC) n (v2) hn hC
noncomputable def cf_118_0 (v1 : Int32) (N : mz_N) : (Bool) := (cf_118_2 v1 0 N)
def cp_118_0 (v1 : Int32) (N : mz_N) : Prop := cp_118_2 v1 0 N
theorem cg_118_0 (hd : 0 ≤ d) (hS : mz_ext S 232) (hR : mz_rok R 232)  (v1 : Int32) (N : mz_N) {C0 : (Bool) → Prop} (hr : ∀ (w : Bool), C0 w → Q (.inl (some (.int (mz_b01 w)))) (mz_k S R N b t)) (hp : cp_118_0 v1 N) (hC : C0 (cf_118_0 v1 N)) : mz_G (d, mz_X0 L xs, some .boolean, [], mk_118, 3, Q) 0 mk_118 [(0, .ref 2), (1, .int v1)] [] true (mz_k S R N b t) := by
  unfold cf_118_0 at hC
  unfold cp_118_0 at hp
  refine g_iconst mzi_0 (g_istore_n (Nat.le_of_ble_eq_true rfl) rfl ?_)
  refine g_weak ?_ (g_cl (cg_118_2 hd hS hR v1 0 N hr hp hC))
  exact ⟨rfl, rfl, rfl, trivial⟩
theorem cs_118 (hd : 1 ≤ d) (hS : mz_ext S 232) (hR : mz_rok R 232)  (v1 : Int32) (N : mz_N) (hp : cp_118_0 v1 N) (hq : Q (.inl (some (.int (mz_b01 (cf_118_0 v1 N))))) (mz_k S R N b t)) : mz_Ed (mz_X0 L xs) d 118 [.ref 2, .int v1] (mz_k S R N b t) Q :=
  by
  refine g_in mzq_118 (Nat.le_of_ble_eq_true rfl) (Nat.le_of_ble_eq_true rfl) (Nat.le_trans (Nat.le_of_ble_eq_true rfl) hd) ?_
  refine g_weak ?_ (cg_118_0 (d := d - 1) (by omega) hS hR v1 N (C0 := fun z => Q (.inl (some (.int (mz_b01 z)))) (mz_k S R N b t)) (fun _ h => h) hp hq)
  exact ⟨rfl, rfl, trivial⟩
end Fn1
