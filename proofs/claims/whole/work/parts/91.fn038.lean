/-! THE FUNCTIONS: written by program: each method comes to its function. -/
section Fn38
variable {L : Nat} {xs : Nat → Int32} {d : Nat} {S : mz_S} {R : Nat → Nat → Option Nat} {Q : mz_Q} {N : mz_N} {b : Bool} {t : Nat}
/-! 607 KeptHouseModel.put ()I -/
theorem ms_607_0 : mz_sf mk_607 0 = mk_607 := mz_sf_zero _
theorem ms_607_9 : mz_sf mk_607 9 = mt_607_9 := mz_sf_add ms_607_0 (t := 9) rfl rfl
theorem ms_607_20 : mz_sf mk_607 20 = mt_607_20 := mz_sf_add ms_607_9 (t := 11) rfl rfl
theorem ms_607_39 : mz_sf mk_607 39 = mt_607_39 := mz_sf_add ms_607_20 (t := 19) rfl rfl
theorem ms_607_41 : mz_sf mk_607 41 = mt_607_41 := mz_sf_add ms_607_39 (t := 2) rfl rfl
theorem ms_607_63 : mz_sf mk_607 63 = mt_607_63 := mz_sf_add ms_607_41 (t := 22) rfl rfl
theorem ms_607_66 : mz_sf mk_607 66 = mt_607_66 := mz_sf_add ms_607_63 (t := 3) rfl rfl
theorem ms_607_68 : mz_sf mk_607 68 = mt_607_68 := mz_sf_add ms_607_66 (t := 2) rfl rfl
theorem ms_607_90 : mz_sf mk_607 90 = mt_607_90 := mz_sf_add ms_607_68 (t := 22) rfl rfl
theorem ms_607_93 : mz_sf mk_607 93 = mt_607_93 := mz_sf_add ms_607_90 (t := 3) rfl rfl
set_option maxRecDepth 100000 in
theorem mzq_607 : mz_PG0 607 = some (12, ⟨"KeptHouseModel", "put", "()I"⟩, prog_14_method_214_code, 3, some .int, [], mk_607, []) := rfl
theorem cb_607_68 (hd : 11 ≤ d) (hS : mz_extR S 342) (hR : mz_rok R 342)   (s : Int32 × mz_N) {C0 : (Int32 × mz_N) → Prop} (hr : ∀ (w : Int32) (N2 : mz_N), C0 (w, N2) → Q (.inl (some (.int w))) (mz_k S R N2 b t)) {C1 : ((Int32 × mz_N) ⊕ (Int32 × mz_N)) → Prop} (hc1 : ∀ s2, C1 (.inl s2) → mz_G (d, mz_X0 L xs, some .int, [], mk_607, 3, Q) 68 mt_607_68 [(0, .ref 232), (2, .int s2.1)] [] false (mz_k S R s2.2 b t)) (hx1 : ∀ z, C1 (.inr z) → C0 z) (hp : cd_607_68  s) (hC : C1 (cq_607_68  s)) : mz_G (d, mz_X0 L xs, some .int, [], mk_607, 3, Q) 68 mt_607_68 [(0, .ref 232), (2, .int s.1)] [] false (mz_k S R s.2 b t) := by
  unfold cq_607_68 at hC
  unfold cd_607_68 at hp
  refine g_iload_n rfl (g_sipush mzs_3780 ?_)
  refine g_icge (tg := 93) rfl ms_607_93 hC (fun h1 hC => ?_) (fun h1 hC => ?_)
  · have hp := hp.1 h1
    refine g_aload_n rfl (g_getR (mz_at hS (Nat.le_of_ble_eq_true rfl) mzcS_232) mzcf_12_131 (mz_rb hR (Nat.le_of_ble_eq_true rfl) rfl mzcR_232_131) (g_iload_n rfl (g_aload_n rfl (g_getR (mz_at hS (Nat.le_of_ble_eq_true rfl) mzcS_232) mzcf_12_145 (mz_rb hR (Nat.le_of_ble_eq_true rfl) rfl mzcR_232_145) (g_iload_n rfl ?_)))))
    obtain ⟨h2, hp⟩ := hp
    refine g_bald (mz_at hS (Nat.le_of_ble_eq_true rfl) mzcS_337) h2 ?_
    have h3 := hp
    refine g_bast (mz_at hS (Nat.le_of_ble_eq_true rfl) mzcS_331) h3 (g_iinc rfl mzi_1 (Nat.le_of_ble_eq_true rfl) rfl (g_goto (tg := 68) rfl ms_607_68 ?_))
    refine g_weak ?_ (g_cl (hc1 ((s.1 + 1), mz_wI s.2 331 s.1 (mz_nb (mz_gI s.2 337 s.1))) hC))
    exact ⟨rfl, rfl, trivial⟩
  · have hp := hp.2 h1
    refine g_aload_n rfl ?_
    have h4 := hp
    refine g_v1n (Nat.le_of_ble_eq_true rfl) (mz_at hS (Nat.le_of_ble_eq_true rfl) mzcS_232) (fun _ hq => cs_414 (Nat.le_trans (Nat.le_of_ble_eq_true rfl) hd) (hS.le (Nat.le_of_ble_eq_true rfl)) (hR.le (Nat.le_of_ble_eq_true rfl))  s.2 h4 hq) (g_iconst mzi_0 ?_)
    exact g_iret rfl (hr _ _ (hx1 _ hC))
theorem cg_607_68 (hd : 11 ≤ d) (hS : mz_extR S 342) (hR : mz_rok R 342)  (v2 : Int32) (N : mz_N) {C0 : (Int32 × mz_N) → Prop} (hr : ∀ (w : Int32) (N2 : mz_N), C0 (w, N2) → Q (.inl (some (.int w))) (mz_k S R N2 b t)) (hp : cp_607_68 v2 N) (hC : C0 (cf_607_68 v2 N)) : mz_G (d, mz_X0 L xs, some .int, [], mk_607, 3, Q) 68 mt_607_68 [(0, .ref 232), (2, .int v2)] [] false (mz_k S R N b t) := by
  obtain ⟨n, hn⟩ := hp
  exact g_loop (G := fun s => mz_G (d, mz_X0 L xs, some .int, [], mk_607, 3, Q) 68 mt_607_68 [(0, .ref 232), (2, .int s.1)] [] false (mz_k S R s.2 b t)) (C := C0) (fun C2 hc hx s hP hC => cb_607_68 hd hS hR  s hr hc hx hP hC) n (v2, N) hn hC
theorem cb_607_41 (hd : 11 ≤ d) (hS : mz_extR S 342) (hR : mz_rok R 342)   (s : Int32 × mz_N) {C0 : (Int32 × mz_N) → Prop} (hr : ∀ (w : Int32) (N2 : mz_N), C0 (w, N2) → Q (.inl (some (.int w))) (mz_k S R N2 b t)) {C1 : ((Int32 × mz_N) ⊕ (Int32 × mz_N)) → Prop} (hc1 : ∀ s2, C1 (.inl s2) → mz_G (d, mz_X0 L xs, some .int, [], mk_607, 3, Q) 41 mt_607_41 [(0, .ref 232), (2, .int s2.1)] [] false (mz_k S R s2.2 b t)) (hx1 : ∀ z, C1 (.inr z) → C0 z) (hp : cd_607_41  s) (hC : C1 (cq_607_41  s)) : mz_G (d, mz_X0 L xs, some .int, [], mk_607, 3, Q) 41 mt_607_41 [(0, .ref 232), (2, .int s.1)] [] false (mz_k S R s.2 b t) := by
  unfold cq_607_41 at hC
  unfold cd_607_41 at hp
  refine g_iload_n rfl (g_sipush mzs_135 ?_)
  refine g_icge (tg := 66) rfl ms_607_66 hC (fun h1 hC => ?_) (fun h1 hC => ?_)
  · have hp := hp.1 h1
    refine g_aload_n rfl (g_getR (mz_at hS (Nat.le_of_ble_eq_true rfl) mzcS_232) mzcf_12_130 (mz_rb hR (Nat.le_of_ble_eq_true rfl) rfl mzcR_232_130) (g_iload_n rfl (g_aload_n rfl (g_getR (mz_at hS (Nat.le_of_ble_eq_true rfl) mzcS_232) mzcf_12_144 (mz_rb hR (Nat.le_of_ble_eq_true rfl) rfl mzcR_232_144) (g_iload_n rfl ?_)))))
    obtain ⟨h2, hp⟩ := hp
    obtain ⟨h3, hp⟩ := hp
    refine g_zald (mz_at hS (Nat.le_of_ble_eq_true rfl) mzcS_336) h2 h3 ?_
    have h4 := hp
    refine g_zast (z := (mz_gZ s.2 336 s.1)) (mz_at hS (Nat.le_of_ble_eq_true rfl) mzcS_330) h4 (g_iinc rfl mzi_1 (Nat.le_of_ble_eq_true rfl) rfl (g_goto (tg := 41) rfl ms_607_41 ?_))
    refine g_weak ?_ (g_cl (hc1 ((s.1 + 1), mz_wI s.2 330 s.1 (mz_b01 (mz_gZ s.2 336 s.1))) hC))
    exact ⟨rfl, rfl, trivial⟩
  · have hp := hp.2 h1
    refine g_iconst mzi_0 (g_istore_n (Nat.le_of_ble_eq_true rfl) rfl ?_)
    refine g_weak ?_ (g_cl (cg_607_68 hd hS hR 0 s.2 hr hp (hx1 _ hC)))
    exact ⟨rfl, rfl, trivial⟩
theorem cg_607_41 (hd : 11 ≤ d) (hS : mz_extR S 342) (hR : mz_rok R 342)  (v2 : Int32) (N : mz_N) {C0 : (Int32 × mz_N) → Prop} (hr : ∀ (w : Int32) (N2 : mz_N), C0 (w, N2) → Q (.inl (some (.int w))) (mz_k S R N2 b t)) (hp : cp_607_41 v2 N) (hC : C0 (cf_607_41 v2 N)) : mz_G (d, mz_X0 L xs, some .int, [], mk_607, 3, Q) 41 mt_607_41 [(0, .ref 232), (2, .int v2)] [] false (mz_k S R N b t) := by
  obtain ⟨n, hn⟩ := hp
  exact g_loop (G := fun s => mz_G (d, mz_X0 L xs, some .int, [], mk_607, 3, Q) 41 mt_607_41 [(0, .ref 232), (2, .int s.1)] [] false (mz_k S R s.2 b t)) (C := C0) (fun C2 hc hx s hP hC => cb_607_41 hd hS hR  s hr hc hx hP hC) n (v2, N) hn hC
theorem cg_607_0 (hd : 11 ≤ d) (hS : mz_extR S 342) (hR : mz_rok R 342)  (N : mz_N) {C0 : (Int32 × mz_N) → Prop} (hr : ∀ (w : Int32) (N2 : mz_N), C0 (w, N2) → Q (.inl (some (.int w))) (mz_k S R N2 b t)) (hp : cp_607_0 N) (hC : C0 (cf_607_0 N)) : mz_G (d, mz_X0 L xs, some .int, [], mk_607, 3, Q) 0 mk_607 [(0, .ref 232)] [] true (mz_k S R N b t) := by
  unfold cf_607_0 at hC
  unfold cp_607_0 at hp
  refine g_aload_n rfl ?_
  obtain ⟨h1, hp⟩ := hp
  refine g_v1v (Nat.le_of_ble_eq_true rfl) (mz_at hS (Nat.le_of_ble_eq_true rfl) mzcS_232) (fun _ hq => cs_484 (Nat.le_trans (Nat.le_of_ble_eq_true rfl) hd) (hS.le (Nat.le_of_ble_eq_true rfl)) (hR.le (Nat.le_of_ble_eq_true rfl))  N h1 hq) ?_
  refine g_zeq (tg := 9) rfl ms_607_9 hC (fun h2 hC => ?_) (fun h2 hC => ?_)
  · have hp := hp.1 h2
    refine g_iconst mzi_0 ?_
    exact g_iret rfl (hr _ _ hC)
  · have hp := hp.2 h2
    refine g_aload_n rfl ?_
    obtain ⟨h3, hp⟩ := hp
    refine g_v1v (Nat.le_of_ble_eq_true rfl) (mz_at hS (Nat.le_of_ble_eq_true rfl) mzcS_232) (fun _ hq => cs_608 (Nat.le_trans (Nat.le_of_ble_eq_true rfl) hd) (hS.le (Nat.le_of_ble_eq_true rfl)) (hR.le (Nat.le_of_ble_eq_true rfl))  ((cf_484_0 N).2) h3 hq) (g_istore_n (Nat.le_of_ble_eq_true rfl) rfl (g_iload_n rfl ?_))
    refine g_ifle (tg := 20) rfl ms_607_20 hC (fun h4 hC => ?_) (fun h4 hC => ?_)
    · have hp := hp.1 h4
      refine g_iload_n rfl ?_
      exact g_iret rfl (hr _ _ hC)
    · have hp := hp.2 h4
      refine g_aload_n rfl (g_aload_n rfl (g_getR (mz_at hS (Nat.le_of_ble_eq_true rfl) mzcS_232) mzcf_12_144 (mz_rb hR (Nat.le_of_ble_eq_true rfl) rfl mzcR_232_144) (g_aload_n rfl (g_getR (mz_at hS (Nat.le_of_ble_eq_true rfl) mzcS_232) mzcf_12_145 (mz_rb hR (Nat.le_of_ble_eq_true rfl) rfl mzcR_232_145) ?_))))
      obtain ⟨h5, hp⟩ := hp
      refine g_v3v (Nat.le_of_ble_eq_true rfl) (mz_at hS (Nat.le_of_ble_eq_true rfl) mzcS_232) (fun _ hq => cs_475 (Nat.le_trans (Nat.le_of_ble_eq_true rfl) hd) (hS.le (Nat.le_of_ble_eq_true rfl)) (hR.le (Nat.le_of_ble_eq_true rfl)) 336 337 (mz_at hS (Nat.le_of_ble_eq_true rfl) mzcS_336) (mz_at hS (Nat.le_of_ble_eq_true rfl) mzcS_337) ((cf_608_0 ((cf_484_0 N).2)).2) h5 hq) ?_
      refine g_zne (tg := 39) rfl ms_607_39 hC (fun h6 hC => ?_) (fun h6 hC => ?_)
      · have hp := hp.1 h6
        refine g_iconst mzi_0 (g_istore_n (Nat.le_of_ble_eq_true rfl) rfl ?_)
        refine g_weak ?_ (g_cl (cg_607_41 hd hS hR 0 ((cf_475_0 336 337 ((cf_608_0 ((cf_484_0 N).2)).2)).2) hr hp hC))
        exact ⟨rfl, rfl, trivial⟩
      · have hp := hp.2 h6
        refine g_sipush mzs_m1001 ?_
        exact g_iret rfl (hr _ _ hC)
theorem cs_607 (hd : 12 ≤ d) (hS : mz_extR S 342) (hR : mz_rok R 342)  (N : mz_N) (hp : cp_607_0 N) (hq : Q (.inl (some (.int ((cf_607_0 N).1)))) (mz_k S R ((cf_607_0 N).2) b t)) : mz_Ed (mz_X0 L xs) d 607 [.ref 232] (mz_k S R N b t) Q :=
  by
  refine g_in mzq_607 (Nat.le_of_ble_eq_true rfl) (Nat.le_of_ble_eq_true rfl) (Nat.le_trans (Nat.le_of_ble_eq_true rfl) hd) ?_
  refine g_weak ?_ (cg_607_0 (d := d - 1) (by omega) hS hR N (C0 := fun z => Q (.inl (some (.int z.1))) (mz_k S R z.2 b t)) (fun _ _ h => h) hp hq)
  exact ⟨rfl, trivial⟩
end Fn38
