/-! THE FUNCTIONS: written by program: the constructors come to their functions; the law. -/
section Fn900
variable {L : Nat} {xs : Nat → Int32} {d : Nat} {S : mz_S} {R : Nat → Nat → Option Nat} {Q : mz_Q} {N : mz_N} {b : Bool} {t : Nat}
/-! 2 KeptHouse$Plan.<init> ()V -/
theorem ms_2_0 : mz_sf mk_2 0 = mk_2 := mz_sf_zero _
theorem ms_2_37 : mz_sf mk_2 37 = mt_2_37 := mz_sf_add ms_2_0 (t := 37) rfl rfl
theorem ms_2_63 : mz_sf mk_2 63 = mt_2_63 := mz_sf_add ms_2_37 (t := 26) rfl rfl
theorem ms_2_93 : mz_sf mk_2 93 = mt_2_93 := mz_sf_add ms_2_63 (t := 30) rfl rfl
theorem ms_2_123 : mz_sf mk_2 123 = mt_2_123 := mz_sf_add ms_2_93 (t := 30) rfl rfl
theorem ms_2_148 : mz_sf mk_2 148 = mt_2_148 := mz_sf_add ms_2_123 (t := 25) rfl rfl
set_option maxRecDepth 100000 in
theorem mzq_2 : mz_PG0 2 = some (5, ⟨"KeptHouse$Plan", "<init>", "()V"⟩, prog_7_method_1_code, 1, none, [], mk_2, []) := rfl
theorem cg_2_123 (hd : 0 ≤ d) (N : mz_N) (hp : cp_2_123 N) (hq : Q (.inl none) (mz_k (mz_S0.take 41) (mz_Rq 38) (cf_2_123 N) false 0)) : mz_G (d, mz_X0 L xs, none, [], mk_2, 1, Q) 123 mt_2_123 [(0, .ref 2)] [] false (mz_k (mz_S0.take 37) (mz_Rq 34) N false 0) := by
  unfold cf_2_123 at hq
  refine g_aload_n rfl (g_sipush mzs_240 (g_newarrT (by decide) (by decide) (Nat.le_of_ble_eq_true rfl) (by decide) mzcS_37 (by decide +kernel) (g_putRT (mz_takT mzcS_2 (Nat.le_of_ble_eq_true rfl)) mzcf_5_15 (by decide +kernel) ⟨fun h => absurd h (by decide), fun h => absurd h (by decide)⟩ (g_aload_n rfl (g_bipush mzb_10 ?_)))))
  refine g_newarrT (by decide) (by decide) (Nat.le_of_ble_eq_true rfl) (by decide) mzcS_38 (by decide +kernel) (g_putRT (mz_takT mzcS_2 (Nat.le_of_ble_eq_true rfl)) mzcf_5_16 (by decide +kernel) ⟨fun h => absurd h (by decide), fun h => absurd h (by decide)⟩ (g_aload_n rfl (g_bipush mzb_10 (g_newarrT (by decide) (by decide) (Nat.le_of_ble_eq_true rfl) (by decide) mzcS_39 (by decide +kernel) (g_putRT (mz_takT mzcS_2 (Nat.le_of_ble_eq_true rfl)) mzcf_5_17 (by decide +kernel) ⟨fun h => absurd h (by decide), fun h => absurd h (by decide)⟩ ?_)))))
  refine g_aload_n rfl (g_sipush mzs_240 (g_newarrT (by decide) (by decide) (Nat.le_of_ble_eq_true rfl) (by decide) mzcS_40 (by decide +kernel) (g_putRT (mz_takT mzcS_2 (Nat.le_of_ble_eq_true rfl)) mzcf_5_18 (by decide +kernel) ⟨fun h => absurd h (by decide), fun h => absurd h (by decide)⟩ ?_)))
  exact g_vret rfl hq
theorem cg_2_63 (hd : 0 ≤ d) (N : mz_N) (hp : cp_2_63 N) (hq : Q (.inl none) (mz_k (mz_S0.take 41) (mz_Rq 38) (cf_2_63 N) false 0)) : mz_G (d, mz_X0 L xs, none, [], mk_2, 1, Q) 63 mt_2_63 [(0, .ref 2)] [] false (mz_k (mz_S0.take 15) (mz_Rq 12) N false 0) := by
  unfold cf_2_63 at hq
  unfold cp_2_63 at hp
  refine g_aload_n rfl (g_sipush mzs_240 (g_newarrT (by decide) (by decide) (Nat.le_of_ble_eq_true rfl) (by decide) mzcS_15 (by decide +kernel) (g_putRT (mz_takT mzcS_2 (Nat.le_of_ble_eq_true rfl)) mzcf_5_8 (by decide +kernel) ⟨fun h => absurd h (by decide), fun h => absurd h (by decide)⟩ (g_aload_n rfl (g_bipush mzb_13 ?_)))))
  refine g_bipush mzb_40 (g_new2T (a2 := 30) (m2 := 26) (n0 := 13) (n1 := 40) (by decide) (by decide) (by decide) (by decide) (Nat.le_of_ble_eq_true rfl) (Nat.le_of_ble_eq_true rfl) (Or.inl rfl) (Nat.le_of_ble_eq_true rfl) (by decide +kernel) (by decide +kernel) (by decide) (by decide +kernel) (g_putRT (mz_takT mzcS_2 (Nat.le_of_ble_eq_true rfl)) mzcf_5_9 (by decide +kernel) ⟨fun h => absurd h (by decide), fun h => absurd h (by decide)⟩ (g_aload_n rfl (g_sipush mzs_240 (g_newarrT (by decide) (by decide) (Nat.le_of_ble_eq_true rfl) (by decide) mzcS_30 (by decide +kernel) ?_)))))
  refine g_putRT (mz_takT mzcS_2 (Nat.le_of_ble_eq_true rfl)) mzcf_5_10 (by decide +kernel) ⟨fun h => absurd h (by decide), fun h => absurd h (by decide)⟩ (g_aload_n rfl (g_sipush mzs_1600 (g_newarrT (by decide) (by decide) (Nat.le_of_ble_eq_true rfl) (by decide) mzcS_31 (by decide +kernel) (g_putRT (mz_takT mzcS_2 (Nat.le_of_ble_eq_true rfl)) mzcf_5_11 (by decide +kernel) ⟨fun h => absurd h (by decide), fun h => absurd h (by decide)⟩ (g_aload_n rfl ?_)))))
  refine g_iconst mzi_3 (g_sipush mzs_780 (g_new2T (a2 := 36) (m2 := 32) (n0 := 3) (n1 := 780) (by decide) (by decide) (by decide) (by decide) (Nat.le_of_ble_eq_true rfl) (Nat.le_of_ble_eq_true rfl) (Or.inl rfl) (Nat.le_of_ble_eq_true rfl) (by decide +kernel) (by decide +kernel) (by decide) (by decide +kernel) (g_putRT (mz_takT mzcS_2 (Nat.le_of_ble_eq_true rfl)) mzcf_5_12 (by decide +kernel) ⟨fun h => absurd h (by decide), fun h => absurd h (by decide)⟩ (g_aload_n rfl (g_sipush mzs_240 ?_)))))
  refine g_newarrT (by decide) (by decide) (Nat.le_of_ble_eq_true rfl) (by decide) mzcS_36 (by decide +kernel) (g_putRT (mz_takT mzcS_2 (Nat.le_of_ble_eq_true rfl)) mzcf_5_14 (by decide +kernel) ⟨fun h => absurd h (by decide), fun h => absurd h (by decide)⟩ ?_)
  refine g_weak ?_ (g_cl (cg_2_123 hd (mz_nN (mz_nNN (mz_nN (mz_nN (mz_nNN (mz_nN N 15) 16) 30) 31) 32) 36) hp hq))
  exact ⟨rfl, trivial⟩
theorem cg_2_0 (hd : 0 ≤ d) (N : mz_N) (hp : cp_2_0 N) (hq : Q (.inl none) (mz_k (mz_S0.take 41) (mz_Rq 38) (cf_2_0 N) false 0)) : mz_G (d, mz_X0 L xs, none, [], mk_2, 1, Q) 0 mk_2 [(0, .ref 2)] [] true (mz_k (mz_S0.take 3) (mz_Rq 0) N false 0) := by
  unfold cf_2_0 at hq
  unfold cp_2_0 at hp
  refine g_aload_n rfl (g_objT (Nat.le_of_ble_eq_true rfl) (g_aload_n rfl (g_sipush mzs_550 (g_newarrT (by decide) (by decide) (Nat.le_of_ble_eq_true rfl) (by decide) mzcS_3 (by decide +kernel) (g_putRT (mz_takT mzcS_2 (Nat.le_of_ble_eq_true rfl)) mzcf_5_0 (by decide +kernel) ⟨fun h => absurd h (by decide), fun h => absurd h (by decide)⟩ ?_)))))
  refine g_aload_n rfl (g_iconst mzi_3 (g_sipush mzs_550 (g_new2T (a2 := 8) (m2 := 4) (n0 := 3) (n1 := 550) (by decide) (by decide) (by decide) (by decide) (Nat.le_of_ble_eq_true rfl) (Nat.le_of_ble_eq_true rfl) (Or.inl rfl) (Nat.le_of_ble_eq_true rfl) (by decide +kernel) (by decide +kernel) (by decide) (by decide +kernel) (g_putRT (mz_takT mzcS_2 (Nat.le_of_ble_eq_true rfl)) mzcf_5_1 (by decide +kernel) ⟨fun h => absurd h (by decide), fun h => absurd h (by decide)⟩ (g_aload_n rfl ?_)))))
  refine g_iconst mzi_3 (g_sipush mzs_550 (g_new2T (a2 := 12) (m2 := 8) (n0 := 3) (n1 := 550) (by decide) (by decide) (by decide) (by decide) (Nat.le_of_ble_eq_true rfl) (Nat.le_of_ble_eq_true rfl) (Or.inl rfl) (Nat.le_of_ble_eq_true rfl) (by decide +kernel) (by decide +kernel) (by decide) (by decide +kernel) (g_putRT (mz_takT mzcS_2 (Nat.le_of_ble_eq_true rfl)) mzcf_5_2 (by decide +kernel) ⟨fun h => absurd h (by decide), fun h => absurd h (by decide)⟩ (g_aload_n rfl (g_sipush mzs_550 ?_)))))
  refine g_newarrT (by decide) (by decide) (Nat.le_of_ble_eq_true rfl) (by decide) mzcS_12 (by decide +kernel) (g_putRT (mz_takT mzcS_2 (Nat.le_of_ble_eq_true rfl)) mzcf_5_4 (by decide +kernel) ⟨fun h => absurd h (by decide), fun h => absurd h (by decide)⟩ (g_aload_n rfl (g_sipush mzs_240 (g_newarrT (by decide) (by decide) (Nat.le_of_ble_eq_true rfl) (by decide) mzcS_13 (by decide +kernel) (g_putRT (mz_takT mzcS_2 (Nat.le_of_ble_eq_true rfl)) mzcf_5_5 (by decide +kernel) ⟨fun h => absurd h (by decide), fun h => absurd h (by decide)⟩ ?_)))))
  refine g_aload_n rfl (g_bipush mzb_48 (g_newarrT (by decide) (by decide) (Nat.le_of_ble_eq_true rfl) (by decide) mzcS_14 (by decide +kernel) (g_putRT (mz_takT mzcS_2 (Nat.le_of_ble_eq_true rfl)) mzcf_5_6 (by decide +kernel) ⟨fun h => absurd h (by decide), fun h => absurd h (by decide)⟩ ?_)))
  refine g_weak ?_ (g_cl (cg_2_63 hd (mz_nN (mz_nN (mz_nN (mz_nNN (mz_nNN (mz_nN N 3) 4) 8) 12) 13) 14) hp hq))
  exact ⟨rfl, trivial⟩
theorem cs_2 (hd : 1 ≤ d) (N : mz_N) (hp : cp_2_0 N) (hq : Q (.inl none) (mz_k (mz_S0.take 41) (mz_Rq 38) (cf_2_0 N) false 0)) : mz_Ed (mz_X0 L xs) d 2 [.ref 2] (mz_k (mz_S0.take 3) (mz_Rq 0) N false 0) Q := by
  refine g_in mzq_2 (Nat.le_of_ble_eq_true rfl) (Nat.le_of_ble_eq_true rfl) (Nat.le_trans (Nat.le_of_ble_eq_true rfl) hd) ?_
  refine g_weak ?_ (cg_2_0 (d := d - 1) (by omega) N hp hq)
  exact ⟨rfl, trivial⟩
/-! 4 KeptHouse$Reader.<init> ()V -/
theorem ms_4_0 : mz_sf mk_4 0 = mk_4 := mz_sf_zero _
theorem ms_4_31 : mz_sf mk_4 31 = mt_4_31 := mz_sf_add ms_4_0 (t := 31) rfl rfl
set_option maxRecDepth 100000 in
theorem mzq_4 : mz_PG0 4 = some (7, ⟨"KeptHouse$Reader", "<init>", "()V"⟩, prog_9_method_1_code, 1, none, [], mk_4, []) := rfl
theorem cg_4x43_0 (hd : 0 ≤ d) (N : mz_N) (hp : cp_4x43_0 N) (hq : Q (.inl none) (mz_k (mz_S0.take 48) (mz_Rq 44) (cf_4x43_0 N) false 0)) : mz_G (d, mz_X0 L xs, none, [], mk_4, 1, Q) 0 mk_4 [(0, .ref 43)] [] true (mz_k (mz_S0.take 44) (mz_Rq 40) N false 0) := by
  unfold cf_4x43_0 at hq
  refine g_aload_n rfl (g_objT (Nat.le_of_ble_eq_true rfl) (g_aload_n rfl (g_sipush mzs_196 (g_newarrT (by decide) (by decide) (Nat.le_of_ble_eq_true rfl) (by decide) mzcS_44 (by decide +kernel) (g_putRT (mz_takT mzcS_43 (Nat.le_of_ble_eq_true rfl)) mzcf_7_0 (by decide +kernel) ⟨fun h => absurd h (by decide), fun h => absurd h (by decide)⟩ ?_)))))
  refine g_aload_n rfl (g_sipush mzs_196 (g_newarrT (by decide) (by decide) (Nat.le_of_ble_eq_true rfl) (by decide) mzcS_45 (by decide +kernel) (g_putRT (mz_takT mzcS_43 (Nat.le_of_ble_eq_true rfl)) mzcf_7_2 (by decide +kernel) ⟨fun h => absurd h (by decide), fun h => absurd h (by decide)⟩ (g_aload_n rfl (g_sipush mzs_196 ?_)))))
  refine g_newarrT (by decide) (by decide) (Nat.le_of_ble_eq_true rfl) (by decide) mzcS_46 (by decide +kernel) (g_putRT (mz_takT mzcS_43 (Nat.le_of_ble_eq_true rfl)) mzcf_7_3 (by decide +kernel) ⟨fun h => absurd h (by decide), fun h => absurd h (by decide)⟩ (g_aload_n rfl (g_sipush mzs_196 (g_newarrT (by decide) (by decide) (Nat.le_of_ble_eq_true rfl) (by decide) mzcS_47 (by decide +kernel) (g_putRT (mz_takT mzcS_43 (Nat.le_of_ble_eq_true rfl)) mzcf_7_14 (by decide +kernel) ⟨fun h => absurd h (by decide), fun h => absurd h (by decide)⟩ ?_)))))
  exact g_vret rfl hq
theorem cs_4x43 (hd : 1 ≤ d) (N : mz_N) (hp : cp_4x43_0 N) (hq : Q (.inl none) (mz_k (mz_S0.take 48) (mz_Rq 44) (cf_4x43_0 N) false 0)) : mz_Ed (mz_X0 L xs) d 4 [.ref 43] (mz_k (mz_S0.take 44) (mz_Rq 40) N false 0) Q := by
  refine g_in mzq_4 (Nat.le_of_ble_eq_true rfl) (Nat.le_of_ble_eq_true rfl) (Nat.le_trans (Nat.le_of_ble_eq_true rfl) hd) ?_
  refine g_weak ?_ (cg_4x43_0 (d := d - 1) (by omega) N hp hq)
  exact ⟨rfl, trivial⟩
theorem cg_4x48_0 (hd : 0 ≤ d) (N : mz_N) (hp : cp_4x48_0 N) (hq : Q (.inl none) (mz_k (mz_S0.take 53) (mz_Rq 49) (cf_4x48_0 N) false 0)) : mz_G (d, mz_X0 L xs, none, [], mk_4, 1, Q) 0 mk_4 [(0, .ref 48)] [] true (mz_k (mz_S0.take 49) (mz_Rq 45) N false 0) := by
  unfold cf_4x48_0 at hq
  refine g_aload_n rfl (g_objT (Nat.le_of_ble_eq_true rfl) (g_aload_n rfl (g_sipush mzs_196 (g_newarrT (by decide) (by decide) (Nat.le_of_ble_eq_true rfl) (by decide) mzcS_49 (by decide +kernel) (g_putRT (mz_takT mzcS_48 (Nat.le_of_ble_eq_true rfl)) mzcf_7_0 (by decide +kernel) ⟨fun h => absurd h (by decide), fun h => absurd h (by decide)⟩ ?_)))))
  refine g_aload_n rfl (g_sipush mzs_196 (g_newarrT (by decide) (by decide) (Nat.le_of_ble_eq_true rfl) (by decide) mzcS_50 (by decide +kernel) (g_putRT (mz_takT mzcS_48 (Nat.le_of_ble_eq_true rfl)) mzcf_7_2 (by decide +kernel) ⟨fun h => absurd h (by decide), fun h => absurd h (by decide)⟩ (g_aload_n rfl (g_sipush mzs_196 ?_)))))
  refine g_newarrT (by decide) (by decide) (Nat.le_of_ble_eq_true rfl) (by decide) mzcS_51 (by decide +kernel) (g_putRT (mz_takT mzcS_48 (Nat.le_of_ble_eq_true rfl)) mzcf_7_3 (by decide +kernel) ⟨fun h => absurd h (by decide), fun h => absurd h (by decide)⟩ (g_aload_n rfl (g_sipush mzs_196 (g_newarrT (by decide) (by decide) (Nat.le_of_ble_eq_true rfl) (by decide) mzcS_52 (by decide +kernel) (g_putRT (mz_takT mzcS_48 (Nat.le_of_ble_eq_true rfl)) mzcf_7_14 (by decide +kernel) ⟨fun h => absurd h (by decide), fun h => absurd h (by decide)⟩ ?_)))))
  exact g_vret rfl hq
theorem cs_4x48 (hd : 1 ≤ d) (N : mz_N) (hp : cp_4x48_0 N) (hq : Q (.inl none) (mz_k (mz_S0.take 53) (mz_Rq 49) (cf_4x48_0 N) false 0)) : mz_Ed (mz_X0 L xs) d 4 [.ref 48] (mz_k (mz_S0.take 49) (mz_Rq 45) N false 0) Q := by
  refine g_in mzq_4 (Nat.le_of_ble_eq_true rfl) (Nat.le_of_ble_eq_true rfl) (Nat.le_trans (Nat.le_of_ble_eq_true rfl) hd) ?_
  refine g_weak ?_ (cg_4x48_0 (d := d - 1) (by omega) N hp hq)
  exact ⟨rfl, trivial⟩
/-! 3 KeptHouse$Program.<init> ()V -/
theorem ms_3_0 : mz_sf mk_3 0 = mk_3 := mz_sf_zero _
theorem ms_3_35 : mz_sf mk_3 35 = mt_3_35 := mz_sf_add ms_3_0 (t := 35) rfl rfl
theorem ms_3_61 : mz_sf mk_3 61 = mt_3_61 := mz_sf_add ms_3_35 (t := 26) rfl rfl
set_option maxRecDepth 100000 in
theorem mzq_3 : mz_PG0 3 = some (6, ⟨"KeptHouse$Program", "<init>", "()V"⟩, prog_8_method_1_code, 1, none, [], mk_3, []) := rfl
theorem cg_3_61 (hd : 1 ≤ d) (N : mz_N) (hp : cp_3_61 N) (hq : Q (.inl none) (mz_k (mz_S0.take 56) (mz_Rq 53) (cf_3_61 N) false 0)) : mz_G (d, mz_X0 L xs, none, [], mk_3, 1, Q) 61 mt_3_61 [(0, .ref 41)] [] false (mz_k (mz_S0.take 56) (mz_Rq 53) N false 0) := by
  unfold cf_3_61 at hq
  exact g_vret rfl hq
theorem cg_3_0 (hd : 1 ≤ d) (N : mz_N) (hp : cp_3_0 N) (hq : Q (.inl none) (mz_k (mz_S0.take 56) (mz_Rq 53) (cf_3_0 N) false 0)) : mz_G (d, mz_X0 L xs, none, [], mk_3, 1, Q) 0 mk_3 [(0, .ref 41)] [] true (mz_k (mz_S0.take 42) (mz_Rq 39) N false 0) := by
  unfold cf_3_0 at hq
  unfold cp_3_0 at hp
  obtain ⟨h1, h2, hp⟩ := hp
  refine g_aload_n rfl (g_objT (Nat.le_of_ble_eq_true rfl) (g_aload_n rfl (g_sipush mzs_196 (g_newarrT (by decide) (by decide) (Nat.le_of_ble_eq_true rfl) (by decide) mzcS_42 (by decide +kernel) (g_putRT (mz_takT mzcS_41 (Nat.le_of_ble_eq_true rfl)) mzcf_6_0 (by decide +kernel) ⟨fun _ h => absurd h (by decide), fun _ h => absurd h (by decide)⟩ ?_)))))
  refine g_aload_n rfl (g_newT mzcS_43 (by decide +kernel) (g_dup rfl ?_))
  refine g_n1n (Nat.le_of_ble_eq_true rfl) (fun _ hq => cs_4x43 (Nat.le_trans (Nat.le_of_ble_eq_true rfl) hd) (mz_nN (mz_nN N 42) 43) h1 hq) ?_
  refine g_putRT (mz_takT mzcS_41 (Nat.le_of_ble_eq_true rfl)) mzcf_6_2 (by decide +kernel) ⟨fun _ _ => rfl, fun _ h => absurd h (by decide)⟩ (g_aload_n rfl (g_newT mzcS_48 (by decide +kernel) (g_dup rfl ?_)))
  refine g_n1n (Nat.le_of_ble_eq_true rfl) (fun _ hq => cs_4x48 (Nat.le_trans (Nat.le_of_ble_eq_true rfl) hd) (mz_nN (cf_4x43_0 (mz_nN (mz_nN N 42) 43)) 48) h2 hq) ?_
  refine g_putRT (mz_takT mzcS_41 (Nat.le_of_ble_eq_true rfl)) mzcf_6_3 (by decide +kernel) ⟨fun _ h => absurd h (by decide), fun _ _ => rfl⟩ (g_aload_n rfl (g_bipush mzb_53 (g_newarrT (by decide) (by decide) (Nat.le_of_ble_eq_true rfl) (by decide) mzcS_53 (by decide +kernel) (g_putRT (mz_takT mzcS_41 (Nat.le_of_ble_eq_true rfl)) mzcf_6_6 (by decide +kernel) ⟨fun _ h => absurd h (by decide), fun _ h => absurd h (by decide)⟩ (g_aload_n rfl ?_)))))
  refine g_sipush mzs_196 (g_newarrT (by decide) (by decide) (Nat.le_of_ble_eq_true rfl) (by decide) mzcS_54 (by decide +kernel) (g_putRT (mz_takT mzcS_41 (Nat.le_of_ble_eq_true rfl)) mzcf_6_7 (by decide +kernel) ⟨fun _ h => absurd h (by decide), fun _ h => absurd h (by decide)⟩ (g_aload_n rfl (g_sipush mzs_196 (g_newarrT (by decide) (by decide) (Nat.le_of_ble_eq_true rfl) (by decide) mzcS_55 (by decide +kernel) ?_)))))
  refine g_putRT (mz_takT mzcS_41 (Nat.le_of_ble_eq_true rfl)) mzcf_6_8 (by decide +kernel) ⟨fun _ h => absurd h (by decide), fun _ h => absurd h (by decide)⟩ ?_
  refine g_weak ?_ (g_cl (cg_3_61 hd (mz_nN (mz_nN (mz_nN (cf_4x48_0 (mz_nN (cf_4x43_0 (mz_nN (mz_nN N 42) 43)) 48)) 53) 54) 55) hp hq))
  exact ⟨rfl, trivial⟩
theorem cs_3 (hd : 2 ≤ d) (N : mz_N) (hp : cp_3_0 N) (hq : Q (.inl none) (mz_k (mz_S0.take 56) (mz_Rq 53) (cf_3_0 N) false 0)) : mz_Ed (mz_X0 L xs) d 3 [.ref 41] (mz_k (mz_S0.take 42) (mz_Rq 39) N false 0) Q := by
  refine g_in mzq_3 (Nat.le_of_ble_eq_true rfl) (Nat.le_of_ble_eq_true rfl) (Nat.le_trans (Nat.le_of_ble_eq_true rfl) hd) ?_
  refine g_weak ?_ (cg_3_0 (d := d - 1) (by omega) N hp hq)
  exact ⟨rfl, trivial⟩
/-! 5 KeptHouse$Supply.<init> ()V -/
theorem ms_5_0 : mz_sf mk_5 0 = mk_5 := mz_sf_zero _
set_option maxRecDepth 100000 in
theorem mzq_5 : mz_PG0 5 = some (9, ⟨"KeptHouse$Supply", "<init>", "()V"⟩, prog_11_method_1_code, 1, none, [], mk_5, []) := rfl
theorem cg_5_0 (hd : 0 ≤ d) (N : mz_N) (hp : cp_5_0 N) (hq : Q (.inl none) (mz_k (mz_S0.take 65) (mz_Rq 62) (cf_5_0 N) false 0)) : mz_G (d, mz_X0 L xs, none, [], mk_5, 1, Q) 0 mk_5 [(0, .ref 56)] [] true (mz_k (mz_S0.take 57) (mz_Rq 54) N false 0) := by
  unfold cf_5_0 at hq
  refine g_aload_n rfl (g_objT (Nat.le_of_ble_eq_true rfl) (g_aload_n rfl (g_bipush mzb_6 (g_bipush mzb_11 (g_new2T (a2 := 64) (m2 := 60) (n0 := 6) (n1 := 11) (by decide) (by decide) (by decide) (by decide) (Nat.le_of_ble_eq_true rfl) (Nat.le_of_ble_eq_true rfl) (Or.inl rfl) (Nat.le_of_ble_eq_true rfl) (by decide +kernel) (by decide +kernel) (by decide) (by decide +kernel) ?_)))))
  refine g_putRT (mz_takT mzcS_56 (Nat.le_of_ble_eq_true rfl)) mzcf_9_0 (by decide +kernel) ⟨fun h => absurd h (by decide), fun h => absurd h (by decide)⟩ (g_aload_n rfl (g_bipush mzb_10 (g_newarrT (by decide) (by decide) (Nat.le_of_ble_eq_true rfl) (by decide) mzcS_64 (by decide +kernel) (g_putRT (mz_takT mzcS_56 (Nat.le_of_ble_eq_true rfl)) mzcf_9_14 (by decide +kernel) ⟨fun h => absurd h (by decide), fun h => absurd h (by decide)⟩ ?_))))
  exact g_vret rfl hq
theorem cs_5 (hd : 1 ≤ d) (N : mz_N) (hp : cp_5_0 N) (hq : Q (.inl none) (mz_k (mz_S0.take 65) (mz_Rq 62) (cf_5_0 N) false 0)) : mz_Ed (mz_X0 L xs) d 5 [.ref 56] (mz_k (mz_S0.take 57) (mz_Rq 54) N false 0) Q := by
  refine g_in mzq_5 (Nat.le_of_ble_eq_true rfl) (Nat.le_of_ble_eq_true rfl) (Nat.le_trans (Nat.le_of_ble_eq_true rfl) hd) ?_
  refine g_weak ?_ (cg_5_0 (d := d - 1) (by omega) N hp hq)
  exact ⟨rfl, trivial⟩
/-! 6 KeptHouse$Climate.<init> ()V -/
theorem ms_6_0 : mz_sf mk_6 0 = mk_6 := mz_sf_zero _
theorem ms_6_29 : mz_sf mk_6 29 = mt_6_29 := mz_sf_add ms_6_0 (t := 29) rfl rfl
theorem ms_6_56 : mz_sf mk_6 56 = mt_6_56 := mz_sf_add ms_6_29 (t := 27) rfl rfl
theorem ms_6_82 : mz_sf mk_6 82 = mt_6_82 := mz_sf_add ms_6_56 (t := 26) rfl rfl
theorem ms_6_106 : mz_sf mk_6 106 = mt_6_106 := mz_sf_add ms_6_82 (t := 24) rfl rfl
theorem ms_6_132 : mz_sf mk_6 132 = mt_6_132 := mz_sf_add ms_6_106 (t := 26) rfl rfl
set_option maxRecDepth 100000 in
theorem mzq_6 : mz_PG0 6 = some (3, ⟨"KeptHouse$Climate", "<init>", "()V"⟩, prog_5_method_1_code, 1, none, [], mk_6, []) := rfl
theorem cg_6_106 (hd : 0 ≤ d) (N : mz_N) (hp : cp_6_106 N) (hq : Q (.inl none) (mz_k (mz_S0.take 81) (mz_Rq 78) (cf_6_106 N) false 0)) : mz_G (d, mz_X0 L xs, none, [], mk_6, 1, Q) 106 mt_6_106 [(0, .ref 65)] [] false (mz_k (mz_S0.take 78) (mz_Rq 75) N false 0) := by
  unfold cf_6_106 at hq
  refine g_aload_n rfl (g_bipush mzb_41 (g_newarrT (by decide) (by decide) (Nat.le_of_ble_eq_true rfl) (by decide) mzcS_78 (by decide +kernel) (g_putRT (mz_takT mzcS_65 (Nat.le_of_ble_eq_true rfl)) mzcf_3_13 (by decide +kernel) ⟨fun h => absurd h (by decide), fun h => absurd h (by decide)⟩ (g_aload_n rfl (g_sipush mzs_240 ?_)))))
  refine g_newarrT (by decide) (by decide) (Nat.le_of_ble_eq_true rfl) (by decide) mzcS_79 (by decide +kernel) (g_putRT (mz_takT mzcS_65 (Nat.le_of_ble_eq_true rfl)) mzcf_3_14 (by decide +kernel) ⟨fun h => absurd h (by decide), fun h => absurd h (by decide)⟩ (g_aload_n rfl (g_sipush mzs_240 (g_newarrT (by decide) (by decide) (Nat.le_of_ble_eq_true rfl) (by decide) mzcS_80 (by decide +kernel) (g_putRT (mz_takT mzcS_65 (Nat.le_of_ble_eq_true rfl)) mzcf_3_15 (by decide +kernel) ⟨fun h => absurd h (by decide), fun h => absurd h (by decide)⟩ ?_)))))
  exact g_vret rfl hq
theorem cg_6_56 (hd : 0 ≤ d) (N : mz_N) (hp : cp_6_56 N) (hq : Q (.inl none) (mz_k (mz_S0.take 81) (mz_Rq 78) (cf_6_56 N) false 0)) : mz_G (d, mz_X0 L xs, none, [], mk_6, 1, Q) 56 mt_6_56 [(0, .ref 65)] [] false (mz_k (mz_S0.take 72) (mz_Rq 69) N false 0) := by
  unfold cf_6_56 at hq
  unfold cp_6_56 at hp
  refine g_aload_n rfl (g_sipush mzs_240 (g_newarrT (by decide) (by decide) (Nat.le_of_ble_eq_true rfl) (by decide) mzcS_72 (by decide +kernel) (g_putRT (mz_takT mzcS_65 (Nat.le_of_ble_eq_true rfl)) mzcf_3_6 (by decide +kernel) ⟨fun h => absurd h (by decide), fun h => absurd h (by decide)⟩ (g_aload_n rfl (g_sipush mzs_240 ?_)))))
  refine g_newarrT (by decide) (by decide) (Nat.le_of_ble_eq_true rfl) (by decide) mzcS_73 (by decide +kernel) (g_putRT (mz_takT mzcS_65 (Nat.le_of_ble_eq_true rfl)) mzcf_3_7 (by decide +kernel) ⟨fun h => absurd h (by decide), fun h => absurd h (by decide)⟩ (g_aload_n rfl (g_bipush mzb_40 (g_newarrT (by decide) (by decide) (Nat.le_of_ble_eq_true rfl) (by decide) mzcS_74 (by decide +kernel) (g_putRT (mz_takT mzcS_65 (Nat.le_of_ble_eq_true rfl)) mzcf_3_9 (by decide +kernel) ⟨fun h => absurd h (by decide), fun h => absurd h (by decide)⟩ ?_)))))
  refine g_aload_n rfl (g_bipush mzb_40 (g_newarrT (by decide) (by decide) (Nat.le_of_ble_eq_true rfl) (by decide) mzcS_75 (by decide +kernel) (g_putRT (mz_takT mzcS_65 (Nat.le_of_ble_eq_true rfl)) mzcf_3_10 (by decide +kernel) ⟨fun h => absurd h (by decide), fun h => absurd h (by decide)⟩ (g_aload_n rfl (g_bipush mzb_41 ?_)))))
  refine g_newarrT (by decide) (by decide) (Nat.le_of_ble_eq_true rfl) (by decide) mzcS_76 (by decide +kernel) (g_putRT (mz_takT mzcS_65 (Nat.le_of_ble_eq_true rfl)) mzcf_3_11 (by decide +kernel) ⟨fun h => absurd h (by decide), fun h => absurd h (by decide)⟩ (g_aload_n rfl (g_bipush mzb_41 (g_newarrT (by decide) (by decide) (Nat.le_of_ble_eq_true rfl) (by decide) mzcS_77 (by decide +kernel) (g_putRT (mz_takT mzcS_65 (Nat.le_of_ble_eq_true rfl)) mzcf_3_12 (by decide +kernel) ⟨fun h => absurd h (by decide), fun h => absurd h (by decide)⟩ ?_)))))
  refine g_weak ?_ (g_cl (cg_6_106 hd (mz_nN (mz_nN (mz_nN (mz_nN (mz_nN (mz_nN N 72) 73) 74) 75) 76) 77) hp hq))
  exact ⟨rfl, trivial⟩
theorem cg_6_0 (hd : 0 ≤ d) (N : mz_N) (hp : cp_6_0 N) (hq : Q (.inl none) (mz_k (mz_S0.take 81) (mz_Rq 78) (cf_6_0 N) false 0)) : mz_G (d, mz_X0 L xs, none, [], mk_6, 1, Q) 0 mk_6 [(0, .ref 65)] [] true (mz_k (mz_S0.take 66) (mz_Rq 63) N false 0) := by
  unfold cf_6_0 at hq
  unfold cp_6_0 at hp
  refine g_aload_n rfl (g_objT (Nat.le_of_ble_eq_true rfl) (g_aload_n rfl (g_bipush mzb_24 (g_newarrT (by decide) (by decide) (Nat.le_of_ble_eq_true rfl) (by decide) mzcS_66 (by decide +kernel) (g_putRT (mz_takT mzcS_65 (Nat.le_of_ble_eq_true rfl)) mzcf_3_0 (by decide +kernel) ⟨fun h => absurd h (by decide), fun h => absurd h (by decide)⟩ ?_)))))
  refine g_aload_n rfl (g_bipush mzb_96 (g_newarrT (by decide) (by decide) (Nat.le_of_ble_eq_true rfl) (by decide) mzcS_67 (by decide +kernel) (g_putRT (mz_takT mzcS_65 (Nat.le_of_ble_eq_true rfl)) mzcf_3_1 (by decide +kernel) ⟨fun h => absurd h (by decide), fun h => absurd h (by decide)⟩ (g_aload_n rfl (g_sipush mzs_240 ?_)))))
  refine g_newarrT (by decide) (by decide) (Nat.le_of_ble_eq_true rfl) (by decide) mzcS_68 (by decide +kernel) (g_putRT (mz_takT mzcS_65 (Nat.le_of_ble_eq_true rfl)) mzcf_3_2 (by decide +kernel) ⟨fun h => absurd h (by decide), fun h => absurd h (by decide)⟩ (g_aload_n rfl (g_sipush mzs_240 (g_newarrT (by decide) (by decide) (Nat.le_of_ble_eq_true rfl) (by decide) mzcS_69 (by decide +kernel) (g_putRT (mz_takT mzcS_65 (Nat.le_of_ble_eq_true rfl)) mzcf_3_3 (by decide +kernel) ⟨fun h => absurd h (by decide), fun h => absurd h (by decide)⟩ ?_)))))
  refine g_aload_n rfl (g_sipush mzs_240 (g_newarrT (by decide) (by decide) (Nat.le_of_ble_eq_true rfl) (by decide) mzcS_70 (by decide +kernel) (g_putRT (mz_takT mzcS_65 (Nat.le_of_ble_eq_true rfl)) mzcf_3_4 (by decide +kernel) ⟨fun h => absurd h (by decide), fun h => absurd h (by decide)⟩ (g_aload_n rfl (g_sipush mzs_240 ?_)))))
  refine g_newarrT (by decide) (by decide) (Nat.le_of_ble_eq_true rfl) (by decide) mzcS_71 (by decide +kernel) (g_putRT (mz_takT mzcS_65 (Nat.le_of_ble_eq_true rfl)) mzcf_3_5 (by decide +kernel) ⟨fun h => absurd h (by decide), fun h => absurd h (by decide)⟩ ?_)
  refine g_weak ?_ (g_cl (cg_6_56 hd (mz_nN (mz_nN (mz_nN (mz_nN (mz_nN (mz_nN N 66) 67) 68) 69) 70) 71) hp hq))
  exact ⟨rfl, trivial⟩
theorem cs_6 (hd : 1 ≤ d) (N : mz_N) (hp : cp_6_0 N) (hq : Q (.inl none) (mz_k (mz_S0.take 81) (mz_Rq 78) (cf_6_0 N) false 0)) : mz_Ed (mz_X0 L xs) d 6 [.ref 65] (mz_k (mz_S0.take 66) (mz_Rq 63) N false 0) Q := by
  refine g_in mzq_6 (Nat.le_of_ble_eq_true rfl) (Nat.le_of_ble_eq_true rfl) (Nat.le_trans (Nat.le_of_ble_eq_true rfl) hd) ?_
  refine g_weak ?_ (cg_6_0 (d := d - 1) (by omega) N hp hq)
  exact ⟨rfl, trivial⟩
/-! 7 KeptHouse$Watch.<init> ()V -/
theorem ms_7_0 : mz_sf mk_7 0 = mk_7 := mz_sf_zero _
theorem ms_7_31 : mz_sf mk_7 31 = mt_7_31 := mz_sf_add ms_7_0 (t := 31) rfl rfl
theorem ms_7_55 : mz_sf mk_7 55 = mt_7_55 := mz_sf_add ms_7_31 (t := 24) rfl rfl
set_option maxRecDepth 100000 in
theorem mzq_7 : mz_PG0 7 = some (10, ⟨"KeptHouse$Watch", "<init>", "()V"⟩, prog_12_method_1_code, 1, none, [], mk_7, []) := rfl
theorem cg_7_55 (hd : 0 ≤ d) (N : mz_N) (hp : cp_7_55 N) (hq : Q (.inl none) (mz_k (mz_S0.take 100) (mz_Rq 97) (cf_7_55 N) false 0)) : mz_G (d, mz_X0 L xs, none, [], mk_7, 1, Q) 55 mt_7_55 [(0, .ref 81)] [] false (mz_k (mz_S0.take 90) (mz_Rq 87) N false 0) := by
  unfold cf_7_55 at hq
  refine g_aload_n rfl (g_bipush mzb_8 (g_bipush mzb_48 (g_new2T (a2 := 99) (m2 := 95) (n0 := 8) (n1 := 48) (by decide) (by decide) (by decide) (by decide) (Nat.le_of_ble_eq_true rfl) (Nat.le_of_ble_eq_true rfl) (Or.inr rfl) (Nat.le_of_ble_eq_true rfl) (by decide +kernel) (by decide +kernel) (by decide) (by decide +kernel) (g_putRT (mz_takT mzcS_81 (Nat.le_of_ble_eq_true rfl)) mzcf_10_7 (by decide +kernel) ⟨fun h => absurd h (by decide), fun h => absurd h (by decide)⟩ (g_aload_n rfl ?_)))))
  refine g_bipush mzb_8 (g_newarrT (by decide) (by decide) (Nat.le_of_ble_eq_true rfl) (by decide) mzcS_99 (by decide +kernel) (g_putRT (mz_takT mzcS_81 (Nat.le_of_ble_eq_true rfl)) mzcf_10_8 (by decide +kernel) ⟨fun h => absurd h (by decide), fun h => absurd h (by decide)⟩ ?_))
  exact g_vret rfl hq
theorem cg_7_0 (hd : 0 ≤ d) (N : mz_N) (hp : cp_7_0 N) (hq : Q (.inl none) (mz_k (mz_S0.take 100) (mz_Rq 97) (cf_7_0 N) false 0)) : mz_G (d, mz_X0 L xs, none, [], mk_7, 1, Q) 0 mk_7 [(0, .ref 81)] [] true (mz_k (mz_S0.take 82) (mz_Rq 79) N false 0) := by
  unfold cf_7_0 at hq
  unfold cp_7_0 at hp
  refine g_aload_n rfl (g_objT (Nat.le_of_ble_eq_true rfl) (g_aload_n rfl (g_bipush mzb_10 (g_newarrT (by decide) (by decide) (Nat.le_of_ble_eq_true rfl) (by decide) mzcS_82 (by decide +kernel) (g_putRT (mz_takT mzcS_81 (Nat.le_of_ble_eq_true rfl)) mzcf_10_0 (by decide +kernel) ⟨fun h => absurd h (by decide), fun h => absurd h (by decide)⟩ ?_)))))
  refine g_aload_n rfl (g_bipush mzb_18 (g_newarrT (by decide) (by decide) (Nat.le_of_ble_eq_true rfl) (by decide) mzcS_83 (by decide +kernel) (g_putRT (mz_takT mzcS_81 (Nat.le_of_ble_eq_true rfl)) mzcf_10_1 (by decide +kernel) ⟨fun h => absurd h (by decide), fun h => absurd h (by decide)⟩ (g_aload_n rfl (g_iconst mzi_2 ?_)))))
  refine g_bipush mzb_32 (g_new2T (a2 := 87) (m2 := 83) (n0 := 2) (n1 := 32) (by decide) (by decide) (by decide) (by decide) (Nat.le_of_ble_eq_true rfl) (Nat.le_of_ble_eq_true rfl) (Or.inl rfl) (Nat.le_of_ble_eq_true rfl) (by decide +kernel) (by decide +kernel) (by decide) (by decide +kernel) (g_putRT (mz_takT mzcS_81 (Nat.le_of_ble_eq_true rfl)) mzcf_10_2 (by decide +kernel) ⟨fun h => absurd h (by decide), fun h => absurd h (by decide)⟩ (g_aload_n rfl (g_bipush mzb_8 (g_newarrT (by decide) (by decide) (Nat.le_of_ble_eq_true rfl) (by decide) mzcS_87 (by decide +kernel) ?_)))))
  refine g_putRT (mz_takT mzcS_81 (Nat.le_of_ble_eq_true rfl)) mzcf_10_4 (by decide +kernel) ⟨fun h => absurd h (by decide), fun h => absurd h (by decide)⟩ (g_aload_n rfl (g_bipush mzb_8 (g_newarrT (by decide) (by decide) (Nat.le_of_ble_eq_true rfl) (by decide) mzcS_88 (by decide +kernel) (g_putRT (mz_takT mzcS_81 (Nat.le_of_ble_eq_true rfl)) mzcf_10_5 (by decide +kernel) ⟨fun h => absurd h (by decide), fun h => absurd h (by decide)⟩ (g_aload_n rfl ?_)))))
  refine g_bipush mzb_8 (g_newarrT (by decide) (by decide) (Nat.le_of_ble_eq_true rfl) (by decide) mzcS_89 (by decide +kernel) (g_putRT (mz_takT mzcS_81 (Nat.le_of_ble_eq_true rfl)) mzcf_10_6 (by decide +kernel) ⟨fun h => absurd h (by decide), fun h => absurd h (by decide)⟩ ?_))
  refine g_weak ?_ (g_cl (cg_7_55 hd (mz_nN (mz_nN (mz_nN (mz_nNN (mz_nN (mz_nN N 82) 83) 84) 87) 88) 89) hp hq))
  exact ⟨rfl, trivial⟩
theorem cs_7 (hd : 1 ≤ d) (N : mz_N) (hp : cp_7_0 N) (hq : Q (.inl none) (mz_k (mz_S0.take 100) (mz_Rq 97) (cf_7_0 N) false 0)) : mz_Ed (mz_X0 L xs) d 7 [.ref 81] (mz_k (mz_S0.take 82) (mz_Rq 79) N false 0) Q := by
  refine g_in mzq_7 (Nat.le_of_ble_eq_true rfl) (Nat.le_of_ble_eq_true rfl) (Nat.le_trans (Nat.le_of_ble_eq_true rfl) hd) ?_
  refine g_weak ?_ (cg_7_0 (d := d - 1) (by omega) N hp hq)
  exact ⟨rfl, trivial⟩
/-! 8 KeptHouse$Access.<init> ()V -/
theorem ms_8_0 : mz_sf mk_8 0 = mk_8 := mz_sf_zero _
theorem ms_8_28 : mz_sf mk_8 28 = mt_8_28 := mz_sf_add ms_8_0 (t := 28) rfl rfl
theorem ms_8_52 : mz_sf mk_8 52 = mt_8_52 := mz_sf_add ms_8_28 (t := 24) rfl rfl
theorem ms_8_76 : mz_sf mk_8 76 = mt_8_76 := mz_sf_add ms_8_52 (t := 24) rfl rfl
set_option maxRecDepth 100000 in
theorem mzq_8 : mz_PG0 8 = some (0, ⟨"KeptHouse$Access", "<init>", "()V"⟩, prog_2_method_1_code, 1, none, [], mk_8, []) := rfl
theorem cg_8_52 (hd : 0 ≤ d) (N : mz_N) (hp : cp_8_52 N) (hq : Q (.inl none) (mz_k (mz_S0.take 115) (mz_Rq 112) (cf_8_52 N) false 0)) : mz_G (d, mz_X0 L xs, none, [], mk_8, 1, Q) 52 mt_8_52 [(0, .ref 100)] [] false (mz_k (mz_S0.take 107) (mz_Rq 104) N false 0) := by
  unfold cf_8_52 at hq
  refine g_aload_n rfl (g_bipush mzb_40 (g_newarrT (by decide) (by decide) (Nat.le_of_ble_eq_true rfl) (by decide) mzcS_107 (by decide +kernel) (g_putRT (mz_takT mzcS_100 (Nat.le_of_ble_eq_true rfl)) mzcf_0_6 (by decide +kernel) ⟨fun h => absurd h (by decide), fun h => absurd h (by decide)⟩ (g_aload_n rfl (g_bipush mzb_40 ?_)))))
  refine g_newarrT (by decide) (by decide) (Nat.le_of_ble_eq_true rfl) (by decide) mzcS_108 (by decide +kernel) (g_putRT (mz_takT mzcS_100 (Nat.le_of_ble_eq_true rfl)) mzcf_0_7 (by decide +kernel) ⟨fun h => absurd h (by decide), fun h => absurd h (by decide)⟩ (g_aload_n rfl (g_bipush mzb_40 (g_newarrT (by decide) (by decide) (Nat.le_of_ble_eq_true rfl) (by decide) mzcS_109 (by decide +kernel) (g_putRT (mz_takT mzcS_100 (Nat.le_of_ble_eq_true rfl)) mzcf_0_8 (by decide +kernel) ⟨fun h => absurd h (by decide), fun h => absurd h (by decide)⟩ ?_)))))
  refine g_aload_n rfl (g_iconst mzi_4 (g_bipush mzb_64 (g_new2T (a2 := 115) (m2 := 111) (n0 := 4) (n1 := 64) (by decide) (by decide) (by decide) (by decide) (Nat.le_of_ble_eq_true rfl) (Nat.le_of_ble_eq_true rfl) (Or.inl rfl) (Nat.le_of_ble_eq_true rfl) (by decide +kernel) (by decide +kernel) (by decide) (by decide +kernel) (g_putRT (mz_takT mzcS_100 (Nat.le_of_ble_eq_true rfl)) mzcf_0_9 (by decide +kernel) ⟨fun h => absurd h (by decide), fun h => absurd h (by decide)⟩ ?_))))
  exact g_vret rfl hq
theorem cg_8_0 (hd : 0 ≤ d) (N : mz_N) (hp : cp_8_0 N) (hq : Q (.inl none) (mz_k (mz_S0.take 115) (mz_Rq 112) (cf_8_0 N) false 0)) : mz_G (d, mz_X0 L xs, none, [], mk_8, 1, Q) 0 mk_8 [(0, .ref 100)] [] true (mz_k (mz_S0.take 101) (mz_Rq 98) N false 0) := by
  unfold cf_8_0 at hq
  unfold cp_8_0 at hp
  refine g_aload_n rfl (g_objT (Nat.le_of_ble_eq_true rfl) (g_aload_n rfl (g_bipush mzb_20 (g_newarrT (by decide) (by decide) (Nat.le_of_ble_eq_true rfl) (by decide) mzcS_101 (by decide +kernel) (g_putRT (mz_takT mzcS_100 (Nat.le_of_ble_eq_true rfl)) mzcf_0_0 (by decide +kernel) ⟨fun h => absurd h (by decide), fun h => absurd h (by decide)⟩ ?_)))))
  refine g_aload_n rfl (g_bipush mzb_20 (g_newarrT (by decide) (by decide) (Nat.le_of_ble_eq_true rfl) (by decide) mzcS_102 (by decide +kernel) (g_putRT (mz_takT mzcS_100 (Nat.le_of_ble_eq_true rfl)) mzcf_0_1 (by decide +kernel) ⟨fun h => absurd h (by decide), fun h => absurd h (by decide)⟩ (g_aload_n rfl (g_bipush mzb_20 ?_)))))
  refine g_newarrT (by decide) (by decide) (Nat.le_of_ble_eq_true rfl) (by decide) mzcS_103 (by decide +kernel) (g_putRT (mz_takT mzcS_100 (Nat.le_of_ble_eq_true rfl)) mzcf_0_2 (by decide +kernel) ⟨fun h => absurd h (by decide), fun h => absurd h (by decide)⟩ (g_aload_n rfl (g_bipush mzb_40 (g_newarrT (by decide) (by decide) (Nat.le_of_ble_eq_true rfl) (by decide) mzcS_104 (by decide +kernel) (g_putRT (mz_takT mzcS_100 (Nat.le_of_ble_eq_true rfl)) mzcf_0_3 (by decide +kernel) ⟨fun h => absurd h (by decide), fun h => absurd h (by decide)⟩ ?_)))))
  refine g_aload_n rfl (g_bipush mzb_40 (g_newarrT (by decide) (by decide) (Nat.le_of_ble_eq_true rfl) (by decide) mzcS_105 (by decide +kernel) (g_putRT (mz_takT mzcS_100 (Nat.le_of_ble_eq_true rfl)) mzcf_0_4 (by decide +kernel) ⟨fun h => absurd h (by decide), fun h => absurd h (by decide)⟩ (g_aload_n rfl (g_bipush mzb_40 ?_)))))
  refine g_newarrT (by decide) (by decide) (Nat.le_of_ble_eq_true rfl) (by decide) mzcS_106 (by decide +kernel) (g_putRT (mz_takT mzcS_100 (Nat.le_of_ble_eq_true rfl)) mzcf_0_5 (by decide +kernel) ⟨fun h => absurd h (by decide), fun h => absurd h (by decide)⟩ ?_)
  refine g_weak ?_ (g_cl (cg_8_52 hd (mz_nN (mz_nN (mz_nN (mz_nN (mz_nN (mz_nN N 101) 102) 103) 104) 105) 106) hp hq))
  exact ⟨rfl, trivial⟩
theorem cs_8 (hd : 1 ≤ d) (N : mz_N) (hp : cp_8_0 N) (hq : Q (.inl none) (mz_k (mz_S0.take 115) (mz_Rq 112) (cf_8_0 N) false 0)) : mz_Ed (mz_X0 L xs) d 8 [.ref 100] (mz_k (mz_S0.take 101) (mz_Rq 98) N false 0) Q := by
  refine g_in mzq_8 (Nat.le_of_ble_eq_true rfl) (Nat.le_of_ble_eq_true rfl) (Nat.le_trans (Nat.le_of_ble_eq_true rfl) hd) ?_
  refine g_weak ?_ (cg_8_0 (d := d - 1) (by omega) N hp hq)
  exact ⟨rfl, trivial⟩
/-! 9 KeptHouse$Care.<init> ()V -/
theorem ms_9_0 : mz_sf mk_9 0 = mk_9 := mz_sf_zero _
theorem ms_9_34 : mz_sf mk_9 34 = mt_9_34 := mz_sf_add ms_9_0 (t := 34) rfl rfl
theorem ms_9_59 : mz_sf mk_9 59 = mt_9_59 := mz_sf_add ms_9_34 (t := 25) rfl rfl
theorem ms_9_88 : mz_sf mk_9 88 = mt_9_88 := mz_sf_add ms_9_59 (t := 29) rfl rfl
set_option maxRecDepth 100000 in
theorem mzq_9 : mz_PG0 9 = some (2, ⟨"KeptHouse$Care", "<init>", "()V"⟩, prog_4_method_1_code, 1, none, [], mk_9, []) := rfl
theorem cg_9_59 (hd : 0 ≤ d) (N : mz_N) (hp : cp_9_59 N) (hq : Q (.inl none) (mz_k (mz_S0.take 208) (mz_Rq 205) (cf_9_59 N) false 0)) : mz_G (d, mz_X0 L xs, none, [], mk_9, 1, Q) 59 mt_9_59 [(0, .ref 115)] [] false (mz_k (mz_S0.take 135) (mz_Rq 132) N false 0) := by
  unfold cf_9_59 at hq
  refine g_aload_n rfl (g_iconst mzi_2 (g_bipush mzb_6 (g_new2T (a2 := 138) (m2 := 134) (n0 := 2) (n1 := 6) (by decide) (by decide) (by decide) (by decide) (Nat.le_of_ble_eq_true rfl) (Nat.le_of_ble_eq_true rfl) (Or.inl rfl) (Nat.le_of_ble_eq_true rfl) (by decide +kernel) (by decide +kernel) (by decide) (by decide +kernel) (g_putRT (mz_takT mzcS_115 (Nat.le_of_ble_eq_true rfl)) mzcf_2_8 (by decide +kernel) ⟨fun h => absurd h (by decide), fun h => absurd h (by decide)⟩ (g_aload_n rfl ?_)))))
  refine g_iconst mzi_2 (g_bipush mzb_6 (g_new2T (a2 := 141) (m2 := 137) (n0 := 2) (n1 := 6) (by decide) (by decide) (by decide) (by decide) (Nat.le_of_ble_eq_true rfl) (Nat.le_of_ble_eq_true rfl) (Or.inl rfl) (Nat.le_of_ble_eq_true rfl) (by decide +kernel) (by decide +kernel) (by decide) (by decide +kernel) (g_putRT (mz_takT mzcS_115 (Nat.le_of_ble_eq_true rfl)) mzcf_2_9 (by decide +kernel) ⟨fun h => absurd h (by decide), fun h => absurd h (by decide)⟩ (g_aload_n rfl (g_iconst mzi_2 ?_)))))
  refine g_newarrT (by decide) (by decide) (Nat.le_of_ble_eq_true rfl) (by decide) mzcS_141 (by decide +kernel) (g_putRT (mz_takT mzcS_115 (Nat.le_of_ble_eq_true rfl)) mzcf_2_10 (by decide +kernel) ⟨fun h => absurd h (by decide), fun h => absurd h (by decide)⟩ (g_aload_n rfl (g_bipush mzb_6 (g_newarrT (by decide) (by decide) (Nat.le_of_ble_eq_true rfl) (by decide) mzcS_142 (by decide +kernel) (g_putRT (mz_takT mzcS_115 (Nat.le_of_ble_eq_true rfl)) mzcf_2_11 (by decide +kernel) ⟨fun h => absurd h (by decide), fun h => absurd h (by decide)⟩ ?_)))))
  refine g_aload_n rfl (g_bipush mzb_64 (g_bipush mzb_6 (g_new2T (a2 := 208) (m2 := 204) (n0 := 64) (n1 := 6) (by decide) (by decide) (by decide) (by decide) (Nat.le_of_ble_eq_true rfl) (Nat.le_of_ble_eq_true rfl) (Or.inl rfl) (Nat.le_of_ble_eq_true rfl) (by decide +kernel) (by decide +kernel) (by decide) (by decide +kernel) (g_putRT (mz_takT mzcS_115 (Nat.le_of_ble_eq_true rfl)) mzcf_2_12 (by decide +kernel) ⟨fun h => absurd h (by decide), fun h => absurd h (by decide)⟩ ?_))))
  exact g_vret rfl hq
theorem cg_9_0 (hd : 0 ≤ d) (N : mz_N) (hp : cp_9_0 N) (hq : Q (.inl none) (mz_k (mz_S0.take 208) (mz_Rq 205) (cf_9_0 N) false 0)) : mz_G (d, mz_X0 L xs, none, [], mk_9, 1, Q) 0 mk_9 [(0, .ref 115)] [] true (mz_k (mz_S0.take 116) (mz_Rq 113) N false 0) := by
  unfold cf_9_0 at hq
  unfold cp_9_0 at hp
  refine g_aload_n rfl (g_objT (Nat.le_of_ble_eq_true rfl) (g_aload_n rfl (g_bipush mzb_6 (g_bipush mzb_16 (g_new2T (a2 := 123) (m2 := 119) (n0 := 6) (n1 := 16) (by decide) (by decide) (by decide) (by decide) (Nat.le_of_ble_eq_true rfl) (Nat.le_of_ble_eq_true rfl) (Or.inl rfl) (Nat.le_of_ble_eq_true rfl) (by decide +kernel) (by decide +kernel) (by decide) (by decide +kernel) ?_)))))
  refine g_putRT (mz_takT mzcS_115 (Nat.le_of_ble_eq_true rfl)) mzcf_2_0 (by decide +kernel) ⟨fun h => absurd h (by decide), fun h => absurd h (by decide)⟩ (g_aload_n rfl (g_bipush mzb_16 (g_newarrT (by decide) (by decide) (Nat.le_of_ble_eq_true rfl) (by decide) mzcS_123 (by decide +kernel) (g_putRT (mz_takT mzcS_115 (Nat.le_of_ble_eq_true rfl)) mzcf_2_1 (by decide +kernel) ⟨fun h => absurd h (by decide), fun h => absurd h (by decide)⟩ (g_aload_n rfl ?_)))))
  refine g_iconst mzi_4 (g_iconst mzi_3 (g_new2T (a2 := 129) (m2 := 125) (n0 := 4) (n1 := 3) (by decide) (by decide) (by decide) (by decide) (Nat.le_of_ble_eq_true rfl) (Nat.le_of_ble_eq_true rfl) (Or.inl rfl) (Nat.le_of_ble_eq_true rfl) (by decide +kernel) (by decide +kernel) (by decide) (by decide +kernel) (g_putRT (mz_takT mzcS_115 (Nat.le_of_ble_eq_true rfl)) mzcf_2_3 (by decide +kernel) ⟨fun h => absurd h (by decide), fun h => absurd h (by decide)⟩ (g_aload_n rfl (g_iconst mzi_3 ?_)))))
  refine g_bipush mzb_8 (g_new2T (a2 := 133) (m2 := 129) (n0 := 3) (n1 := 8) (by decide) (by decide) (by decide) (by decide) (Nat.le_of_ble_eq_true rfl) (Nat.le_of_ble_eq_true rfl) (Or.inl rfl) (Nat.le_of_ble_eq_true rfl) (by decide +kernel) (by decide +kernel) (by decide) (by decide +kernel) (g_putRT (mz_takT mzcS_115 (Nat.le_of_ble_eq_true rfl)) mzcf_2_4 (by decide +kernel) ⟨fun h => absurd h (by decide), fun h => absurd h (by decide)⟩ (g_aload_n rfl (g_iconst mzi_2 (g_newarrT (by decide) (by decide) (Nat.le_of_ble_eq_true rfl) (by decide) mzcS_133 (by decide +kernel) ?_)))))
  refine g_putRT (mz_takT mzcS_115 (Nat.le_of_ble_eq_true rfl)) mzcf_2_6 (by decide +kernel) ⟨fun h => absurd h (by decide), fun h => absurd h (by decide)⟩ (g_aload_n rfl (g_iconst mzi_2 (g_newarrT (by decide) (by decide) (Nat.le_of_ble_eq_true rfl) (by decide) mzcS_134 (by decide +kernel) (g_putRT (mz_takT mzcS_115 (Nat.le_of_ble_eq_true rfl)) mzcf_2_7 (by decide +kernel) ⟨fun h => absurd h (by decide), fun h => absurd h (by decide)⟩ ?_))))
  refine g_weak ?_ (g_cl (cg_9_59 hd (mz_nN (mz_nN (mz_nNN (mz_nNN (mz_nN (mz_nNN N 116) 123) 124) 129) 133) 134) hp hq))
  exact ⟨rfl, trivial⟩
theorem cs_9 (hd : 1 ≤ d) (N : mz_N) (hp : cp_9_0 N) (hq : Q (.inl none) (mz_k (mz_S0.take 208) (mz_Rq 205) (cf_9_0 N) false 0)) : mz_Ed (mz_X0 L xs) d 9 [.ref 115] (mz_k (mz_S0.take 116) (mz_Rq 113) N false 0) Q := by
  refine g_in mzq_9 (Nat.le_of_ble_eq_true rfl) (Nat.le_of_ble_eq_true rfl) (Nat.le_trans (Nat.le_of_ble_eq_true rfl) hd) ?_
  refine g_weak ?_ (cg_9_0 (d := d - 1) (by omega) N hp hq)
  exact ⟨rfl, trivial⟩
/-! 10 KeptHouse$Books.<init> ()V -/
theorem ms_10_0 : mz_sf mk_10 0 = mk_10 := mz_sf_zero _
theorem ms_10_31 : mz_sf mk_10 31 = mt_10_31 := mz_sf_add ms_10_0 (t := 31) rfl rfl
theorem ms_10_54 : mz_sf mk_10 54 = mt_10_54 := mz_sf_add ms_10_31 (t := 23) rfl rfl
set_option maxRecDepth 100000 in
theorem mzq_10 : mz_PG0 10 = some (1, ⟨"KeptHouse$Books", "<init>", "()V"⟩, prog_3_method_1_code, 1, none, [], mk_10, []) := rfl
theorem cg_10_54 (hd : 0 ≤ d) (N : mz_N) (hp : cp_10_54 N) (hq : Q (.inl none) (mz_k (mz_S0.take 219) (mz_Rq 216) (cf_10_54 N) false 0)) : mz_G (d, mz_X0 L xs, none, [], mk_10, 1, Q) 54 mt_10_54 [(0, .ref 208)] [] false (mz_k (mz_S0.take 218) (mz_Rq 215) N false 0) := by
  unfold cf_10_54 at hq
  refine g_aload_n rfl (g_bipush mzb_10 (g_newarrT (by decide) (by decide) (Nat.le_of_ble_eq_true rfl) (by decide) mzcS_218 (by decide +kernel) (g_putRT (mz_takT mzcS_208 (Nat.le_of_ble_eq_true rfl)) mzcf_1_11 (by decide +kernel) ⟨fun h => absurd h (by decide), fun h => absurd h (by decide)⟩ ?_)))
  exact g_vret rfl hq
theorem cg_10_0 (hd : 0 ≤ d) (N : mz_N) (hp : cp_10_0 N) (hq : Q (.inl none) (mz_k (mz_S0.take 219) (mz_Rq 216) (cf_10_0 N) false 0)) : mz_G (d, mz_X0 L xs, none, [], mk_10, 1, Q) 0 mk_10 [(0, .ref 208)] [] true (mz_k (mz_S0.take 209) (mz_Rq 206) N false 0) := by
  unfold cf_10_0 at hq
  unfold cp_10_0 at hp
  refine g_aload_n rfl (g_objT (Nat.le_of_ble_eq_true rfl) (g_aload_n rfl (g_iconst mzi_3 (g_bipush mzb_11 (g_new2T (a2 := 213) (m2 := 209) (n0 := 3) (n1 := 11) (by decide) (by decide) (by decide) (by decide) (Nat.le_of_ble_eq_true rfl) (Nat.le_of_ble_eq_true rfl) (Or.inl rfl) (Nat.le_of_ble_eq_true rfl) (by decide +kernel) (by decide +kernel) (by decide) (by decide +kernel) ?_)))))
  refine g_putRT (mz_takT mzcS_208 (Nat.le_of_ble_eq_true rfl)) mzcf_1_5 (by decide +kernel) ⟨fun h => absurd h (by decide), fun h => absurd h (by decide)⟩ (g_aload_n rfl (g_bipush mzb_10 (g_newarrT (by decide) (by decide) (Nat.le_of_ble_eq_true rfl) (by decide) mzcS_213 (by decide +kernel) (g_putRT (mz_takT mzcS_208 (Nat.le_of_ble_eq_true rfl)) mzcf_1_6 (by decide +kernel) ⟨fun h => absurd h (by decide), fun h => absurd h (by decide)⟩ (g_aload_n rfl ?_)))))
  refine g_bipush mzb_10 (g_newarrT (by decide) (by decide) (Nat.le_of_ble_eq_true rfl) (by decide) mzcS_214 (by decide +kernel) (g_putRT (mz_takT mzcS_208 (Nat.le_of_ble_eq_true rfl)) mzcf_1_7 (by decide +kernel) ⟨fun h => absurd h (by decide), fun h => absurd h (by decide)⟩ (g_aload_n rfl (g_iconst mzi_4 (g_newarrT (by decide) (by decide) (Nat.le_of_ble_eq_true rfl) (by decide) mzcS_215 (by decide +kernel) ?_)))))
  refine g_putRT (mz_takT mzcS_208 (Nat.le_of_ble_eq_true rfl)) mzcf_1_8 (by decide +kernel) ⟨fun h => absurd h (by decide), fun h => absurd h (by decide)⟩ (g_aload_n rfl (g_bipush mzb_10 (g_newarrT (by decide) (by decide) (Nat.le_of_ble_eq_true rfl) (by decide) mzcS_216 (by decide +kernel) (g_putRT (mz_takT mzcS_208 (Nat.le_of_ble_eq_true rfl)) mzcf_1_9 (by decide +kernel) ⟨fun h => absurd h (by decide), fun h => absurd h (by decide)⟩ (g_aload_n rfl ?_)))))
  refine g_bipush mzb_10 (g_newarrT (by decide) (by decide) (Nat.le_of_ble_eq_true rfl) (by decide) mzcS_217 (by decide +kernel) (g_putRT (mz_takT mzcS_208 (Nat.le_of_ble_eq_true rfl)) mzcf_1_10 (by decide +kernel) ⟨fun h => absurd h (by decide), fun h => absurd h (by decide)⟩ ?_))
  refine g_weak ?_ (g_cl (cg_10_54 hd (mz_nN (mz_nN (mz_nN (mz_nN (mz_nN (mz_nNN N 209) 213) 214) 215) 216) 217) hp hq))
  exact ⟨rfl, trivial⟩
theorem cs_10 (hd : 1 ≤ d) (N : mz_N) (hp : cp_10_0 N) (hq : Q (.inl none) (mz_k (mz_S0.take 219) (mz_Rq 216) (cf_10_0 N) false 0)) : mz_Ed (mz_X0 L xs) d 10 [.ref 208] (mz_k (mz_S0.take 209) (mz_Rq 206) N false 0) Q := by
  refine g_in mzq_10 (Nat.le_of_ble_eq_true rfl) (Nat.le_of_ble_eq_true rfl) (Nat.le_trans (Nat.le_of_ble_eq_true rfl) hd) ?_
  refine g_weak ?_ (cg_10_0 (d := d - 1) (by omega) N hp hq)
  exact ⟨rfl, trivial⟩
/-! 11 KeptHouse$Store.<init> ()V -/
theorem ms_11_0 : mz_sf mk_11 0 = mk_11 := mz_sf_zero _
theorem ms_11_34 : mz_sf mk_11 34 = mt_11_34 := mz_sf_add ms_11_0 (t := 34) rfl rfl
theorem ms_11_59 : mz_sf mk_11 59 = mt_11_59 := mz_sf_add ms_11_34 (t := 25) rfl rfl
theorem ms_11_83 : mz_sf mk_11 83 = mt_11_83 := mz_sf_add ms_11_59 (t := 24) rfl rfl
set_option maxRecDepth 100000 in
theorem mzq_11 : mz_PG0 11 = some (8, ⟨"KeptHouse$Store", "<init>", "()V"⟩, prog_10_method_1_code, 1, none, [], mk_11, []) := rfl
theorem cg_11_83 (hd : 2 ≤ d) (N : mz_N) (hp : cp_11_83 N) (hq : Q (.inl none) (mz_k (mz_S0.take 228) (mz_Rq 225) (cf_11_83 N) false 0)) : mz_G (d, mz_X0 L xs, none, [], mk_11, 1, Q) 83 mt_11_83 [(0, .ref 219)] [] false (mz_k (mz_S0.take 228) (mz_Rq 225) N false 0) := by
  unfold cf_11_83 at hq
  unfold cp_11_83 at hp
  obtain ⟨h2, hp⟩ := hp
  refine g_aload_n rfl (g_iconst mzi_0 (g_iconst mzi_0 ?_))
  refine g_v3v (Nat.le_of_ble_eq_true rfl) (mz_takT mzcS_219 (Nat.le_of_ble_eq_true rfl)) (fun _ hq => cs_15 (Nat.le_trans (Nat.le_of_ble_eq_true rfl) hd) (mz_extT (Nat.le_of_ble_eq_true rfl) (Nat.le_of_ble_eq_true rfl)) (mz_rsT (by decide +kernel)) 0 0 N h2 hq) ?_
  refine g_pop rfl ?_
  exact g_vret rfl hq
theorem cg_11_59 (hd : 2 ≤ d) (N : mz_N) (hp : cp_11_59 N) (hq : Q (.inl none) (mz_k (mz_S0.take 228) (mz_Rq 225) (cf_11_59 N) false 0)) : mz_G (d, mz_X0 L xs, none, [], mk_11, 1, Q) 59 mt_11_59 [(0, .ref 219)] [] false (mz_k (mz_S0.take 228) (mz_Rq 225) N false 0) := by
  unfold cf_11_59 at hq
  unfold cp_11_59 at hp
  obtain ⟨h1, hp⟩ := hp
  refine g_aload_n rfl (g_iconst mzi_m1 (g_putI (mz_takT mzcS_219 (Nat.le_of_ble_eq_true rfl)) mzcf_8_8 (g_aload_n rfl (g_iconst mzi_1 (g_putI (mz_takT mzcS_219 (Nat.le_of_ble_eq_true rfl)) mzcf_8_5 ?_)))))
  refine g_aload_n rfl (g_iconst mzi_1 (g_putI (mz_takT mzcS_219 (Nat.le_of_ble_eq_true rfl)) mzcf_8_6 (g_aload_n rfl (g_iconst mzi_0 (g_iconst mzi_0 ?_)))))
  refine g_iconst mzi_1 (g_iconst mzi_0 (g_iconst mzi_1 ?_))
  refine g_v6n (Nat.le_of_ble_eq_true rfl) (mz_takT mzcS_219 (Nat.le_of_ble_eq_true rfl)) (fun _ hq => cs_12 (Nat.le_trans (Nat.le_of_ble_eq_true rfl) hd) (mz_extT (Nat.le_of_ble_eq_true rfl) (Nat.le_of_ble_eq_true rfl)) (mz_rsT (by decide +kernel)) 0 0 true 0 1 (mz_pI (mz_pI (mz_pI N 219 8 (-1)) 219 5 1) 219 6 1) h1 hq) ?_
  refine g_weak ?_ (g_cl (cg_11_83 hd (cf_12_0 0 0 true 0 1 (mz_pI (mz_pI (mz_pI N 219 8 (-1)) 219 5 1) 219 6 1)) hp hq))
  exact ⟨rfl, trivial⟩
theorem cg_11_0 (hd : 2 ≤ d) (N : mz_N) (hp : cp_11_0 N) (hq : Q (.inl none) (mz_k (mz_S0.take 228) (mz_Rq 225) (cf_11_0 N) false 0)) : mz_G (d, mz_X0 L xs, none, [], mk_11, 1, Q) 0 mk_11 [(0, .ref 219)] [] true (mz_k (mz_S0.take 220) (mz_Rq 217) N false 0) := by
  unfold cf_11_0 at hq
  unfold cp_11_0 at hp
  refine g_aload_n rfl (g_objT (Nat.le_of_ble_eq_true rfl) (g_aload_n rfl (g_iconst mzi_2 (g_sipush mzs_9600 (g_new2T (a2 := 223) (m2 := 219) (n0 := 2) (n1 := 9600) (by decide) (by decide) (by decide) (by decide) (Nat.le_of_ble_eq_true rfl) (Nat.le_of_ble_eq_true rfl) (Or.inl rfl) (Nat.le_of_ble_eq_true rfl) (by decide +kernel) (by decide +kernel) (by decide) (by decide +kernel) ?_)))))
  refine g_putRT (mz_takT mzcS_219 (Nat.le_of_ble_eq_true rfl)) mzcf_8_0 (by decide +kernel) ⟨fun h => absurd h (by decide), fun h => absurd h (by decide)⟩ (g_aload_n rfl (g_sipush mzs_3780 (g_newarrT (by decide) (by decide) (Nat.le_of_ble_eq_true rfl) (by decide) mzcS_223 (by decide +kernel) (g_putRT (mz_takT mzcS_219 (Nat.le_of_ble_eq_true rfl)) mzcf_8_1 (by decide +kernel) ⟨fun h => absurd h (by decide), fun h => absurd h (by decide)⟩ (g_aload_n rfl ?_)))))
  refine g_sipush mzs_135 (g_newarrT (by decide) (by decide) (Nat.le_of_ble_eq_true rfl) (by decide) mzcS_224 (by decide +kernel) (g_putRT (mz_takT mzcS_219 (Nat.le_of_ble_eq_true rfl)) mzcf_8_2 (by decide +kernel) ⟨fun h => absurd h (by decide), fun h => absurd h (by decide)⟩ (g_aload_n rfl (g_bipush mzb_48 (g_newarrT (by decide) (by decide) (Nat.le_of_ble_eq_true rfl) (by decide) mzcS_225 (by decide +kernel) ?_)))))
  refine g_putRT (mz_takT mzcS_219 (Nat.le_of_ble_eq_true rfl)) mzcf_8_3 (by decide +kernel) ⟨fun h => absurd h (by decide), fun h => absurd h (by decide)⟩ (g_aload_n rfl (g_bipush mzb_16 (g_newarrT (by decide) (by decide) (Nat.le_of_ble_eq_true rfl) (by decide) mzcS_226 (by decide +kernel) (g_putRT (mz_takT mzcS_219 (Nat.le_of_ble_eq_true rfl)) mzcf_8_9 (by decide +kernel) ⟨fun h => absurd h (by decide), fun h => absurd h (by decide)⟩ (g_aload_n rfl ?_)))))
  refine g_sipush mzs_448 (g_newarrT (by decide) (by decide) (Nat.le_of_ble_eq_true rfl) (by decide) mzcS_227 (by decide +kernel) (g_putRT (mz_takT mzcS_219 (Nat.le_of_ble_eq_true rfl)) mzcf_8_10 (by decide +kernel) ⟨fun h => absurd h (by decide), fun h => absurd h (by decide)⟩ ?_))
  refine g_weak ?_ (g_cl (cg_11_59 hd (mz_nN (mz_nN (mz_nN (mz_nN (mz_nN (mz_nNN N 220) 223) 224) 225) 226) 227) hp hq))
  exact ⟨rfl, trivial⟩
theorem cs_11 (hd : 3 ≤ d) (N : mz_N) (hp : cp_11_0 N) (hq : Q (.inl none) (mz_k (mz_S0.take 228) (mz_Rq 225) (cf_11_0 N) false 0)) : mz_Ed (mz_X0 L xs) d 11 [.ref 219] (mz_k (mz_S0.take 220) (mz_Rq 217) N false 0) Q := by
  refine g_in mzq_11 (Nat.le_of_ble_eq_true rfl) (Nat.le_of_ble_eq_true rfl) (Nat.le_trans (Nat.le_of_ble_eq_true rfl) hd) ?_
  refine g_weak ?_ (cg_11_0 (d := d - 1) (by omega) N hp hq)
  exact ⟨rfl, trivial⟩
/-! 1 KeptHouse$Keeper.<init> ()V -/
theorem ms_1_0 : mz_sf mk_1 0 = mk_1 := mz_sf_zero _
theorem ms_1_26 : mz_sf mk_1 26 = mt_1_26 := mz_sf_add ms_1_0 (t := 26) rfl rfl
theorem ms_1_59 : mz_sf mk_1 59 = mt_1_59 := mz_sf_add ms_1_26 (t := 33) rfl rfl
theorem ms_1_92 : mz_sf mk_1 92 = mt_1_92 := mz_sf_add ms_1_59 (t := 33) rfl rfl
theorem ms_1_121 : mz_sf mk_1 121 = mt_1_121 := mz_sf_add ms_1_92 (t := 29) rfl rfl
set_option maxRecDepth 100000 in
theorem mzq_1 : mz_PG0 1 = some (4, ⟨"KeptHouse$Keeper", "<init>", "()V"⟩, prog_6_method_1_code, 1, none, [], mk_1, []) := rfl
theorem cg_1_92 (hd : 3 ≤ d) (N : mz_N) (hp : cp_1_92 N) (hq : Q (.inl none) (mz_k (mz_S0.take 232) (mz_Rq 230) (cf_1_92 N) false 0)) : mz_G (d, mz_X0 L xs, none, [], mk_1, 1, Q) 92 mt_1_92 [(0, .ref 1)] [] false (mz_k (mz_S0.take 219) (mz_Rq 217) N false 0) := by
  unfold cf_1_92 at hq
  unfold cp_1_92 at hp
  obtain ⟨h9, hp⟩ := hp
  refine g_aload_n rfl (g_newT mzcS_219 (by decide +kernel) (g_dup rfl ?_))
  refine g_n1n (Nat.le_of_ble_eq_true rfl) (fun _ hq => cs_11 (Nat.le_trans (Nat.le_of_ble_eq_true rfl) hd) (mz_nN N 219) h9 hq) ?_
  refine g_putRT (mz_takT mzcS_1 (Nat.le_of_ble_eq_true rfl)) mzcf_4_8 (by decide +kernel) ⟨fun h => absurd h (by decide), fun h => absurd h (by decide)⟩ (g_aload_n rfl (g_sipush mzs_4056 (g_newarrT (by decide) (by decide) (Nat.le_of_ble_eq_true rfl) (by decide) mzcS_228 (by decide +kernel) (g_putRT (mz_takT mzcS_1 (Nat.le_of_ble_eq_true rfl)) mzcf_4_9 (by decide +kernel) ⟨fun h => absurd h (by decide), fun h => absurd h (by decide)⟩ (g_aload_n rfl ?_)))))
  refine g_sipush mzs_4100 (g_newarrT (by decide) (by decide) (Nat.le_of_ble_eq_true rfl) (by decide) mzcS_229 (by decide +kernel) (g_putRT (mz_takT mzcS_1 (Nat.le_of_ble_eq_true rfl)) mzcf_4_11 (by decide +kernel) ⟨fun h => absurd h (by decide), fun h => absurd h (by decide)⟩ (g_aload_n rfl (g_sipush mzs_3780 (g_newarrT (by decide) (by decide) (Nat.le_of_ble_eq_true rfl) (by decide) mzcS_230 (by decide +kernel) ?_)))))
  refine g_putRT (mz_takT mzcS_1 (Nat.le_of_ble_eq_true rfl)) mzcf_4_13 (by decide +kernel) ⟨fun h => absurd h (by decide), fun h => absurd h (by decide)⟩ (g_aload_n rfl (g_sipush mzs_135 (g_newarrT (by decide) (by decide) (Nat.le_of_ble_eq_true rfl) (by decide) mzcS_231 (by decide +kernel) (g_putRT (mz_takT mzcS_1 (Nat.le_of_ble_eq_true rfl)) mzcf_4_14 (by decide +kernel) ⟨fun h => absurd h (by decide), fun h => absurd h (by decide)⟩ ?_))))
  exact g_vret rfl hq
theorem cg_1_59 (hd : 3 ≤ d) (N : mz_N) (hp : cp_1_59 N) (hq : Q (.inl none) (mz_k (mz_S0.take 232) (mz_Rq 230) (cf_1_59 N) false 0)) : mz_G (d, mz_X0 L xs, none, [], mk_1, 1, Q) 59 mt_1_59 [(0, .ref 1)] [] false (mz_k (mz_S0.take 100) (mz_Rq 98) N false 0) := by
  unfold cf_1_59 at hq
  unfold cp_1_59 at hp
  obtain ⟨h6, h7, h8, hp⟩ := hp
  refine g_aload_n rfl (g_newT mzcS_100 (by decide +kernel) (g_dup rfl ?_))
  refine g_n1n (Nat.le_of_ble_eq_true rfl) (fun _ hq => cs_8 (Nat.le_trans (Nat.le_of_ble_eq_true rfl) hd) (mz_nN N 100) h6 hq) ?_
  refine g_putRT (mz_takT mzcS_1 (Nat.le_of_ble_eq_true rfl)) mzcf_4_5 (by decide +kernel) ⟨fun h => absurd h (by decide), fun h => absurd h (by decide)⟩ (g_aload_n rfl (g_newT mzcS_115 (by decide +kernel) (g_dup rfl ?_)))
  refine g_n1n (Nat.le_of_ble_eq_true rfl) (fun _ hq => cs_9 (Nat.le_trans (Nat.le_of_ble_eq_true rfl) hd) (mz_nN (cf_8_0 (mz_nN N 100)) 115) h7 hq) ?_
  refine g_putRT (mz_takT mzcS_1 (Nat.le_of_ble_eq_true rfl)) mzcf_4_6 (by decide +kernel) ⟨fun h => absurd h (by decide), fun h => absurd h (by decide)⟩ (g_aload_n rfl (g_newT mzcS_208 (by decide +kernel) (g_dup rfl ?_)))
  refine g_n1n (Nat.le_of_ble_eq_true rfl) (fun _ hq => cs_10 (Nat.le_trans (Nat.le_of_ble_eq_true rfl) hd) (mz_nN (cf_9_0 (mz_nN (cf_8_0 (mz_nN N 100)) 115)) 208) h8 hq) ?_
  refine g_putRT (mz_takT mzcS_1 (Nat.le_of_ble_eq_true rfl)) mzcf_4_7 (by decide +kernel) ⟨fun h => absurd h (by decide), fun h => absurd h (by decide)⟩ ?_
  refine g_weak ?_ (g_cl (cg_1_92 hd (cf_10_0 (mz_nN (cf_9_0 (mz_nN (cf_8_0 (mz_nN N 100)) 115)) 208)) hp hq))
  exact ⟨rfl, trivial⟩
theorem cg_1_0 (hd : 3 ≤ d) (N : mz_N) (hp : cp_1_0 N) (hq : Q (.inl none) (mz_k (mz_S0.take 232) (mz_Rq 230) (cf_1_0 N) false 0)) : mz_G (d, mz_X0 L xs, none, [], mk_1, 1, Q) 0 mk_1 [(0, .ref 1)] [] true (mz_k (mz_S0.take 2) (mz_Rq 0) N false 0) := by
  unfold cf_1_0 at hq
  unfold cp_1_0 at hp
  obtain ⟨h1, h2, h3, h4, h5, hp⟩ := hp
  refine g_aload_n rfl (g_objT (Nat.le_of_ble_eq_true rfl) (g_aload_n rfl (g_newT mzcS_2 (by decide +kernel) (g_dup rfl ?_))))
  refine g_n1n (Nat.le_of_ble_eq_true rfl) (fun _ hq => cs_2 (Nat.le_trans (Nat.le_of_ble_eq_true rfl) hd) (mz_nN N 2) h1 hq) ?_
  refine g_putRT (mz_takT mzcS_1 (Nat.le_of_ble_eq_true rfl)) mzcf_4_0 (by decide +kernel) ⟨fun h => absurd h (by decide), fun h => absurd h (by decide)⟩ (g_aload_n rfl (g_newT mzcS_41 (by decide +kernel) (g_dup rfl ?_)))
  refine g_n1n (Nat.le_of_ble_eq_true rfl) (fun _ hq => cs_3 (Nat.le_trans (Nat.le_of_ble_eq_true rfl) hd) (mz_nN (cf_2_0 (mz_nN N 2)) 41) h2 hq) ?_
  refine g_putRT (mz_takT mzcS_1 (Nat.le_of_ble_eq_true rfl)) mzcf_4_1 (by decide +kernel) ⟨fun h => absurd h (by decide), fun h => absurd h (by decide)⟩ (g_aload_n rfl (g_newT mzcS_56 (by decide +kernel) (g_dup rfl ?_)))
  refine g_n1n (Nat.le_of_ble_eq_true rfl) (fun _ hq => cs_5 (Nat.le_trans (Nat.le_of_ble_eq_true rfl) hd) (mz_nN (cf_3_0 (mz_nN (cf_2_0 (mz_nN N 2)) 41)) 56) h3 hq) ?_
  refine g_putRT (mz_takT mzcS_1 (Nat.le_of_ble_eq_true rfl)) mzcf_4_2 (by decide +kernel) ⟨fun h => absurd h (by decide), fun h => absurd h (by decide)⟩ (g_aload_n rfl (g_newT mzcS_65 (by decide +kernel) (g_dup rfl ?_)))
  refine g_n1n (Nat.le_of_ble_eq_true rfl) (fun _ hq => cs_6 (Nat.le_trans (Nat.le_of_ble_eq_true rfl) hd) (mz_nN (cf_5_0 (mz_nN (cf_3_0 (mz_nN (cf_2_0 (mz_nN N 2)) 41)) 56)) 65) h4 hq) ?_
  refine g_putRT (mz_takT mzcS_1 (Nat.le_of_ble_eq_true rfl)) mzcf_4_3 (by decide +kernel) ⟨fun h => absurd h (by decide), fun h => absurd h (by decide)⟩ (g_aload_n rfl (g_newT mzcS_81 (by decide +kernel) (g_dup rfl ?_)))
  refine g_n1n (Nat.le_of_ble_eq_true rfl) (fun _ hq => cs_7 (Nat.le_trans (Nat.le_of_ble_eq_true rfl) hd) (mz_nN (cf_6_0 (mz_nN (cf_5_0 (mz_nN (cf_3_0 (mz_nN (cf_2_0 (mz_nN N 2)) 41)) 56)) 65)) 81) h5 hq) ?_
  refine g_putRT (mz_takT mzcS_1 (Nat.le_of_ble_eq_true rfl)) mzcf_4_4 (by decide +kernel) ⟨fun h => absurd h (by decide), fun h => absurd h (by decide)⟩ ?_
  refine g_weak ?_ (g_cl (cg_1_59 hd (cf_7_0 (mz_nN (cf_6_0 (mz_nN (cf_5_0 (mz_nN (cf_3_0 (mz_nN (cf_2_0 (mz_nN N 2)) 41)) 56)) 65)) 81)) hp hq))
  exact ⟨rfl, trivial⟩
theorem cs_1 (hd : 4 ≤ d) (N : mz_N) (hp : cp_1_0 N) (hq : Q (.inl none) (mz_k (mz_S0.take 232) (mz_Rq 230) (cf_1_0 N) false 0)) : mz_Ed (mz_X0 L xs) d 1 [.ref 1] (mz_k (mz_S0.take 2) (mz_Rq 0) N false 0) Q := by
  refine g_in mzq_1 (Nat.le_of_ble_eq_true rfl) (Nat.le_of_ble_eq_true rfl) (Nat.le_trans (Nat.le_of_ble_eq_true rfl) hd) ?_
  refine g_weak ?_ (cg_1_0 (d := d - 1) (by omega) N hp hq)
  exact ⟨rfl, trivial⟩
/-! 0 KeptHouse.<init> (J)V -/
theorem ms_0_0 : mz_sf mk_0 0 = mk_0 := mz_sf_zero _
theorem ms_0_26 : mz_sf mk_0 26 = mt_0_26 := mz_sf_add ms_0_0 (t := 26) rfl rfl
theorem ms_0_59 : mz_sf mk_0 59 = mt_0_59 := mz_sf_add ms_0_26 (t := 33) rfl rfl
theorem ms_0_92 : mz_sf mk_0 92 = mt_0_92 := mz_sf_add ms_0_59 (t := 33) rfl rfl
theorem ms_0_125 : mz_sf mk_0 125 = mt_0_125 := mz_sf_add ms_0_92 (t := 33) rfl rfl
set_option maxRecDepth 100000 in
theorem mzq_0 : mz_PG0 0 = some (11, ⟨"KeptHouse", "<init>", "(J)V"⟩, prog_1_method_1_code, 3, none, [], mk_0, []) := rfl
theorem cg_0_0 (hd : 7 ≤ d) (v1 : Int64) (N : mz_N) (hp : cp_0_0 v1 N) (hq : Q (.inl none) (mz_k (mz_S0.take 232) (mz_Rq 241) (cf_0_0 v1 N).1 (cf_0_0 v1 N).2 0)) : mz_G (d, mz_X0 L xs, none, [], mk_0, 3, Q) 0 mk_0 [(0, .ref 0), (1, .long v1)] [] true (mz_k (mz_S0.take 1) (mz_Rq 0) N false 0) := by
  unfold cf_0_0 at hq
  unfold cp_0_0 at hp
  obtain ⟨h1, h2, hp⟩ := hp
  refine g_aload_n rfl (g_objT (Nat.le_of_ble_eq_true rfl) (g_aload_n rfl (g_newT mzcS_1 (by decide +kernel) (g_dup rfl ?_))))
  refine g_n1n (Nat.le_of_ble_eq_true rfl) (fun _ hq => cs_1 (Nat.le_trans (Nat.le_of_ble_eq_true rfl) hd) (mz_nN N 1) h1 hq) ?_
  refine g_putRT (mz_takT mzcS_0 (Nat.le_of_ble_eq_true rfl)) mzcf_11_0 (by decide +kernel) ⟨fun h => absurd h (by decide), fun h => absurd h (by decide)⟩ (g_aload_n rfl (g_aload_n rfl (g_getR (mz_takT mzcS_0 (Nat.le_of_ble_eq_true rfl)) mzcf_11_0 (mz_rbT rfl (z := 1) (by decide +kernel)) (g_getR (mz_takT mzcS_1 (Nat.le_of_ble_eq_true rfl)) mzcf_4_0 (mz_rbT rfl (z := 2) (by decide +kernel)) (g_putRT (mz_takT mzcS_0 (Nat.le_of_ble_eq_true rfl)) mzcf_11_1 (by decide +kernel) ⟨fun h => absurd h (by decide), fun h => absurd h (by decide)⟩ ?_)))))
  refine g_aload_n rfl (g_aload_n rfl (g_getR (mz_takT mzcS_0 (Nat.le_of_ble_eq_true rfl)) mzcf_11_0 (mz_rbT rfl (z := 1) (by decide +kernel)) (g_getR (mz_takT mzcS_1 (Nat.le_of_ble_eq_true rfl)) mzcf_4_1 (mz_rbT rfl (z := 41) (by decide +kernel)) (g_putRT (mz_takT mzcS_0 (Nat.le_of_ble_eq_true rfl)) mzcf_11_2 (by decide +kernel) ⟨fun h => absurd h (by decide), fun h => absurd h (by decide)⟩ (g_aload_n rfl ?_)))))
  refine g_aload_n rfl (g_getR (mz_takT mzcS_0 (Nat.le_of_ble_eq_true rfl)) mzcf_11_0 (mz_rbT rfl (z := 1) (by decide +kernel)) (g_getR (mz_takT mzcS_1 (Nat.le_of_ble_eq_true rfl)) mzcf_4_2 (mz_rbT rfl (z := 56) (by decide +kernel)) (g_putRT (mz_takT mzcS_0 (Nat.le_of_ble_eq_true rfl)) mzcf_11_3 (by decide +kernel) ⟨fun h => absurd h (by decide), fun h => absurd h (by decide)⟩ (g_aload_n rfl (g_aload_n rfl ?_)))))
  refine g_getR (mz_takT mzcS_0 (Nat.le_of_ble_eq_true rfl)) mzcf_11_0 (mz_rbT rfl (z := 1) (by decide +kernel)) (g_getR (mz_takT mzcS_1 (Nat.le_of_ble_eq_true rfl)) mzcf_4_3 (mz_rbT rfl (z := 65) (by decide +kernel)) (g_putRT (mz_takT mzcS_0 (Nat.le_of_ble_eq_true rfl)) mzcf_11_4 (by decide +kernel) ⟨fun h => absurd h (by decide), fun h => absurd h (by decide)⟩ (g_aload_n rfl (g_aload_n rfl (g_getR (mz_takT mzcS_0 (Nat.le_of_ble_eq_true rfl)) mzcf_11_0 (mz_rbT rfl (z := 1) (by decide +kernel)) ?_)))))
  refine g_getR (mz_takT mzcS_1 (Nat.le_of_ble_eq_true rfl)) mzcf_4_4 (mz_rbT rfl (z := 81) (by decide +kernel)) (g_putRT (mz_takT mzcS_0 (Nat.le_of_ble_eq_true rfl)) mzcf_11_5 (by decide +kernel) ⟨fun h => absurd h (by decide), fun h => absurd h (by decide)⟩ (g_aload_n rfl (g_aload_n rfl (g_getR (mz_takT mzcS_0 (Nat.le_of_ble_eq_true rfl)) mzcf_11_0 (mz_rbT rfl (z := 1) (by decide +kernel)) (g_getR (mz_takT mzcS_1 (Nat.le_of_ble_eq_true rfl)) mzcf_4_5 (mz_rbT rfl (z := 100) (by decide +kernel)) ?_)))))
  refine g_putRT (mz_takT mzcS_0 (Nat.le_of_ble_eq_true rfl)) mzcf_11_6 (by decide +kernel) ⟨fun h => absurd h (by decide), fun h => absurd h (by decide)⟩ (g_aload_n rfl (g_aload_n rfl (g_getR (mz_takT mzcS_0 (Nat.le_of_ble_eq_true rfl)) mzcf_11_0 (mz_rbT rfl (z := 1) (by decide +kernel)) (g_getR (mz_takT mzcS_1 (Nat.le_of_ble_eq_true rfl)) mzcf_4_6 (mz_rbT rfl (z := 115) (by decide +kernel)) (g_putRT (mz_takT mzcS_0 (Nat.le_of_ble_eq_true rfl)) mzcf_11_7 (by decide +kernel) ⟨fun h => absurd h (by decide), fun h => absurd h (by decide)⟩ ?_)))))
  refine g_aload_n rfl (g_aload_n rfl (g_getR (mz_takT mzcS_0 (Nat.le_of_ble_eq_true rfl)) mzcf_11_0 (mz_rbT rfl (z := 1) (by decide +kernel)) (g_getR (mz_takT mzcS_1 (Nat.le_of_ble_eq_true rfl)) mzcf_4_7 (mz_rbT rfl (z := 208) (by decide +kernel)) (g_putRT (mz_takT mzcS_0 (Nat.le_of_ble_eq_true rfl)) mzcf_11_8 (by decide +kernel) ⟨fun h => absurd h (by decide), fun h => absurd h (by decide)⟩ (g_aload_n rfl ?_)))))
  refine g_aload_n rfl (g_getR (mz_takT mzcS_0 (Nat.le_of_ble_eq_true rfl)) mzcf_11_0 (mz_rbT rfl (z := 1) (by decide +kernel)) (g_getR (mz_takT mzcS_1 (Nat.le_of_ble_eq_true rfl)) mzcf_4_8 (mz_rbT rfl (z := 219) (by decide +kernel)) (g_putRT (mz_takT mzcS_0 (Nat.le_of_ble_eq_true rfl)) mzcf_11_9 (by decide +kernel) ⟨fun h => absurd h (by decide), fun h => absurd h (by decide)⟩ (g_aload_n rfl (g_aload_n rfl ?_)))))
  refine g_getR (mz_takT mzcS_0 (Nat.le_of_ble_eq_true rfl)) mzcf_11_2 (mz_rbT rfl (z := 41) (by decide +kernel)) (g_getR (mz_takT mzcS_41 (Nat.le_of_ble_eq_true rfl)) mzcf_6_6 (mz_rbT rfl (z := 53) (by decide +kernel)) (g_putRT (mz_takT mzcS_0 (Nat.le_of_ble_eq_true rfl)) mzcf_11_10 (by decide +kernel) ⟨fun h => absurd h (by decide), fun h => absurd h (by decide)⟩ (g_aload_n rfl (g_getR (mz_takT mzcS_0 (Nat.le_of_ble_eq_true rfl)) mzcf_11_3 (mz_rbT rfl (z := 56) (by decide +kernel)) (g_lload_n rfl ?_)))))
  refine g_putL (mz_takT mzcS_56 (Nat.le_of_ble_eq_true rfl)) mzcf_9_15 (g_aload_n rfl (g_getR (mz_takT mzcS_0 (Nat.le_of_ble_eq_true rfl)) mzcf_11_0 (mz_rbT rfl (z := 1) (by decide +kernel)) ?_))
  refine g_v1n (Nat.le_of_ble_eq_true rfl) (mz_takT mzcS_1 (Nat.le_of_ble_eq_true rfl)) (fun _ hq => cs_17 (Nat.le_trans (Nat.le_of_ble_eq_true rfl) hd) (mz_extT (Nat.le_of_ble_eq_true rfl) (Nat.le_of_ble_eq_true rfl)) (mz_rokT (by decide +kernel)) (mz_pL (cf_1_0 (mz_nN N 1)) 56 15 v1) false h2 hq) ?_
  exact g_vret rfl hq
theorem cs_0 (hd : 8 ≤ d) (v1 : Int64) (N : mz_N) (hp : cp_0_0 v1 N) (hq : Q (.inl none) (mz_k (mz_S0.take 232) (mz_Rq 241) (cf_0_0 v1 N).1 (cf_0_0 v1 N).2 0)) : mz_Ed (mz_X0 L xs) d 0 [.ref 0, .long v1] (mz_k (mz_S0.take 1) (mz_Rq 0) N false 0) Q := by
  refine g_in mzq_0 (Nat.le_of_ble_eq_true rfl) (Nat.le_of_ble_eq_true rfl) (Nat.le_trans (Nat.le_of_ble_eq_true rfl) hd) ?_
  refine g_weak ?_ (cg_0_0 (d := d - 1) (by omega) v1 N hp hq)
  exact ⟨rfl, rfl, trivial⟩
/-! 408 KeptHouseModel.<init> (J)V -/
theorem ms_408_0 : mz_sf mk_408 0 = mk_408 := mz_sf_zero _
theorem ms_408_31 : mz_sf mk_408 31 = mt_408_31 := mz_sf_add ms_408_0 (t := 31) rfl rfl
theorem ms_408_58 : mz_sf mk_408 58 = mt_408_58 := mz_sf_add ms_408_31 (t := 27) rfl rfl
theorem ms_408_85 : mz_sf mk_408 85 = mt_408_85 := mz_sf_add ms_408_58 (t := 27) rfl rfl
theorem ms_408_110 : mz_sf mk_408 110 = mt_408_110 := mz_sf_add ms_408_85 (t := 25) rfl rfl
theorem ms_408_134 : mz_sf mk_408 134 = mt_408_134 := mz_sf_add ms_408_110 (t := 24) rfl rfl
theorem ms_408_156 : mz_sf mk_408 156 = mt_408_156 := mz_sf_add ms_408_134 (t := 22) rfl rfl
theorem ms_408_183 : mz_sf mk_408 183 = mt_408_183 := mz_sf_add ms_408_156 (t := 27) rfl rfl
theorem ms_408_208 : mz_sf mk_408 208 = mt_408_208 := mz_sf_add ms_408_183 (t := 25) rfl rfl
theorem ms_408_233 : mz_sf mk_408 233 = mt_408_233 := mz_sf_add ms_408_208 (t := 25) rfl rfl
theorem ms_408_260 : mz_sf mk_408 260 = mt_408_260 := mz_sf_add ms_408_233 (t := 27) rfl rfl
theorem ms_408_287 : mz_sf mk_408 287 = mt_408_287 := mz_sf_add ms_408_260 (t := 27) rfl rfl
theorem ms_408_313 : mz_sf mk_408 313 = mt_408_313 := mz_sf_add ms_408_287 (t := 26) rfl rfl
theorem ms_408_337 : mz_sf mk_408 337 = mt_408_337 := mz_sf_add ms_408_313 (t := 24) rfl rfl
theorem ms_408_361 : mz_sf mk_408 361 = mt_408_361 := mz_sf_add ms_408_337 (t := 24) rfl rfl
theorem ms_408_385 : mz_sf mk_408 385 = mt_408_385 := mz_sf_add ms_408_361 (t := 24) rfl rfl
theorem ms_408_409 : mz_sf mk_408 409 = mt_408_409 := mz_sf_add ms_408_385 (t := 24) rfl rfl
theorem ms_408_433 : mz_sf mk_408 433 = mt_408_433 := mz_sf_add ms_408_409 (t := 24) rfl rfl
theorem ms_408_458 : mz_sf mk_408 458 = mt_408_458 := mz_sf_add ms_408_433 (t := 25) rfl rfl
theorem ms_408_482 : mz_sf mk_408 482 = mt_408_482 := mz_sf_add ms_408_458 (t := 24) rfl rfl
theorem ms_408_506 : mz_sf mk_408 506 = mt_408_506 := mz_sf_add ms_408_482 (t := 24) rfl rfl
theorem ms_408_530 : mz_sf mk_408 530 = mt_408_530 := mz_sf_add ms_408_506 (t := 24) rfl rfl
theorem ms_408_551 : mz_sf mk_408 551 = mt_408_551 := mz_sf_add ms_408_530 (t := 21) rfl rfl
theorem ms_408_575 : mz_sf mk_408 575 = mt_408_575 := mz_sf_add ms_408_551 (t := 24) rfl rfl
theorem ms_408_599 : mz_sf mk_408 599 = mt_408_599 := mz_sf_add ms_408_575 (t := 24) rfl rfl
theorem ms_408_620 : mz_sf mk_408 620 = mt_408_620 := mz_sf_add ms_408_599 (t := 21) rfl rfl
theorem ms_408_644 : mz_sf mk_408 644 = mt_408_644 := mz_sf_add ms_408_620 (t := 24) rfl rfl
theorem ms_408_668 : mz_sf mk_408 668 = mt_408_668 := mz_sf_add ms_408_644 (t := 24) rfl rfl
theorem ms_408_692 : mz_sf mk_408 692 = mt_408_692 := mz_sf_add ms_408_668 (t := 24) rfl rfl
theorem ms_408_716 : mz_sf mk_408 716 = mt_408_716 := mz_sf_add ms_408_692 (t := 24) rfl rfl
theorem ms_408_740 : mz_sf mk_408 740 = mt_408_740 := mz_sf_add ms_408_716 (t := 24) rfl rfl
theorem ms_408_764 : mz_sf mk_408 764 = mt_408_764 := mz_sf_add ms_408_740 (t := 24) rfl rfl
theorem ms_408_788 : mz_sf mk_408 788 = mt_408_788 := mz_sf_add ms_408_764 (t := 24) rfl rfl
theorem ms_408_815 : mz_sf mk_408 815 = mt_408_815 := mz_sf_add ms_408_788 (t := 27) rfl rfl
theorem ms_408_841 : mz_sf mk_408 841 = mt_408_841 := mz_sf_add ms_408_815 (t := 26) rfl rfl
theorem ms_408_868 : mz_sf mk_408 868 = mt_408_868 := mz_sf_add ms_408_841 (t := 27) rfl rfl
theorem ms_408_895 : mz_sf mk_408 895 = mt_408_895 := mz_sf_add ms_408_868 (t := 27) rfl rfl
theorem ms_408_918 : mz_sf mk_408 918 = mt_408_918 := mz_sf_add ms_408_895 (t := 23) rfl rfl
set_option maxRecDepth 100000 in
theorem mzq_408 : mz_PG0 408 = some (12, ⟨"KeptHouseModel", "<init>", "(J)V"⟩, prog_14_method_1_code, 3, none, [], mk_408, []) := rfl
theorem cg_408_918 (hd : 10 ≤ d) (v1 : Int64) (b : Bool) (N : mz_N) (hp : cp_408_918 v1 N) (hq : Q (.inl none) (mz_k (mz_S0.take 342) (mz_Rq 350) (cf_408_918 v1 N) b 0)) : mz_G (d, mz_X0 L xs, none, [], mk_408, 3, Q) 918 mt_408_918 [(0, .ref 232), (1, .long v1)] [] false (mz_k (mz_S0.take 342) (mz_Rq 350) N b 0) := by
  unfold cf_408_918 at hq
  unfold cp_408_918 at hp
  obtain ⟨h1, h2, hp⟩ := hp
  refine g_aload_n rfl (g_iconst mzi_0 (g_lconst mzl_0 (g_lconst mzl_1 ?_)))
  refine g_v4v (Nat.le_of_ble_eq_true rfl) (mz_takT mzcS_232 (Nat.le_of_ble_eq_true rfl)) (fun _ hq => cs_409 (Nat.le_trans (Nat.le_of_ble_eq_true rfl) hd) (mz_extT (Nat.le_of_ble_eq_true rfl) (Nat.le_of_ble_eq_true rfl)) (mz_rokT (by decide +kernel)) 0 0 1 N h1 hq) ?_
  refine g_pop rfl (g_aload_n rfl (g_iconst mzi_1 (g_putI (mz_takT mzcS_232 (Nat.le_of_ble_eq_true rfl)) mzcf_12_135 (g_aload_n rfl ?_))))
  refine g_v1n (Nat.le_of_ble_eq_true rfl) (mz_takT mzcS_232 (Nat.le_of_ble_eq_true rfl)) (fun _ hq => cs_414 (Nat.le_trans (Nat.le_of_ble_eq_true rfl) hd) (mz_extT (Nat.le_of_ble_eq_true rfl) (Nat.le_of_ble_eq_true rfl)) (mz_rokT (by decide +kernel)) (mz_pI ((cf_409_0 0 0 1 N).2) 232 135 1) h2 hq) ?_
  exact g_vret rfl hq
theorem cg_408_895 (hd : 10 ≤ d) (v1 : Int64) (b : Bool) (N : mz_N) (hp : cp_408_895 v1 N) (hq : Q (.inl none) (mz_k (mz_S0.take 342) (mz_Rq 350) (cf_408_895 v1 N) b 0)) : mz_G (d, mz_X0 L xs, none, [], mk_408, 3, Q) 895 mt_408_895 [(0, .ref 232), (1, .long v1)] [] false (mz_k (mz_S0.take 341) (mz_Rq 349) N b 0) := by
  unfold cf_408_895 at hq
  unfold cp_408_895 at hp
  refine g_aload_n rfl (g_bipush mzb_48 (g_newarrT (by decide) (by decide) (Nat.le_of_ble_eq_true rfl) (by decide) mzcS_341 (by decide +kernel) (g_putRT (mz_takT mzcS_232 (Nat.le_of_ble_eq_true rfl)) mzcf_12_159 (by decide +kernel) ⟨fun h => absurd h (by decide), fun h => absurd h (by decide)⟩ (g_aload_n rfl (g_lload_n rfl ?_)))))
  refine g_putL (mz_takT mzcS_232 (Nat.le_of_ble_eq_true rfl)) mzcf_12_1 (g_aload_n rfl (g_lconst mzl_1 (g_putL (mz_takT mzcS_232 (Nat.le_of_ble_eq_true rfl)) mzcf_12_134 (g_aload_n rfl (g_iconst mzi_m1 ?_)))))
  refine g_putI (mz_takT mzcS_232 (Nat.le_of_ble_eq_true rfl)) mzcf_12_136 ?_
  refine g_weak ?_ (g_cl (cg_408_918 hd v1 b (mz_pI (mz_pL (mz_pL (mz_nN N 341) 232 1 v1) 232 134 1) 232 136 (-1)) hp hq))
  exact ⟨rfl, rfl, trivial⟩
theorem cg_408_841 (hd : 10 ≤ d) (v1 : Int64) (b : Bool) (N : mz_N) (hp : cp_408_841 v1 N) (hq : Q (.inl none) (mz_k (mz_S0.take 342) (mz_Rq 350) (cf_408_841 v1 N) b 0)) : mz_G (d, mz_X0 L xs, none, [], mk_408, 3, Q) 841 mt_408_841 [(0, .ref 232), (1, .long v1)] [] false (mz_k (mz_S0.take 335) (mz_Rq 343) N b 0) := by
  unfold cf_408_841 at hq
  unfold cp_408_841 at hp
  refine g_aload_n rfl (g_sipush mzs_4100 (g_newarrT (by decide) (by decide) (Nat.le_of_ble_eq_true rfl) (by decide) mzcS_335 (by decide +kernel) (g_putRT (mz_takT mzcS_232 (Nat.le_of_ble_eq_true rfl)) mzcf_12_142 (by decide +kernel) ⟨fun h => absurd h (by decide), fun h => absurd h (by decide)⟩ (g_aload_n rfl (g_sipush mzs_135 ?_)))))
  refine g_newarrT (by decide) (by decide) (Nat.le_of_ble_eq_true rfl) (by decide) mzcS_336 (by decide +kernel) (g_putRT (mz_takT mzcS_232 (Nat.le_of_ble_eq_true rfl)) mzcf_12_144 (by decide +kernel) ⟨fun h => absurd h (by decide), fun h => absurd h (by decide)⟩ (g_aload_n rfl (g_sipush mzs_3780 (g_newarrT (by decide) (by decide) (Nat.le_of_ble_eq_true rfl) (by decide) mzcS_337 (by decide +kernel) (g_putRT (mz_takT mzcS_232 (Nat.le_of_ble_eq_true rfl)) mzcf_12_145 (by decide +kernel) ⟨fun h => absurd h (by decide), fun h => absurd h (by decide)⟩ ?_)))))
  refine g_aload_n rfl (g_sipush mzs_196 (g_newarrT (by decide) (by decide) (Nat.le_of_ble_eq_true rfl) (by decide) mzcS_338 (by decide +kernel) (g_putRT (mz_takT mzcS_232 (Nat.le_of_ble_eq_true rfl)) mzcf_12_146 (by decide +kernel) ⟨fun h => absurd h (by decide), fun h => absurd h (by decide)⟩ (g_aload_n rfl (g_sipush mzs_400 ?_)))))
  refine g_newarrT (by decide) (by decide) (Nat.le_of_ble_eq_true rfl) (by decide) mzcS_339 (by decide +kernel) (g_putRT (mz_takT mzcS_232 (Nat.le_of_ble_eq_true rfl)) mzcf_12_155 (by decide +kernel) ⟨fun h => absurd h (by decide), fun h => absurd h (by decide)⟩ (g_aload_n rfl (g_sipush mzs_240 (g_newarrT (by decide) (by decide) (Nat.le_of_ble_eq_true rfl) (by decide) mzcS_340 (by decide +kernel) (g_putRT (mz_takT mzcS_232 (Nat.le_of_ble_eq_true rfl)) mzcf_12_158 (by decide +kernel) ⟨fun h => absurd h (by decide), fun h => absurd h (by decide)⟩ ?_)))))
  refine g_weak ?_ (g_cl (cg_408_895 hd v1 b (mz_nN (mz_nN (mz_nN (mz_nN (mz_nN (mz_nN N 335) 336) 337) 338) 339) 340) hp hq))
  exact ⟨rfl, rfl, trivial⟩
theorem cg_408_788 (hd : 10 ≤ d) (v1 : Int64) (b : Bool) (N : mz_N) (hp : cp_408_788 v1 N) (hq : Q (.inl none) (mz_k (mz_S0.take 342) (mz_Rq 350) (cf_408_788 v1 N) b 0)) : mz_G (d, mz_X0 L xs, none, [], mk_408, 3, Q) 788 mt_408_788 [(0, .ref 232), (1, .long v1)] [] false (mz_k (mz_S0.take 329) (mz_Rq 337) N b 0) := by
  unfold cf_408_788 at hq
  unfold cp_408_788 at hp
  refine g_aload_n rfl (g_sipush mzs_19200 (g_newarrT (by decide) (by decide) (Nat.le_of_ble_eq_true rfl) (by decide) mzcS_329 (by decide +kernel) (g_putRT (mz_takT mzcS_232 (Nat.le_of_ble_eq_true rfl)) mzcf_12_129 (by decide +kernel) ⟨fun h => absurd h (by decide), fun h => absurd h (by decide)⟩ (g_aload_n rfl (g_sipush mzs_135 ?_)))))
  refine g_newarrT (by decide) (by decide) (Nat.le_of_ble_eq_true rfl) (by decide) mzcS_330 (by decide +kernel) (g_putRT (mz_takT mzcS_232 (Nat.le_of_ble_eq_true rfl)) mzcf_12_130 (by decide +kernel) ⟨fun h => absurd h (by decide), fun h => absurd h (by decide)⟩ (g_aload_n rfl (g_sipush mzs_3780 (g_newarrT (by decide) (by decide) (Nat.le_of_ble_eq_true rfl) (by decide) mzcS_331 (by decide +kernel) (g_putRT (mz_takT mzcS_232 (Nat.le_of_ble_eq_true rfl)) mzcf_12_131 (by decide +kernel) ⟨fun h => absurd h (by decide), fun h => absurd h (by decide)⟩ ?_)))))
  refine g_aload_n rfl (g_bipush mzb_28 (g_newarrT (by decide) (by decide) (Nat.le_of_ble_eq_true rfl) (by decide) mzcS_332 (by decide +kernel) (g_putRT (mz_takT mzcS_232 (Nat.le_of_ble_eq_true rfl)) mzcf_12_132 (by decide +kernel) ⟨fun h => absurd h (by decide), fun h => absurd h (by decide)⟩ (g_aload_n rfl (g_sipush mzs_160 ?_)))))
  refine g_newarrT (by decide) (by decide) (Nat.le_of_ble_eq_true rfl) (by decide) mzcS_333 (by decide +kernel) (g_putRT (mz_takT mzcS_232 (Nat.le_of_ble_eq_true rfl)) mzcf_12_138 (by decide +kernel) ⟨fun h => absurd h (by decide), fun h => absurd h (by decide)⟩ (g_aload_n rfl (g_sipush mzs_4100 (g_newarrT (by decide) (by decide) (Nat.le_of_ble_eq_true rfl) (by decide) mzcS_334 (by decide +kernel) (g_putRT (mz_takT mzcS_232 (Nat.le_of_ble_eq_true rfl)) mzcf_12_140 (by decide +kernel) ⟨fun h => absurd h (by decide), fun h => absurd h (by decide)⟩ ?_)))))
  refine g_weak ?_ (g_cl (cg_408_841 hd v1 b (mz_nN (mz_nN (mz_nN (mz_nN (mz_nN (mz_nN N 329) 330) 331) 332) 333) 334) hp hq))
  exact ⟨rfl, rfl, trivial⟩
theorem cg_408_740 (hd : 10 ≤ d) (v1 : Int64) (b : Bool) (N : mz_N) (hp : cp_408_740 v1 N) (hq : Q (.inl none) (mz_k (mz_S0.take 342) (mz_Rq 350) (cf_408_740 v1 N) b 0)) : mz_G (d, mz_X0 L xs, none, [], mk_408, 3, Q) 740 mt_408_740 [(0, .ref 232), (1, .long v1)] [] false (mz_k (mz_S0.take 323) (mz_Rq 331) N b 0) := by
  unfold cf_408_740 at hq
  unfold cp_408_740 at hp
  refine g_aload_n rfl (g_bipush mzb_11 (g_newarrT (by decide) (by decide) (Nat.le_of_ble_eq_true rfl) (by decide) mzcS_323 (by decide +kernel) (g_putRT (mz_takT mzcS_232 (Nat.le_of_ble_eq_true rfl)) mzcf_12_119 (by decide +kernel) ⟨fun h => absurd h (by decide), fun h => absurd h (by decide)⟩ (g_aload_n rfl (g_bipush mzb_10 ?_)))))
  refine g_newarrT (by decide) (by decide) (Nat.le_of_ble_eq_true rfl) (by decide) mzcS_324 (by decide +kernel) (g_putRT (mz_takT mzcS_232 (Nat.le_of_ble_eq_true rfl)) mzcf_12_120 (by decide +kernel) ⟨fun h => absurd h (by decide), fun h => absurd h (by decide)⟩ (g_aload_n rfl (g_bipush mzb_10 (g_newarrT (by decide) (by decide) (Nat.le_of_ble_eq_true rfl) (by decide) mzcS_325 (by decide +kernel) (g_putRT (mz_takT mzcS_232 (Nat.le_of_ble_eq_true rfl)) mzcf_12_121 (by decide +kernel) ⟨fun h => absurd h (by decide), fun h => absurd h (by decide)⟩ ?_)))))
  refine g_aload_n rfl (g_bipush mzb_41 (g_newarrT (by decide) (by decide) (Nat.le_of_ble_eq_true rfl) (by decide) mzcS_326 (by decide +kernel) (g_putRT (mz_takT mzcS_232 (Nat.le_of_ble_eq_true rfl)) mzcf_12_126 (by decide +kernel) ⟨fun h => absurd h (by decide), fun h => absurd h (by decide)⟩ (g_aload_n rfl (g_bipush mzb_41 ?_)))))
  refine g_newarrT (by decide) (by decide) (Nat.le_of_ble_eq_true rfl) (by decide) mzcS_327 (by decide +kernel) (g_putRT (mz_takT mzcS_232 (Nat.le_of_ble_eq_true rfl)) mzcf_12_127 (by decide +kernel) ⟨fun h => absurd h (by decide), fun h => absurd h (by decide)⟩ (g_aload_n rfl (g_bipush mzb_41 (g_newarrT (by decide) (by decide) (Nat.le_of_ble_eq_true rfl) (by decide) mzcS_328 (by decide +kernel) (g_putRT (mz_takT mzcS_232 (Nat.le_of_ble_eq_true rfl)) mzcf_12_128 (by decide +kernel) ⟨fun h => absurd h (by decide), fun h => absurd h (by decide)⟩ ?_)))))
  refine g_weak ?_ (g_cl (cg_408_788 hd v1 b (mz_nN (mz_nN (mz_nN (mz_nN (mz_nN (mz_nN N 323) 324) 325) 326) 327) 328) hp hq))
  exact ⟨rfl, rfl, trivial⟩
theorem cg_408_692 (hd : 10 ≤ d) (v1 : Int64) (b : Bool) (N : mz_N) (hp : cp_408_692 v1 N) (hq : Q (.inl none) (mz_k (mz_S0.take 342) (mz_Rq 350) (cf_408_692 v1 N) b 0)) : mz_G (d, mz_X0 L xs, none, [], mk_408, 3, Q) 692 mt_408_692 [(0, .ref 232), (1, .long v1)] [] false (mz_k (mz_S0.take 317) (mz_Rq 325) N b 0) := by
  unfold cf_408_692 at hq
  unfold cp_408_692 at hp
  refine g_aload_n rfl (g_bipush mzb_64 (g_newarrT (by decide) (by decide) (Nat.le_of_ble_eq_true rfl) (by decide) mzcS_317 (by decide +kernel) (g_putRT (mz_takT mzcS_232 (Nat.le_of_ble_eq_true rfl)) mzcf_12_113 (by decide +kernel) ⟨fun h => absurd h (by decide), fun h => absurd h (by decide)⟩ (g_aload_n rfl (g_bipush mzb_64 ?_)))))
  refine g_newarrT (by decide) (by decide) (Nat.le_of_ble_eq_true rfl) (by decide) mzcS_318 (by decide +kernel) (g_putRT (mz_takT mzcS_232 (Nat.le_of_ble_eq_true rfl)) mzcf_12_114 (by decide +kernel) ⟨fun h => absurd h (by decide), fun h => absurd h (by decide)⟩ (g_aload_n rfl (g_bipush mzb_64 (g_newarrT (by decide) (by decide) (Nat.le_of_ble_eq_true rfl) (by decide) mzcS_319 (by decide +kernel) (g_putRT (mz_takT mzcS_232 (Nat.le_of_ble_eq_true rfl)) mzcf_12_115 (by decide +kernel) ⟨fun h => absurd h (by decide), fun h => absurd h (by decide)⟩ ?_)))))
  refine g_aload_n rfl (g_bipush mzb_64 (g_newarrT (by decide) (by decide) (Nat.le_of_ble_eq_true rfl) (by decide) mzcS_320 (by decide +kernel) (g_putRT (mz_takT mzcS_232 (Nat.le_of_ble_eq_true rfl)) mzcf_12_116 (by decide +kernel) ⟨fun h => absurd h (by decide), fun h => absurd h (by decide)⟩ (g_aload_n rfl (g_bipush mzb_11 ?_)))))
  refine g_newarrT (by decide) (by decide) (Nat.le_of_ble_eq_true rfl) (by decide) mzcS_321 (by decide +kernel) (g_putRT (mz_takT mzcS_232 (Nat.le_of_ble_eq_true rfl)) mzcf_12_117 (by decide +kernel) ⟨fun h => absurd h (by decide), fun h => absurd h (by decide)⟩ (g_aload_n rfl (g_bipush mzb_11 (g_newarrT (by decide) (by decide) (Nat.le_of_ble_eq_true rfl) (by decide) mzcS_322 (by decide +kernel) (g_putRT (mz_takT mzcS_232 (Nat.le_of_ble_eq_true rfl)) mzcf_12_118 (by decide +kernel) ⟨fun h => absurd h (by decide), fun h => absurd h (by decide)⟩ ?_)))))
  refine g_weak ?_ (g_cl (cg_408_740 hd v1 b (mz_nN (mz_nN (mz_nN (mz_nN (mz_nN (mz_nN N 317) 318) 319) 320) 321) 322) hp hq))
  exact ⟨rfl, rfl, trivial⟩
theorem cg_408_644 (hd : 10 ≤ d) (v1 : Int64) (b : Bool) (N : mz_N) (hp : cp_408_644 v1 N) (hq : Q (.inl none) (mz_k (mz_S0.take 342) (mz_Rq 350) (cf_408_644 v1 N) b 0)) : mz_G (d, mz_X0 L xs, none, [], mk_408, 3, Q) 644 mt_408_644 [(0, .ref 232), (1, .long v1)] [] false (mz_k (mz_S0.take 311) (mz_Rq 319) N b 0) := by
  unfold cf_408_644 at hq
  unfold cp_408_644 at hp
  refine g_aload_n rfl (g_bipush mzb_40 (g_newarrT (by decide) (by decide) (Nat.le_of_ble_eq_true rfl) (by decide) mzcS_311 (by decide +kernel) (g_putRT (mz_takT mzcS_232 (Nat.le_of_ble_eq_true rfl)) mzcf_12_106 (by decide +kernel) ⟨fun h => absurd h (by decide), fun h => absurd h (by decide)⟩ (g_aload_n rfl (g_bipush mzb_40 ?_)))))
  refine g_newarrT (by decide) (by decide) (Nat.le_of_ble_eq_true rfl) (by decide) mzcS_312 (by decide +kernel) (g_putRT (mz_takT mzcS_232 (Nat.le_of_ble_eq_true rfl)) mzcf_12_107 (by decide +kernel) ⟨fun h => absurd h (by decide), fun h => absurd h (by decide)⟩ (g_aload_n rfl (g_bipush mzb_40 (g_newarrT (by decide) (by decide) (Nat.le_of_ble_eq_true rfl) (by decide) mzcS_313 (by decide +kernel) (g_putRT (mz_takT mzcS_232 (Nat.le_of_ble_eq_true rfl)) mzcf_12_108 (by decide +kernel) ⟨fun h => absurd h (by decide), fun h => absurd h (by decide)⟩ ?_)))))
  refine g_aload_n rfl (g_bipush mzb_40 (g_newarrT (by decide) (by decide) (Nat.le_of_ble_eq_true rfl) (by decide) mzcS_314 (by decide +kernel) (g_putRT (mz_takT mzcS_232 (Nat.le_of_ble_eq_true rfl)) mzcf_12_109 (by decide +kernel) ⟨fun h => absurd h (by decide), fun h => absurd h (by decide)⟩ (g_aload_n rfl (g_bipush mzb_40 ?_)))))
  refine g_newarrT (by decide) (by decide) (Nat.le_of_ble_eq_true rfl) (by decide) mzcS_315 (by decide +kernel) (g_putRT (mz_takT mzcS_232 (Nat.le_of_ble_eq_true rfl)) mzcf_12_110 (by decide +kernel) ⟨fun h => absurd h (by decide), fun h => absurd h (by decide)⟩ (g_aload_n rfl (g_bipush mzb_40 (g_newarrT (by decide) (by decide) (Nat.le_of_ble_eq_true rfl) (by decide) mzcS_316 (by decide +kernel) (g_putRT (mz_takT mzcS_232 (Nat.le_of_ble_eq_true rfl)) mzcf_12_111 (by decide +kernel) ⟨fun h => absurd h (by decide), fun h => absurd h (by decide)⟩ ?_)))))
  refine g_weak ?_ (g_cl (cg_408_692 hd v1 b (mz_nN (mz_nN (mz_nN (mz_nN (mz_nN (mz_nN N 311) 312) 313) 314) 315) 316) hp hq))
  exact ⟨rfl, rfl, trivial⟩
theorem cg_408_599 (hd : 10 ≤ d) (v1 : Int64) (b : Bool) (N : mz_N) (hp : cp_408_599 v1 N) (hq : Q (.inl none) (mz_k (mz_S0.take 342) (mz_Rq 350) (cf_408_599 v1 N) b 0)) : mz_G (d, mz_X0 L xs, none, [], mk_408, 3, Q) 599 mt_408_599 [(0, .ref 232), (1, .long v1)] [] false (mz_k (mz_S0.take 305) (mz_Rq 313) N b 0) := by
  unfold cf_408_599 at hq
  unfold cp_408_599 at hp
  refine g_aload_n rfl (g_iconst mzi_3 (g_newarrT (by decide) (by decide) (Nat.le_of_ble_eq_true rfl) (by decide) mzcS_305 (by decide +kernel) (g_putRT (mz_takT mzcS_232 (Nat.le_of_ble_eq_true rfl)) mzcf_12_100 (by decide +kernel) ⟨fun h => absurd h (by decide), fun h => absurd h (by decide)⟩ (g_aload_n rfl (g_iconst mzi_3 ?_)))))
  refine g_newarrT (by decide) (by decide) (Nat.le_of_ble_eq_true rfl) (by decide) mzcS_306 (by decide +kernel) (g_putRT (mz_takT mzcS_232 (Nat.le_of_ble_eq_true rfl)) mzcf_12_101 (by decide +kernel) ⟨fun h => absurd h (by decide), fun h => absurd h (by decide)⟩ (g_aload_n rfl (g_iconst mzi_3 (g_newarrT (by decide) (by decide) (Nat.le_of_ble_eq_true rfl) (by decide) mzcS_307 (by decide +kernel) (g_putRT (mz_takT mzcS_232 (Nat.le_of_ble_eq_true rfl)) mzcf_12_102 (by decide +kernel) ⟨fun h => absurd h (by decide), fun h => absurd h (by decide)⟩ ?_)))))
  refine g_aload_n rfl (g_bipush mzb_20 (g_newarrT (by decide) (by decide) (Nat.le_of_ble_eq_true rfl) (by decide) mzcS_308 (by decide +kernel) (g_putRT (mz_takT mzcS_232 (Nat.le_of_ble_eq_true rfl)) mzcf_12_103 (by decide +kernel) ⟨fun h => absurd h (by decide), fun h => absurd h (by decide)⟩ (g_aload_n rfl (g_bipush mzb_20 ?_)))))
  refine g_newarrT (by decide) (by decide) (Nat.le_of_ble_eq_true rfl) (by decide) mzcS_309 (by decide +kernel) (g_putRT (mz_takT mzcS_232 (Nat.le_of_ble_eq_true rfl)) mzcf_12_104 (by decide +kernel) ⟨fun h => absurd h (by decide), fun h => absurd h (by decide)⟩ (g_aload_n rfl (g_bipush mzb_20 (g_newarrT (by decide) (by decide) (Nat.le_of_ble_eq_true rfl) (by decide) mzcS_310 (by decide +kernel) (g_putRT (mz_takT mzcS_232 (Nat.le_of_ble_eq_true rfl)) mzcf_12_105 (by decide +kernel) ⟨fun h => absurd h (by decide), fun h => absurd h (by decide)⟩ ?_)))))
  refine g_weak ?_ (g_cl (cg_408_644 hd v1 b (mz_nN (mz_nN (mz_nN (mz_nN (mz_nN (mz_nN N 305) 306) 307) 308) 309) 310) hp hq))
  exact ⟨rfl, rfl, trivial⟩
theorem cg_408_551 (hd : 10 ≤ d) (v1 : Int64) (b : Bool) (N : mz_N) (hp : cp_408_551 v1 N) (hq : Q (.inl none) (mz_k (mz_S0.take 342) (mz_Rq 350) (cf_408_551 v1 N) b 0)) : mz_G (d, mz_X0 L xs, none, [], mk_408, 3, Q) 551 mt_408_551 [(0, .ref 232), (1, .long v1)] [] false (mz_k (mz_S0.take 299) (mz_Rq 307) N b 0) := by
  unfold cf_408_551 at hq
  unfold cp_408_551 at hp
  refine g_aload_n rfl (g_bipush mzb_6 (g_newarrT (by decide) (by decide) (Nat.le_of_ble_eq_true rfl) (by decide) mzcS_299 (by decide +kernel) (g_putRT (mz_takT mzcS_232 (Nat.le_of_ble_eq_true rfl)) mzcf_12_93 (by decide +kernel) ⟨fun h => absurd h (by decide), fun h => absurd h (by decide)⟩ (g_aload_n rfl (g_bipush mzb_6 ?_)))))
  refine g_newarrT (by decide) (by decide) (Nat.le_of_ble_eq_true rfl) (by decide) mzcS_300 (by decide +kernel) (g_putRT (mz_takT mzcS_232 (Nat.le_of_ble_eq_true rfl)) mzcf_12_94 (by decide +kernel) ⟨fun h => absurd h (by decide), fun h => absurd h (by decide)⟩ (g_aload_n rfl (g_bipush mzb_6 (g_newarrT (by decide) (by decide) (Nat.le_of_ble_eq_true rfl) (by decide) mzcS_301 (by decide +kernel) (g_putRT (mz_takT mzcS_232 (Nat.le_of_ble_eq_true rfl)) mzcf_12_95 (by decide +kernel) ⟨fun h => absurd h (by decide), fun h => absurd h (by decide)⟩ ?_)))))
  refine g_aload_n rfl (g_bipush mzb_8 (g_newarrT (by decide) (by decide) (Nat.le_of_ble_eq_true rfl) (by decide) mzcS_302 (by decide +kernel) (g_putRT (mz_takT mzcS_232 (Nat.le_of_ble_eq_true rfl)) mzcf_12_97 (by decide +kernel) ⟨fun h => absurd h (by decide), fun h => absurd h (by decide)⟩ (g_aload_n rfl (g_bipush mzb_8 ?_)))))
  refine g_newarrT (by decide) (by decide) (Nat.le_of_ble_eq_true rfl) (by decide) mzcS_303 (by decide +kernel) (g_putRT (mz_takT mzcS_232 (Nat.le_of_ble_eq_true rfl)) mzcf_12_98 (by decide +kernel) ⟨fun h => absurd h (by decide), fun h => absurd h (by decide)⟩ (g_aload_n rfl (g_bipush mzb_8 (g_newarrT (by decide) (by decide) (Nat.le_of_ble_eq_true rfl) (by decide) mzcS_304 (by decide +kernel) (g_putRT (mz_takT mzcS_232 (Nat.le_of_ble_eq_true rfl)) mzcf_12_99 (by decide +kernel) ⟨fun h => absurd h (by decide), fun h => absurd h (by decide)⟩ ?_)))))
  refine g_weak ?_ (g_cl (cg_408_599 hd v1 b (mz_nN (mz_nN (mz_nN (mz_nN (mz_nN (mz_nN N 299) 300) 301) 302) 303) 304) hp hq))
  exact ⟨rfl, rfl, trivial⟩
theorem cg_408_506 (hd : 10 ≤ d) (v1 : Int64) (b : Bool) (N : mz_N) (hp : cp_408_506 v1 N) (hq : Q (.inl none) (mz_k (mz_S0.take 342) (mz_Rq 350) (cf_408_506 v1 N) b 0)) : mz_G (d, mz_X0 L xs, none, [], mk_408, 3, Q) 506 mt_408_506 [(0, .ref 232), (1, .long v1)] [] false (mz_k (mz_S0.take 293) (mz_Rq 301) N b 0) := by
  unfold cf_408_506 at hq
  unfold cp_408_506 at hp
  refine g_aload_n rfl (g_bipush mzb_16 (g_newarrT (by decide) (by decide) (Nat.le_of_ble_eq_true rfl) (by decide) mzcS_293 (by decide +kernel) (g_putRT (mz_takT mzcS_232 (Nat.le_of_ble_eq_true rfl)) mzcf_12_86 (by decide +kernel) ⟨fun h => absurd h (by decide), fun h => absurd h (by decide)⟩ (g_aload_n rfl (g_bipush mzb_12 ?_)))))
  refine g_newarrT (by decide) (by decide) (Nat.le_of_ble_eq_true rfl) (by decide) mzcS_294 (by decide +kernel) (g_putRT (mz_takT mzcS_232 (Nat.le_of_ble_eq_true rfl)) mzcf_12_88 (by decide +kernel) ⟨fun h => absurd h (by decide), fun h => absurd h (by decide)⟩ (g_aload_n rfl (g_bipush mzb_12 (g_newarrT (by decide) (by decide) (Nat.le_of_ble_eq_true rfl) (by decide) mzcS_295 (by decide +kernel) (g_putRT (mz_takT mzcS_232 (Nat.le_of_ble_eq_true rfl)) mzcf_12_89 (by decide +kernel) ⟨fun h => absurd h (by decide), fun h => absurd h (by decide)⟩ ?_)))))
  refine g_aload_n rfl (g_iconst mzi_2 (g_newarrT (by decide) (by decide) (Nat.le_of_ble_eq_true rfl) (by decide) mzcS_296 (by decide +kernel) (g_putRT (mz_takT mzcS_232 (Nat.le_of_ble_eq_true rfl)) mzcf_12_90 (by decide +kernel) ⟨fun h => absurd h (by decide), fun h => absurd h (by decide)⟩ (g_aload_n rfl (g_iconst mzi_2 ?_)))))
  refine g_newarrT (by decide) (by decide) (Nat.le_of_ble_eq_true rfl) (by decide) mzcS_297 (by decide +kernel) (g_putRT (mz_takT mzcS_232 (Nat.le_of_ble_eq_true rfl)) mzcf_12_91 (by decide +kernel) ⟨fun h => absurd h (by decide), fun h => absurd h (by decide)⟩ (g_aload_n rfl (g_iconst mzi_2 (g_newarrT (by decide) (by decide) (Nat.le_of_ble_eq_true rfl) (by decide) mzcS_298 (by decide +kernel) (g_putRT (mz_takT mzcS_232 (Nat.le_of_ble_eq_true rfl)) mzcf_12_92 (by decide +kernel) ⟨fun h => absurd h (by decide), fun h => absurd h (by decide)⟩ ?_)))))
  refine g_weak ?_ (g_cl (cg_408_551 hd v1 b (mz_nN (mz_nN (mz_nN (mz_nN (mz_nN (mz_nN N 293) 294) 295) 296) 297) 298) hp hq))
  exact ⟨rfl, rfl, trivial⟩
theorem cg_408_458 (hd : 10 ≤ d) (v1 : Int64) (b : Bool) (N : mz_N) (hp : cp_408_458 v1 N) (hq : Q (.inl none) (mz_k (mz_S0.take 342) (mz_Rq 350) (cf_408_458 v1 N) b 0)) : mz_G (d, mz_X0 L xs, none, [], mk_408, 3, Q) 458 mt_408_458 [(0, .ref 232), (1, .long v1)] [] false (mz_k (mz_S0.take 287) (mz_Rq 295) N b 0) := by
  unfold cf_408_458 at hq
  unfold cp_408_458 at hp
  refine g_aload_n rfl (g_bipush mzb_16 (g_newarrT (by decide) (by decide) (Nat.le_of_ble_eq_true rfl) (by decide) mzcS_287 (by decide +kernel) (g_putRT (mz_takT mzcS_232 (Nat.le_of_ble_eq_true rfl)) mzcf_12_80 (by decide +kernel) ⟨fun h => absurd h (by decide), fun h => absurd h (by decide)⟩ (g_aload_n rfl (g_bipush mzb_16 ?_)))))
  refine g_newarrT (by decide) (by decide) (Nat.le_of_ble_eq_true rfl) (by decide) mzcS_288 (by decide +kernel) (g_putRT (mz_takT mzcS_232 (Nat.le_of_ble_eq_true rfl)) mzcf_12_81 (by decide +kernel) ⟨fun h => absurd h (by decide), fun h => absurd h (by decide)⟩ (g_aload_n rfl (g_bipush mzb_16 (g_newarrT (by decide) (by decide) (Nat.le_of_ble_eq_true rfl) (by decide) mzcS_289 (by decide +kernel) (g_putRT (mz_takT mzcS_232 (Nat.le_of_ble_eq_true rfl)) mzcf_12_82 (by decide +kernel) ⟨fun h => absurd h (by decide), fun h => absurd h (by decide)⟩ ?_)))))
  refine g_aload_n rfl (g_bipush mzb_16 (g_newarrT (by decide) (by decide) (Nat.le_of_ble_eq_true rfl) (by decide) mzcS_290 (by decide +kernel) (g_putRT (mz_takT mzcS_232 (Nat.le_of_ble_eq_true rfl)) mzcf_12_83 (by decide +kernel) ⟨fun h => absurd h (by decide), fun h => absurd h (by decide)⟩ (g_aload_n rfl (g_bipush mzb_16 ?_)))))
  refine g_newarrT (by decide) (by decide) (Nat.le_of_ble_eq_true rfl) (by decide) mzcS_291 (by decide +kernel) (g_putRT (mz_takT mzcS_232 (Nat.le_of_ble_eq_true rfl)) mzcf_12_84 (by decide +kernel) ⟨fun h => absurd h (by decide), fun h => absurd h (by decide)⟩ (g_aload_n rfl (g_bipush mzb_16 (g_newarrT (by decide) (by decide) (Nat.le_of_ble_eq_true rfl) (by decide) mzcS_292 (by decide +kernel) (g_putRT (mz_takT mzcS_232 (Nat.le_of_ble_eq_true rfl)) mzcf_12_85 (by decide +kernel) ⟨fun h => absurd h (by decide), fun h => absurd h (by decide)⟩ ?_)))))
  refine g_weak ?_ (g_cl (cg_408_506 hd v1 b (mz_nN (mz_nN (mz_nN (mz_nN (mz_nN (mz_nN N 287) 288) 289) 290) 291) 292) hp hq))
  exact ⟨rfl, rfl, trivial⟩
theorem cg_408_409 (hd : 10 ≤ d) (v1 : Int64) (b : Bool) (N : mz_N) (hp : cp_408_409 v1 N) (hq : Q (.inl none) (mz_k (mz_S0.take 342) (mz_Rq 350) (cf_408_409 v1 N) b 0)) : mz_G (d, mz_X0 L xs, none, [], mk_408, 3, Q) 409 mt_408_409 [(0, .ref 232), (1, .long v1)] [] false (mz_k (mz_S0.take 281) (mz_Rq 289) N b 0) := by
  unfold cf_408_409 at hq
  unfold cp_408_409 at hp
  refine g_aload_n rfl (g_bipush mzb_32 (g_newarrT (by decide) (by decide) (Nat.le_of_ble_eq_true rfl) (by decide) mzcS_281 (by decide +kernel) (g_putRT (mz_takT mzcS_232 (Nat.le_of_ble_eq_true rfl)) mzcf_12_74 (by decide +kernel) ⟨fun h => absurd h (by decide), fun h => absurd h (by decide)⟩ (g_aload_n rfl (g_bipush mzb_8 ?_)))))
  refine g_newarrT (by decide) (by decide) (Nat.le_of_ble_eq_true rfl) (by decide) mzcS_282 (by decide +kernel) (g_putRT (mz_takT mzcS_232 (Nat.le_of_ble_eq_true rfl)) mzcf_12_75 (by decide +kernel) ⟨fun h => absurd h (by decide), fun h => absurd h (by decide)⟩ (g_aload_n rfl (g_bipush mzb_8 (g_newarrT (by decide) (by decide) (Nat.le_of_ble_eq_true rfl) (by decide) mzcS_283 (by decide +kernel) (g_putRT (mz_takT mzcS_232 (Nat.le_of_ble_eq_true rfl)) mzcf_12_76 (by decide +kernel) ⟨fun h => absurd h (by decide), fun h => absurd h (by decide)⟩ ?_)))))
  refine g_aload_n rfl (g_bipush mzb_8 (g_newarrT (by decide) (by decide) (Nat.le_of_ble_eq_true rfl) (by decide) mzcS_284 (by decide +kernel) (g_putRT (mz_takT mzcS_232 (Nat.le_of_ble_eq_true rfl)) mzcf_12_77 (by decide +kernel) ⟨fun h => absurd h (by decide), fun h => absurd h (by decide)⟩ (g_aload_n rfl (g_bipush mzb_8 ?_)))))
  refine g_newarrT (by decide) (by decide) (Nat.le_of_ble_eq_true rfl) (by decide) mzcS_285 (by decide +kernel) (g_putRT (mz_takT mzcS_232 (Nat.le_of_ble_eq_true rfl)) mzcf_12_78 (by decide +kernel) ⟨fun h => absurd h (by decide), fun h => absurd h (by decide)⟩ (g_aload_n rfl (g_sipush mzs_384 (g_newarrT (by decide) (by decide) (Nat.le_of_ble_eq_true rfl) (by decide) mzcS_286 (by decide +kernel) (g_putRT (mz_takT mzcS_232 (Nat.le_of_ble_eq_true rfl)) mzcf_12_79 (by decide +kernel) ⟨fun h => absurd h (by decide), fun h => absurd h (by decide)⟩ ?_)))))
  refine g_weak ?_ (g_cl (cg_408_458 hd v1 b (mz_nN (mz_nN (mz_nN (mz_nN (mz_nN (mz_nN N 281) 282) 283) 284) 285) 286) hp hq))
  exact ⟨rfl, rfl, trivial⟩
theorem cg_408_361 (hd : 10 ≤ d) (v1 : Int64) (b : Bool) (N : mz_N) (hp : cp_408_361 v1 N) (hq : Q (.inl none) (mz_k (mz_S0.take 342) (mz_Rq 350) (cf_408_361 v1 N) b 0)) : mz_G (d, mz_X0 L xs, none, [], mk_408, 3, Q) 361 mt_408_361 [(0, .ref 232), (1, .long v1)] [] false (mz_k (mz_S0.take 275) (mz_Rq 283) N b 0) := by
  unfold cf_408_361 at hq
  unfold cp_408_361 at hp
  refine g_aload_n rfl (g_bipush mzb_11 (g_newarrT (by decide) (by decide) (Nat.le_of_ble_eq_true rfl) (by decide) mzcS_275 (by decide +kernel) (g_putRT (mz_takT mzcS_232 (Nat.le_of_ble_eq_true rfl)) mzcf_12_59 (by decide +kernel) ⟨fun h => absurd h (by decide), fun h => absurd h (by decide)⟩ (g_aload_n rfl (g_bipush mzb_11 ?_)))))
  refine g_newarrT (by decide) (by decide) (Nat.le_of_ble_eq_true rfl) (by decide) mzcS_276 (by decide +kernel) (g_putRT (mz_takT mzcS_232 (Nat.le_of_ble_eq_true rfl)) mzcf_12_60 (by decide +kernel) ⟨fun h => absurd h (by decide), fun h => absurd h (by decide)⟩ (g_aload_n rfl (g_bipush mzb_10 (g_newarrT (by decide) (by decide) (Nat.le_of_ble_eq_true rfl) (by decide) mzcS_277 (by decide +kernel) (g_putRT (mz_takT mzcS_232 (Nat.le_of_ble_eq_true rfl)) mzcf_12_69 (by decide +kernel) ⟨fun h => absurd h (by decide), fun h => absurd h (by decide)⟩ ?_)))))
  refine g_aload_n rfl (g_bipush mzb_10 (g_newarrT (by decide) (by decide) (Nat.le_of_ble_eq_true rfl) (by decide) mzcS_278 (by decide +kernel) (g_putRT (mz_takT mzcS_232 (Nat.le_of_ble_eq_true rfl)) mzcf_12_70 (by decide +kernel) ⟨fun h => absurd h (by decide), fun h => absurd h (by decide)⟩ (g_aload_n rfl (g_bipush mzb_18 ?_)))))
  refine g_newarrT (by decide) (by decide) (Nat.le_of_ble_eq_true rfl) (by decide) mzcS_279 (by decide +kernel) (g_putRT (mz_takT mzcS_232 (Nat.le_of_ble_eq_true rfl)) mzcf_12_71 (by decide +kernel) ⟨fun h => absurd h (by decide), fun h => absurd h (by decide)⟩ (g_aload_n rfl (g_bipush mzb_32 (g_newarrT (by decide) (by decide) (Nat.le_of_ble_eq_true rfl) (by decide) mzcS_280 (by decide +kernel) (g_putRT (mz_takT mzcS_232 (Nat.le_of_ble_eq_true rfl)) mzcf_12_73 (by decide +kernel) ⟨fun h => absurd h (by decide), fun h => absurd h (by decide)⟩ ?_)))))
  refine g_weak ?_ (g_cl (cg_408_409 hd v1 b (mz_nN (mz_nN (mz_nN (mz_nN (mz_nN (mz_nN N 275) 276) 277) 278) 279) 280) hp hq))
  exact ⟨rfl, rfl, trivial⟩
theorem cg_408_313 (hd : 10 ≤ d) (v1 : Int64) (b : Bool) (N : mz_N) (hp : cp_408_313 v1 N) (hq : Q (.inl none) (mz_k (mz_S0.take 342) (mz_Rq 350) (cf_408_313 v1 N) b 0)) : mz_G (d, mz_X0 L xs, none, [], mk_408, 3, Q) 313 mt_408_313 [(0, .ref 232), (1, .long v1)] [] false (mz_k (mz_S0.take 269) (mz_Rq 277) N b 0) := by
  unfold cf_408_313 at hq
  unfold cp_408_313 at hp
  refine g_aload_n rfl (g_bipush mzb_40 (g_newarrT (by decide) (by decide) (Nat.le_of_ble_eq_true rfl) (by decide) mzcS_269 (by decide +kernel) (g_putRT (mz_takT mzcS_232 (Nat.le_of_ble_eq_true rfl)) mzcf_12_49 (by decide +kernel) ⟨fun h => absurd h (by decide), fun h => absurd h (by decide)⟩ (g_aload_n rfl (g_bipush mzb_41 ?_)))))
  refine g_newarrT (by decide) (by decide) (Nat.le_of_ble_eq_true rfl) (by decide) mzcS_270 (by decide +kernel) (g_putRT (mz_takT mzcS_232 (Nat.le_of_ble_eq_true rfl)) mzcf_12_50 (by decide +kernel) ⟨fun h => absurd h (by decide), fun h => absurd h (by decide)⟩ (g_aload_n rfl (g_bipush mzb_41 (g_newarrT (by decide) (by decide) (Nat.le_of_ble_eq_true rfl) (by decide) mzcS_271 (by decide +kernel) (g_putRT (mz_takT mzcS_232 (Nat.le_of_ble_eq_true rfl)) mzcf_12_51 (by decide +kernel) ⟨fun h => absurd h (by decide), fun h => absurd h (by decide)⟩ ?_)))))
  refine g_aload_n rfl (g_bipush mzb_11 (g_newarrT (by decide) (by decide) (Nat.le_of_ble_eq_true rfl) (by decide) mzcS_272 (by decide +kernel) (g_putRT (mz_takT mzcS_232 (Nat.le_of_ble_eq_true rfl)) mzcf_12_56 (by decide +kernel) ⟨fun h => absurd h (by decide), fun h => absurd h (by decide)⟩ (g_aload_n rfl (g_bipush mzb_11 ?_)))))
  refine g_newarrT (by decide) (by decide) (Nat.le_of_ble_eq_true rfl) (by decide) mzcS_273 (by decide +kernel) (g_putRT (mz_takT mzcS_232 (Nat.le_of_ble_eq_true rfl)) mzcf_12_57 (by decide +kernel) ⟨fun h => absurd h (by decide), fun h => absurd h (by decide)⟩ (g_aload_n rfl (g_bipush mzb_11 (g_newarrT (by decide) (by decide) (Nat.le_of_ble_eq_true rfl) (by decide) mzcS_274 (by decide +kernel) (g_putRT (mz_takT mzcS_232 (Nat.le_of_ble_eq_true rfl)) mzcf_12_58 (by decide +kernel) ⟨fun h => absurd h (by decide), fun h => absurd h (by decide)⟩ ?_)))))
  refine g_weak ?_ (g_cl (cg_408_361 hd v1 b (mz_nN (mz_nN (mz_nN (mz_nN (mz_nN (mz_nN N 269) 270) 271) 272) 273) 274) hp hq))
  exact ⟨rfl, rfl, trivial⟩
theorem cg_408_260 (hd : 10 ≤ d) (v1 : Int64) (b : Bool) (N : mz_N) (hp : cp_408_260 v1 N) (hq : Q (.inl none) (mz_k (mz_S0.take 342) (mz_Rq 350) (cf_408_260 v1 N) b 0)) : mz_G (d, mz_X0 L xs, none, [], mk_408, 3, Q) 260 mt_408_260 [(0, .ref 232), (1, .long v1)] [] false (mz_k (mz_S0.take 263) (mz_Rq 271) N b 0) := by
  unfold cf_408_260 at hq
  unfold cp_408_260 at hp
  refine g_aload_n rfl (g_sipush mzs_240 (g_newarrT (by decide) (by decide) (Nat.le_of_ble_eq_true rfl) (by decide) mzcS_263 (by decide +kernel) (g_putRT (mz_takT mzcS_232 (Nat.le_of_ble_eq_true rfl)) mzcf_12_43 (by decide +kernel) ⟨fun h => absurd h (by decide), fun h => absurd h (by decide)⟩ (g_aload_n rfl (g_sipush mzs_240 ?_)))))
  refine g_newarrT (by decide) (by decide) (Nat.le_of_ble_eq_true rfl) (by decide) mzcS_264 (by decide +kernel) (g_putRT (mz_takT mzcS_232 (Nat.le_of_ble_eq_true rfl)) mzcf_12_44 (by decide +kernel) ⟨fun h => absurd h (by decide), fun h => absurd h (by decide)⟩ (g_aload_n rfl (g_sipush mzs_240 (g_newarrT (by decide) (by decide) (Nat.le_of_ble_eq_true rfl) (by decide) mzcS_265 (by decide +kernel) (g_putRT (mz_takT mzcS_232 (Nat.le_of_ble_eq_true rfl)) mzcf_12_45 (by decide +kernel) ⟨fun h => absurd h (by decide), fun h => absurd h (by decide)⟩ ?_)))))
  refine g_aload_n rfl (g_sipush mzs_240 (g_newarrT (by decide) (by decide) (Nat.le_of_ble_eq_true rfl) (by decide) mzcS_266 (by decide +kernel) (g_putRT (mz_takT mzcS_232 (Nat.le_of_ble_eq_true rfl)) mzcf_12_46 (by decide +kernel) ⟨fun h => absurd h (by decide), fun h => absurd h (by decide)⟩ (g_aload_n rfl (g_sipush mzs_240 ?_)))))
  refine g_newarrT (by decide) (by decide) (Nat.le_of_ble_eq_true rfl) (by decide) mzcS_267 (by decide +kernel) (g_putRT (mz_takT mzcS_232 (Nat.le_of_ble_eq_true rfl)) mzcf_12_47 (by decide +kernel) ⟨fun h => absurd h (by decide), fun h => absurd h (by decide)⟩ (g_aload_n rfl (g_bipush mzb_40 (g_newarrT (by decide) (by decide) (Nat.le_of_ble_eq_true rfl) (by decide) mzcS_268 (by decide +kernel) (g_putRT (mz_takT mzcS_232 (Nat.le_of_ble_eq_true rfl)) mzcf_12_48 (by decide +kernel) ⟨fun h => absurd h (by decide), fun h => absurd h (by decide)⟩ ?_)))))
  refine g_weak ?_ (g_cl (cg_408_313 hd v1 b (mz_nN (mz_nN (mz_nN (mz_nN (mz_nN (mz_nN N 263) 264) 265) 266) 267) 268) hp hq))
  exact ⟨rfl, rfl, trivial⟩
theorem cg_408_208 (hd : 10 ≤ d) (v1 : Int64) (b : Bool) (N : mz_N) (hp : cp_408_208 v1 N) (hq : Q (.inl none) (mz_k (mz_S0.take 342) (mz_Rq 350) (cf_408_208 v1 N) b 0)) : mz_G (d, mz_X0 L xs, none, [], mk_408, 3, Q) 208 mt_408_208 [(0, .ref 232), (1, .long v1)] [] false (mz_k (mz_S0.take 257) (mz_Rq 265) N b 0) := by
  unfold cf_408_208 at hq
  unfold cp_408_208 at hp
  refine g_aload_n rfl (g_bipush mzb_16 (g_newarrT (by decide) (by decide) (Nat.le_of_ble_eq_true rfl) (by decide) mzcS_257 (by decide +kernel) (g_putRT (mz_takT mzcS_232 (Nat.le_of_ble_eq_true rfl)) mzcf_12_37 (by decide +kernel) ⟨fun h => absurd h (by decide), fun h => absurd h (by decide)⟩ (g_aload_n rfl (g_bipush mzb_64 ?_)))))
  refine g_newarrT (by decide) (by decide) (Nat.le_of_ble_eq_true rfl) (by decide) mzcS_258 (by decide +kernel) (g_putRT (mz_takT mzcS_232 (Nat.le_of_ble_eq_true rfl)) mzcf_12_38 (by decide +kernel) ⟨fun h => absurd h (by decide), fun h => absurd h (by decide)⟩ (g_aload_n rfl (g_sipush mzs_200 (g_newarrT (by decide) (by decide) (Nat.le_of_ble_eq_true rfl) (by decide) mzcS_259 (by decide +kernel) (g_putRT (mz_takT mzcS_232 (Nat.le_of_ble_eq_true rfl)) mzcf_12_39 (by decide +kernel) ⟨fun h => absurd h (by decide), fun h => absurd h (by decide)⟩ ?_)))))
  refine g_aload_n rfl (g_sipush mzs_240 (g_newarrT (by decide) (by decide) (Nat.le_of_ble_eq_true rfl) (by decide) mzcS_260 (by decide +kernel) (g_putRT (mz_takT mzcS_232 (Nat.le_of_ble_eq_true rfl)) mzcf_12_40 (by decide +kernel) ⟨fun h => absurd h (by decide), fun h => absurd h (by decide)⟩ (g_aload_n rfl (g_sipush mzs_240 ?_)))))
  refine g_newarrT (by decide) (by decide) (Nat.le_of_ble_eq_true rfl) (by decide) mzcS_261 (by decide +kernel) (g_putRT (mz_takT mzcS_232 (Nat.le_of_ble_eq_true rfl)) mzcf_12_41 (by decide +kernel) ⟨fun h => absurd h (by decide), fun h => absurd h (by decide)⟩ (g_aload_n rfl (g_sipush mzs_240 (g_newarrT (by decide) (by decide) (Nat.le_of_ble_eq_true rfl) (by decide) mzcS_262 (by decide +kernel) (g_putRT (mz_takT mzcS_232 (Nat.le_of_ble_eq_true rfl)) mzcf_12_42 (by decide +kernel) ⟨fun h => absurd h (by decide), fun h => absurd h (by decide)⟩ ?_)))))
  refine g_weak ?_ (g_cl (cg_408_260 hd v1 b (mz_nN (mz_nN (mz_nN (mz_nN (mz_nN (mz_nN N 257) 258) 259) 260) 261) 262) hp hq))
  exact ⟨rfl, rfl, trivial⟩
theorem cg_408_156 (hd : 10 ≤ d) (v1 : Int64) (b : Bool) (N : mz_N) (hp : cp_408_156 v1 N) (hq : Q (.inl none) (mz_k (mz_S0.take 342) (mz_Rq 350) (cf_408_156 v1 N) b 0)) : mz_G (d, mz_X0 L xs, none, [], mk_408, 3, Q) 156 mt_408_156 [(0, .ref 232), (1, .long v1)] [] false (mz_k (mz_S0.take 251) (mz_Rq 259) N b 0) := by
  unfold cf_408_156 at hq
  unfold cp_408_156 at hp
  refine g_aload_n rfl (g_sipush mzs_196 (g_newarrT (by decide) (by decide) (Nat.le_of_ble_eq_true rfl) (by decide) mzcS_251 (by decide +kernel) (g_putRT (mz_takT mzcS_232 (Nat.le_of_ble_eq_true rfl)) mzcf_12_24 (by decide +kernel) ⟨fun h => absurd h (by decide), fun h => absurd h (by decide)⟩ (g_aload_n rfl (g_sipush mzs_196 ?_)))))
  refine g_newarrT (by decide) (by decide) (Nat.le_of_ble_eq_true rfl) (by decide) mzcS_252 (by decide +kernel) (g_putRT (mz_takT mzcS_232 (Nat.le_of_ble_eq_true rfl)) mzcf_12_26 (by decide +kernel) ⟨fun h => absurd h (by decide), fun h => absurd h (by decide)⟩ (g_aload_n rfl (g_sipush mzs_400 (g_newarrT (by decide) (by decide) (Nat.le_of_ble_eq_true rfl) (by decide) mzcS_253 (by decide +kernel) (g_putRT (mz_takT mzcS_232 (Nat.le_of_ble_eq_true rfl)) mzcf_12_29 (by decide +kernel) ⟨fun h => absurd h (by decide), fun h => absurd h (by decide)⟩ ?_)))))
  refine g_aload_n rfl (g_sipush mzs_400 (g_newarrT (by decide) (by decide) (Nat.le_of_ble_eq_true rfl) (by decide) mzcS_254 (by decide +kernel) (g_putRT (mz_takT mzcS_232 (Nat.le_of_ble_eq_true rfl)) mzcf_12_30 (by decide +kernel) ⟨fun h => absurd h (by decide), fun h => absurd h (by decide)⟩ (g_aload_n rfl (g_bipush mzb_13 ?_)))))
  refine g_newarrT (by decide) (by decide) (Nat.le_of_ble_eq_true rfl) (by decide) mzcS_255 (by decide +kernel) (g_putRT (mz_takT mzcS_232 (Nat.le_of_ble_eq_true rfl)) mzcf_12_32 (by decide +kernel) ⟨fun h => absurd h (by decide), fun h => absurd h (by decide)⟩ (g_aload_n rfl (g_bipush mzb_13 (g_newarrT (by decide) (by decide) (Nat.le_of_ble_eq_true rfl) (by decide) mzcS_256 (by decide +kernel) (g_putRT (mz_takT mzcS_232 (Nat.le_of_ble_eq_true rfl)) mzcf_12_33 (by decide +kernel) ⟨fun h => absurd h (by decide), fun h => absurd h (by decide)⟩ ?_)))))
  refine g_weak ?_ (g_cl (cg_408_208 hd v1 b (mz_nN (mz_nN (mz_nN (mz_nN (mz_nN (mz_nN N 251) 252) 253) 254) 255) 256) hp hq))
  exact ⟨rfl, rfl, trivial⟩
theorem cg_408_110 (hd : 10 ≤ d) (v1 : Int64) (b : Bool) (N : mz_N) (hp : cp_408_110 v1 N) (hq : Q (.inl none) (mz_k (mz_S0.take 342) (mz_Rq 350) (cf_408_110 v1 N) b 0)) : mz_G (d, mz_X0 L xs, none, [], mk_408, 3, Q) 110 mt_408_110 [(0, .ref 232), (1, .long v1)] [] false (mz_k (mz_S0.take 245) (mz_Rq 253) N b 0) := by
  unfold cf_408_110 at hq
  unfold cp_408_110 at hp
  refine g_aload_n rfl (g_bipush mzb_24 (g_newarrT (by decide) (by decide) (Nat.le_of_ble_eq_true rfl) (by decide) mzcS_245 (by decide +kernel) (g_putRT (mz_takT mzcS_232 (Nat.le_of_ble_eq_true rfl)) mzcf_12_17 (by decide +kernel) ⟨fun h => absurd h (by decide), fun h => absurd h (by decide)⟩ (g_aload_n rfl (g_bipush mzb_96 ?_)))))
  refine g_newarrT (by decide) (by decide) (Nat.le_of_ble_eq_true rfl) (by decide) mzcS_246 (by decide +kernel) (g_putRT (mz_takT mzcS_232 (Nat.le_of_ble_eq_true rfl)) mzcf_12_18 (by decide +kernel) ⟨fun h => absurd h (by decide), fun h => absurd h (by decide)⟩ (g_aload_n rfl (g_bipush mzb_11 (g_newarrT (by decide) (by decide) (Nat.le_of_ble_eq_true rfl) (by decide) mzcS_247 (by decide +kernel) (g_putRT (mz_takT mzcS_232 (Nat.le_of_ble_eq_true rfl)) mzcf_12_19 (by decide +kernel) ⟨fun h => absurd h (by decide), fun h => absurd h (by decide)⟩ ?_)))))
  refine g_aload_n rfl (g_bipush mzb_11 (g_newarrT (by decide) (by decide) (Nat.le_of_ble_eq_true rfl) (by decide) mzcS_248 (by decide +kernel) (g_putRT (mz_takT mzcS_232 (Nat.le_of_ble_eq_true rfl)) mzcf_12_20 (by decide +kernel) ⟨fun h => absurd h (by decide), fun h => absurd h (by decide)⟩ (g_aload_n rfl (g_iconst mzi_3 ?_)))))
  refine g_newarrT (by decide) (by decide) (Nat.le_of_ble_eq_true rfl) (by decide) mzcS_249 (by decide +kernel) (g_putRT (mz_takT mzcS_232 (Nat.le_of_ble_eq_true rfl)) mzcf_12_22 (by decide +kernel) ⟨fun h => absurd h (by decide), fun h => absurd h (by decide)⟩ (g_aload_n rfl (g_iconst mzi_3 (g_newarrT (by decide) (by decide) (Nat.le_of_ble_eq_true rfl) (by decide) mzcS_250 (by decide +kernel) (g_putRT (mz_takT mzcS_232 (Nat.le_of_ble_eq_true rfl)) mzcf_12_23 (by decide +kernel) ⟨fun h => absurd h (by decide), fun h => absurd h (by decide)⟩ ?_)))))
  refine g_weak ?_ (g_cl (cg_408_156 hd v1 b (mz_nN (mz_nN (mz_nN (mz_nN (mz_nN (mz_nN N 245) 246) 247) 248) 249) 250) hp hq))
  exact ⟨rfl, rfl, trivial⟩
theorem cg_408_58 (hd : 10 ≤ d) (v1 : Int64) (b : Bool) (N : mz_N) (hp : cp_408_58 v1 N) (hq : Q (.inl none) (mz_k (mz_S0.take 342) (mz_Rq 350) (cf_408_58 v1 N) b 0)) : mz_G (d, mz_X0 L xs, none, [], mk_408, 3, Q) 58 mt_408_58 [(0, .ref 232), (1, .long v1)] [] false (mz_k (mz_S0.take 239) (mz_Rq 247) N b 0) := by
  unfold cf_408_58 at hq
  unfold cp_408_58 at hp
  refine g_aload_n rfl (g_sipush mzs_6400 (g_newarrT (by decide) (by decide) (Nat.le_of_ble_eq_true rfl) (by decide) mzcS_239 (by decide +kernel) (g_putRT (mz_takT mzcS_232 (Nat.le_of_ble_eq_true rfl)) mzcf_12_11 (by decide +kernel) ⟨fun h => absurd h (by decide), fun h => absurd h (by decide)⟩ (g_aload_n rfl (g_sipush mzs_240 ?_)))))
  refine g_newarrT (by decide) (by decide) (Nat.le_of_ble_eq_true rfl) (by decide) mzcS_240 (by decide +kernel) (g_putRT (mz_takT mzcS_232 (Nat.le_of_ble_eq_true rfl)) mzcf_12_12 (by decide +kernel) ⟨fun h => absurd h (by decide), fun h => absurd h (by decide)⟩ (g_aload_n rfl (g_sipush mzs_240 (g_newarrT (by decide) (by decide) (Nat.le_of_ble_eq_true rfl) (by decide) mzcS_241 (by decide +kernel) (g_putRT (mz_takT mzcS_232 (Nat.le_of_ble_eq_true rfl)) mzcf_12_13 (by decide +kernel) ⟨fun h => absurd h (by decide), fun h => absurd h (by decide)⟩ ?_)))))
  refine g_aload_n rfl (g_bipush mzb_10 (g_newarrT (by decide) (by decide) (Nat.le_of_ble_eq_true rfl) (by decide) mzcS_242 (by decide +kernel) (g_putRT (mz_takT mzcS_232 (Nat.le_of_ble_eq_true rfl)) mzcf_12_14 (by decide +kernel) ⟨fun h => absurd h (by decide), fun h => absurd h (by decide)⟩ (g_aload_n rfl (g_bipush mzb_10 ?_)))))
  refine g_newarrT (by decide) (by decide) (Nat.le_of_ble_eq_true rfl) (by decide) mzcS_243 (by decide +kernel) (g_putRT (mz_takT mzcS_232 (Nat.le_of_ble_eq_true rfl)) mzcf_12_15 (by decide +kernel) ⟨fun h => absurd h (by decide), fun h => absurd h (by decide)⟩ (g_aload_n rfl (g_sipush mzs_240 (g_newarrT (by decide) (by decide) (Nat.le_of_ble_eq_true rfl) (by decide) mzcS_244 (by decide +kernel) (g_putRT (mz_takT mzcS_232 (Nat.le_of_ble_eq_true rfl)) mzcf_12_16 (by decide +kernel) ⟨fun h => absurd h (by decide), fun h => absurd h (by decide)⟩ ?_)))))
  refine g_weak ?_ (g_cl (cg_408_110 hd v1 b (mz_nN (mz_nN (mz_nN (mz_nN (mz_nN (mz_nN N 239) 240) 241) 242) 243) 244) hp hq))
  exact ⟨rfl, rfl, trivial⟩
theorem cg_408_0 (hd : 10 ≤ d) (v1 : Int64) (b : Bool) (N : mz_N) (hp : cp_408_0 v1 N) (hq : Q (.inl none) (mz_k (mz_S0.take 342) (mz_Rq 350) (cf_408_0 v1 N) b 0)) : mz_G (d, mz_X0 L xs, none, [], mk_408, 3, Q) 0 mk_408 [(0, .ref 232), (1, .long v1)] [] true (mz_k (mz_S0.take 233) (mz_Rq 241) N b 0) := by
  unfold cf_408_0 at hq
  unfold cp_408_0 at hp
  refine g_aload_n rfl (g_objT (Nat.le_of_ble_eq_true rfl) (g_aload_n rfl (g_sipush mzs_4400 (g_newarrT (by decide) (by decide) (Nat.le_of_ble_eq_true rfl) (by decide) mzcS_233 (by decide +kernel) (g_putRT (mz_takT mzcS_232 (Nat.le_of_ble_eq_true rfl)) mzcf_12_3 (by decide +kernel) ⟨fun h => absurd h (by decide), fun h => absurd h (by decide)⟩ ?_)))))
  refine g_aload_n rfl (g_sipush mzs_240 (g_newarrT (by decide) (by decide) (Nat.le_of_ble_eq_true rfl) (by decide) mzcS_234 (by decide +kernel) (g_putRT (mz_takT mzcS_232 (Nat.le_of_ble_eq_true rfl)) mzcf_12_5 (by decide +kernel) ⟨fun h => absurd h (by decide), fun h => absurd h (by decide)⟩ (g_aload_n rfl (g_sipush mzs_240 ?_)))))
  refine g_newarrT (by decide) (by decide) (Nat.le_of_ble_eq_true rfl) (by decide) mzcS_235 (by decide +kernel) (g_putRT (mz_takT mzcS_232 (Nat.le_of_ble_eq_true rfl)) mzcf_12_6 (by decide +kernel) ⟨fun h => absurd h (by decide), fun h => absurd h (by decide)⟩ (g_aload_n rfl (g_sipush mzs_240 (g_newarrT (by decide) (by decide) (Nat.le_of_ble_eq_true rfl) (by decide) mzcS_236 (by decide +kernel) (g_putRT (mz_takT mzcS_232 (Nat.le_of_ble_eq_true rfl)) mzcf_12_8 (by decide +kernel) ⟨fun h => absurd h (by decide), fun h => absurd h (by decide)⟩ ?_)))))
  refine g_aload_n rfl (g_sipush mzs_240 (g_newarrT (by decide) (by decide) (Nat.le_of_ble_eq_true rfl) (by decide) mzcS_237 (by decide +kernel) (g_putRT (mz_takT mzcS_232 (Nat.le_of_ble_eq_true rfl)) mzcf_12_9 (by decide +kernel) ⟨fun h => absurd h (by decide), fun h => absurd h (by decide)⟩ (g_aload_n rfl (g_sipush mzs_240 ?_)))))
  refine g_newarrT (by decide) (by decide) (Nat.le_of_ble_eq_true rfl) (by decide) mzcS_238 (by decide +kernel) (g_putRT (mz_takT mzcS_232 (Nat.le_of_ble_eq_true rfl)) mzcf_12_10 (by decide +kernel) ⟨fun h => absurd h (by decide), fun h => absurd h (by decide)⟩ ?_)
  refine g_weak ?_ (g_cl (cg_408_58 hd v1 b (mz_nN (mz_nN (mz_nN (mz_nN (mz_nN (mz_nN N 233) 234) 235) 236) 237) 238) hp hq))
  exact ⟨rfl, rfl, trivial⟩
theorem cs_408 (hd : 11 ≤ d) (v1 : Int64) (b : Bool) (N : mz_N) (hp : cp_408_0 v1 N) (hq : Q (.inl none) (mz_k (mz_S0.take 342) (mz_Rq 350) (cf_408_0 v1 N) b 0)) : mz_Ed (mz_X0 L xs) d 408 [.ref 232, .long v1] (mz_k (mz_S0.take 233) (mz_Rq 241) N b 0) Q := by
  refine g_in mzq_408 (Nat.le_of_ble_eq_true rfl) (Nat.le_of_ble_eq_true rfl) (Nat.le_trans (Nat.le_of_ble_eq_true rfl) hd) ?_
  refine g_weak ?_ (cg_408_0 (d := d - 1) (by omega) v1 b N hp hq)
  exact ⟨rfl, rfl, trivial⟩
theorem cs_622 (hd : 13 ≤ d) (N : mz_N) (hp : cp_622_0 L xs N) (hq : ∀ K, Q (.inl (some (.int (mz_b01 (cf_622_0 L xs N).1)))) K) : mz_Ed (mz_X0 L xs) d 622 [.ref 1002] (mz_k (mz_S0.take 0) (mz_Rq 0) N false 0) Q := by
  refine g_in mzq_622 (Nat.le_of_ble_eq_true rfl) (Nat.le_of_ble_eq_true rfl) (Nat.le_trans (Nat.le_of_ble_eq_true rfl) hd) ?_
  refine g_weak (lv' := [(0, .ref 1002)]) ⟨rfl, trivial⟩ ?_
  have hd2 : 12 ≤ d - 1 := by omega
  unfold cp_622_0 at hp
  unfold cf_622_0 at hq
  obtain ⟨h1, h2, h3, h4, hp⟩ := hp
  refine g_newT mzcS_0 (by decide +kernel) (g_dup rfl (g_aload_n rfl (g_iconst mzi_0 ?_)))
  refine g_s2v (Nat.le_of_ble_eq_true rfl) (fun _ hq => cs_101 (Nat.le_trans (Nat.le_of_ble_eq_true rfl) hd2) (mz_extT (Nat.le_of_ble_eq_true rfl) (Nat.le_of_ble_eq_true rfl)) (mz_rokT (by decide +kernel)) L xs 0 h1 hq) ?_
  refine g_i2l ?_
  refine g_n2n (Nat.le_of_ble_eq_true rfl) (fun _ hq => cs_0 (Nat.le_trans (Nat.le_of_ble_eq_true rfl) hd2) ((cf_101_0 L xs 0).toInt64) (mz_nN N 0) h2 hq) ?_
  refine g_astore_n (Nat.le_of_ble_eq_true rfl) rfl (g_newT mzcS_232 (by decide +kernel) (g_dup rfl (g_aload_n rfl (g_iconst mzi_0 ?_))))
  refine g_s2v (Nat.le_of_ble_eq_true rfl) (fun _ hq => cs_101 (Nat.le_trans (Nat.le_of_ble_eq_true rfl) hd2) (mz_extT (Nat.le_of_ble_eq_true rfl) (Nat.le_of_ble_eq_true rfl)) (mz_rokT (by decide +kernel)) L xs 0 h3 hq) ?_
  refine g_i2l ?_
  refine g_n2n (Nat.le_of_ble_eq_true rfl) (fun _ hq => cs_408 (Nat.le_trans (Nat.le_of_ble_eq_true rfl) hd2) ((cf_101_0 L xs 0).toInt64) (cf_0_0 ((cf_101_0 L xs 0).toInt64) (mz_nN N 0)).2 (mz_nN ((cf_0_0 ((cf_101_0 L xs 0).toInt64) (mz_nN N 0)).1) 232) h4 hq) ?_
  refine g_astore_n (Nat.le_of_ble_eq_true rfl) rfl (g_iconst mzi_1 (g_newarrT (by decide) (by decide) (Nat.le_of_ble_eq_true rfl) (by decide) mzcS_342 (by decide +kernel) (g_astore_n (Nat.le_of_ble_eq_true rfl) rfl (g_iconst mzi_1 (g_istore (Nat.le_of_ble_eq_true rfl) rfl ?_)))))
  refine g_weak ?_ (g_cl (cg_622_35 hd2 (mz_extT (Nat.le_of_ble_eq_true rfl) (Nat.le_of_ble_eq_true rfl)) (mz_rokT (by decide +kernel)) L xs 1 (mz_nN (cf_408_0 ((cf_101_0 L xs 0).toInt64) (mz_nN ((cf_0_0 ((cf_101_0 L xs 0).toInt64) (mz_nN N 0)).1) 232)) 342) ((cf_0_0 ((cf_101_0 L xs 0).toInt64) (mz_nN N 0)).2) 0 (C0 := fun z => ∀ K, Q (.inl (some (.int (mz_b01 z.1)))) K) (fun _ _ _ _ h => h _) hp hq))
  exact ⟨rfl, rfl, rfl, rfl, rfl, trivial⟩
end Fn900
