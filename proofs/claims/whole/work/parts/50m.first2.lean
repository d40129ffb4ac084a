/-! PURE (50m): the class's things at first: the rest. -/
section Fs2
variable {N : mz_N}
theorem fs48 : cp_48_0 N ∧ fq [65, 66, 67, 72, 73] [68, 69, 70, 71] N (cf_48_0 N) ∧ (∀ j, j < 24 → (cf_48_0 N).1 66 j = 0) ∧ (∀ j, j < 96 → (cf_48_0 N).1 67 j = 0) ∧ (∀ j, j < 240 → (cf_48_0 N).2 68 j = 18000 ∧ (cf_48_0 N).2 69 j = 0 ∧ (cf_48_0 N).2 70 j = 0 ∧ (cf_48_0 N).2 71 j = 0 ∧ (cf_48_0 N).1 72 j = 0 ∧ (cf_48_0 N).1 73 j = 0) ∧ (cf_48_0 N).1 65 = upd (N.1 65) 8 0 := by
  obtain ⟨a1, a2⟩ := fill_ok (a := 66) (n := 24) (v := 0) (N := N) (by omega)
  rw [cp_48_0, cf_48_0, a2]
  generalize hK1 : mz_sI N 66 (fun j => if j < 24 then 0 else N.1 66 j) = K1
  obtain ⟨b1', b2⟩ := fill_ok (a := 67) (n := 96) (v := 0) (N := K1) (by omega)
  rw [b2]
  generalize hK2 : mz_sI K1 67 (fun j => if j < 96 then 0 else K1.1 67 j) = K2
  obtain ⟨c1, c2⟩ := fillL_ok (a := 68) (n := 240) (v := 18000) (N := K2) (by omega)
  rw [c2]
  generalize hK3 : mz_sL K2 68 (fun j => if j < 240 then 18000 else K2.2 68 j) = K3
  obtain ⟨d1, d2⟩ := fillL_ok (a := 69) (n := 240) (v := 0) (N := K3) (by omega)
  rw [d2]
  generalize hK4 : mz_sL K3 69 (fun j => if j < 240 then 0 else K3.2 69 j) = K4
  obtain ⟨e1, e2⟩ := fillL_ok (a := 70) (n := 240) (v := 0) (N := K4) (by omega)
  rw [e2]
  generalize hK5 : mz_sL K4 70 (fun j => if j < 240 then 0 else K4.2 70 j) = K5
  obtain ⟨f1, f2⟩ := fillL_ok (a := 71) (n := 240) (v := 0) (N := K5) (by omega)
  rw [f2]
  generalize hK6 : mz_sL K5 71 (fun j => if j < 240 then 0 else K5.2 71 j) = K6
  obtain ⟨g1, g2⟩ := fill_ok (a := 72) (n := 240) (v := 0) (N := K6) (by omega)
  rw [cp_48_50, cf_48_50, g2]
  generalize hK7 : mz_sI K6 72 (fun j => if j < 240 then 0 else K6.1 72 j) = K7
  obtain ⟨h1, h2⟩ := fill_ok (a := 73) (n := 240) (v := 0) (N := K7) (by omega)
  rw [h2]
  refine ⟨⟨a1, b1', c1, d1, e1, f1, g1, h1⟩, ?_⟩
  subst hK7; subst hK6; subst hK5; subst hK4; subst hK3; subst hK2; subst hK1
  exact ⟨fq_pI (fq_sI (fq_sI (fq_sL (fq_sL (fq_sL (fq_sL (fq_sI (fq_sI (fq_refl _ _ _) rfl) rfl) rfl) rfl) rfl) rfl) rfl) rfl) rfl, fun j hj => if_pos hj, fun j hj => if_pos hj, fun j hj => ⟨if_pos hj, if_pos hj, if_pos hj, if_pos hj, if_pos hj, if_pos hj⟩, rfl⟩
theorem fs50 : cp_50_0 N ∧ fq [81, 82, 83, 87, 99] [] N (cf_50_0 N) ∧ (∀ j, j < 10 → (cf_50_0 N).1 82 j = 0) ∧ (∀ j, j < 18 → (cf_50_0 N).1 83 j = 0) ∧ (∀ j, j < 8 → (cf_50_0 N).1 87 j = 0 ∧ (cf_50_0 N).1 99 j = 0) ∧ (cf_50_0 N).1 81 = upd (N.1 81) 3 0 := by
  obtain ⟨a1, a2⟩ := fill_ok (a := 82) (n := 10) (v := 0) (N := N) (by omega)
  rw [cp_50_0, cf_50_0, a2]
  generalize hK1 : mz_sI N 82 (fun j => if j < 10 then 0 else N.1 82 j) = K1
  obtain ⟨p1, g, p2, p3⟩ := lp_fill (f := cq_50_10) (P := cd_50_10) (N := K1) 83 0 18 (fun _ => 0) (fun M => mz_sI (mz_sI (mz_pI M 81 3 0) 87 (fun j => if j < 8 then 0 else M.1 87 j)) 99 (fun j => if j < 8 then 0 else M.1 99 j)) (by omega) (fun t ht g => by
    have hlt : nI t < 18 := (nI_ltI (b := 18) (by omega) (by omega)).mpr ht
    rw [cd_50_10, cq_50_10]
    simp only [hlt, if_true, nI_1, Nat.zero_add]
    exact ⟨⟨fun _ => ib_n ht (by omega), fun w => absurd trivial w⟩, rfl⟩) (fun g => by
    have hlt : ¬ nI 18 < 18 := by decide
    obtain ⟨b1', b2⟩ := fill_ok (a := 87) (n := 8) (v := 0) (N := mz_pI (mz_sI K1 83 g) 81 3 0) (by omega)
    obtain ⟨c1, c2⟩ := fill_ok (a := 99) (n := 8) (v := 0) (N := mz_sI (mz_pI (mz_sI K1 83 g) 81 3 0) 87 (fun j => if j < 8 then 0 else (mz_pI (mz_sI K1 83 g) 81 3 0).1 87 j)) (by omega)
    rw [cd_50_10, cq_50_10]
    simp only [hlt, if_false]
    rw [b2, c2]
    exact ⟨⟨False.elim, fun _ => ⟨b1', c1⟩⟩, rfl⟩)
  refine ⟨⟨a1, p1⟩, ?_⟩
  rw [show cf_50_10 0 K1 = _ from p2]
  subst hK1
  refine ⟨fq_sI (fq_sI (fq_pI (fq_sI (fq_sI (fq_refl _ _ _) rfl) rfl) rfl) rfl) rfl, fun j hj => if_pos hj, fun j hj => ?_, fun j hj => ⟨if_pos hj, if_pos hj⟩, rfl⟩
  show g j = 0
  rw [p3, if_pos (by omega)]
theorem fs51 : cp_51_0 N ∧ fq [100, 101, 104, 109] [] N (cf_51_0 N) ∧ (∀ j, j < 20 → (cf_51_0 N).1 101 j = 0) ∧ (∀ j, j < 40 → (cf_51_0 N).1 104 j = 0 ∧ (cf_51_0 N).1 109 j = -1) ∧ (cf_51_0 N).1 100 = upd (N.1 100) 10 0 := by
  obtain ⟨a1, a2⟩ := fill_ok (a := 101) (n := 20) (v := 0) (N := N) (by omega)
  rw [cp_51_0, cf_51_0, a2]
  generalize hK1 : mz_sI N 101 (fun j => if j < 20 then 0 else N.1 101 j) = K1
  obtain ⟨b1', b2⟩ := fill_ok (a := 104) (n := 40) (v := 0) (N := K1) (by omega)
  rw [b2]
  generalize hK2 : mz_sI K1 104 (fun j => if j < 40 then 0 else K1.1 104 j) = K2
  obtain ⟨c1, c2⟩ := fill_ok (a := 109) (n := 40) (v := -1) (N := K2) (by omega)
  rw [c2]
  refine ⟨⟨a1, b1', c1⟩, ?_⟩
  subst hK2; subst hK1
  exact ⟨fq_pI (fq_sI (fq_sI (fq_sI (fq_refl _ _ _) rfl) rfl) rfl) rfl, fun j hj => if_pos hj, fun j hj => ⟨if_pos hj, if_pos hj⟩, rfl⟩
theorem fs52 : cp_52_0 N ∧ fq [115, 123, 125, 126, 127, 128, 133] [] N (cf_52_0 N) ∧ (∀ j, j < 16 → (cf_52_0 N).1 123 j = 0) ∧ (∀ j, j < 3 → (cf_52_0 N).1 125 j = 5000 ∧ (cf_52_0 N).1 126 j = 0 ∧ (cf_52_0 N).1 127 j = 0 ∧ (cf_52_0 N).1 128 j = 0) ∧ (∀ j, j < 2 → (cf_52_0 N).1 133 j = 0) ∧ (cf_52_0 N).1 115 = upd (upd (N.1 115) 2 0) 5 0 := by
  obtain ⟨a1, a2⟩ := fill_ok (a := 123) (n := 16) (v := 0) (N := N) (by omega)
  rw [cp_52_0, cf_52_0, a2]
  generalize hK1 : mz_pI (mz_sI N 123 (fun j => if j < 16 then 0 else N.1 123 j)) 115 2 0 = K1
  obtain ⟨b1', b2⟩ := fill_ok (a := 125) (n := 3) (v := 5000) (N := K1) (by omega)
  rw [b2]
  generalize hK2 : mz_sI K1 125 (fun j => if j < 3 then 5000 else K1.1 125 j) = K2
  obtain ⟨c1, c2⟩ := fill_ok (a := 126) (n := 3) (v := 0) (N := K2) (by omega)
  rw [c2]
  generalize hK3 : mz_sI K2 126 (fun j => if j < 3 then 0 else K2.1 126 j) = K3
  obtain ⟨d1, d2⟩ := fill_ok (a := 127) (n := 3) (v := 0) (N := K3) (by omega)
  rw [d2]
  generalize hK4 : mz_sI K3 127 (fun j => if j < 3 then 0 else K3.1 127 j) = K4
  obtain ⟨e1, e2⟩ := fill_ok (a := 128) (n := 3) (v := 0) (N := K4) (by omega)
  rw [cp_52_45, cf_52_45, e2]
  generalize hK5 : mz_pI (mz_sI K4 128 (fun j => if j < 3 then 0 else K4.1 128 j)) 115 5 0 = K5
  obtain ⟨f1, f2⟩ := fill_ok (a := 133) (n := 2) (v := 0) (N := K5) (by omega)
  rw [f2]
  refine ⟨⟨a1, b1', c1, d1, e1, f1⟩, ?_⟩
  subst hK5; subst hK4; subst hK3; subst hK2; subst hK1
  exact ⟨fq_sI (fq_pI (fq_sI (fq_sI (fq_sI (fq_sI (fq_pI (fq_sI (fq_refl _ _ _) rfl) rfl) rfl) rfl) rfl) rfl) rfl) rfl, fun j hj => if_pos hj, fun j hj => ⟨if_pos hj, if_pos hj, if_pos hj, if_pos hj⟩, fun j hj => if_pos hj, rfl⟩
theorem fs54 : cp_54_0 N ∧ fq [208, 210, 211, 212] [] N (cf_54_0 N) ∧ (∀ u, u < 3 → ∀ j, j < 11 → (cf_54_0 N).1 (210 + u) j = 0) ∧ (cf_54_0 N).1 208 = upd (upd (N.1 208) 3 0) 4 0 := by
  refine mz_lpn (f := cq_54_2) (P := cd_54_2) (Q := fun t => fq [208, 210, 211, 212] [] N t ∧ (∀ u, u < 3 → ∀ j, j < 11 → t.1 (210 + u) j = 0) ∧ t.1 208 = upd (upd (N.1 208) 3 0) 4 0) 3 (fun t s => ∃ M, s = (nI t, M) ∧ fq [210, 211, 212] [] N M ∧ ∀ u, u < t → ∀ j, j < 11 → M.1 (210 + u) j = 0) ?_ ?_ (Nat.zero_le _) ⟨N, rfl, fq_refl _ _ _, fun u hu => by omega⟩
  · rintro t s ht ⟨M, rfl, h1, h2⟩
    have hlt : nI t < 3 := (nI_ltI (b := 3) (by omega) (by omega)).mpr ht
    have ec : (nI t).toNatClampNeg = t := nI_clamp (by omega)
    have hmem : [210, 211, 212].contains (210 + t) = true := by
      have : t = 0 ∨ t = 1 ∨ t = 2 := by omega
      rcases this with w | w | w <;> rw [w] <;> rfl
    obtain ⟨q1, q2⟩ := fill_ok (a := 210 + t) (n := 11) (v := 0) (N := M) (by omega)
    rw [cd_54_2, cq_54_2]
    simp only [hlt, if_true, ec, q2, nI_1]
    refine ⟨⟨fun _ => ⟨ib_n ht (by omega), q1⟩, fun q => absurd trivial q⟩, Or.inl ⟨_, rfl, _, rfl, fq_sI h1 hmem, fun u hu j hj => ?_⟩⟩
    by_cases w : u = t
    · rw [w, sI_e, if_pos hj]
    · rw [sI_n (by omega)]; exact h2 u (by omega) j hj
  · rintro s ⟨M, rfl, h1, h2⟩
    have hlt : ¬ nI 3 < 3 := by decide
    rw [cd_54_2, cq_54_2]
    simp only [hlt, if_false]
    refine ⟨⟨False.elim, fun _ => trivial⟩, _, rfl, fq_pI (fq_pI (fq_sub h1 rfl rfl) rfl) rfl, fun u hu j hj => ?_, ?_⟩
    · rw [pI_s, sI_n (by omega), pI_s, sI_n (by omega)]; exact h2 u hu j hj
    · rw [pI_s, sI_e, pI_s, sI_e, h1.1 208 rfl]
theorem fs53 : cp_53_0 N ∧ fq [208, 210, 211, 212, 215] [208, 213, 214] N (cf_53_0 N) ∧ (∀ u, u < 3 → ∀ j, j < 11 → (cf_53_0 N).1 (210 + u) j = 0) ∧ (∀ j, j < 10 → (cf_53_0 N).2 213 j = 0 ∧ (cf_53_0 N).2 214 j = 0) ∧ (∀ j, j < 4 → (cf_53_0 N).1 215 j = if j = 0 then 5000 else 0) ∧ ((cf_53_0 N).1 208 0 = 0 ∧ (cf_53_0 N).2 208 1 = 0 ∧ (cf_53_0 N).2 208 2 = 0 ∧ (cf_53_0 N).1 208 3 = 0 ∧ (cf_53_0 N).1 208 4 = 0) := by
  rw [cp_53_0, cf_53_0]
  generalize hK1 : mz_pL (mz_pL (mz_pI N 208 0 0) 208 1 0) 208 2 0 = K1
  obtain ⟨a1, a2⟩ := fillL_ok (a := 213) (n := 10) (v := 0) (N := K1) (by omega)
  rw [a2]
  generalize hK2 : mz_sL K1 213 (fun j => if j < 10 then 0 else K1.2 213 j) = K2
  obtain ⟨b1', b2⟩ := fillL_ok (a := 214) (n := 10) (v := 0) (N := K2) (by omega)
  rw [b2]
  generalize hK3 : mz_sL K2 214 (fun j => if j < 10 then 0 else K2.2 214 j) = K3
  obtain ⟨c1, c2⟩ := fill_ok (a := 215) (n := 4) (v := 0) (N := K3) (by omega)
  rw [c2, cp_53_48, cf_53_48]
  have hF : fq [208, 215] [208, 213, 214] N (mz_wI (mz_sI K3 215 (fun j => if j < 4 then 0 else K3.1 215 j)) 215 0 5000) := by
    subst hK3; subst hK2; subst hK1
    exact fq_wI (fq_sI (fq_sL (fq_sL (fq_pL (fq_pL (fq_pI (fq_refl _ _ _) rfl) rfl) rfl) rfl) rfl) rfl) rfl
  have h15 : ∀ j, j < 4 → (mz_wI (mz_sI K3 215 (fun j => if j < 4 then 0 else K3.1 215 j)) 215 0 5000).1 215 j = if j = 0 then 5000 else 0 := by
    intro j hj
    rw [show (0 : Int32) = nI 0 from rfl, wI_at (by omega), sI_e, if_pos hj]
  have h13 : ∀ j, j < 10 → (mz_wI (mz_sI K3 215 (fun j => if j < 4 then 0 else K3.1 215 j)) 215 0 5000).2 213 j = 0 ∧ (mz_wI (mz_sI K3 215 (fun j => if j < 4 then 0 else K3.1 215 j)) 215 0 5000).2 214 j = 0 := by
    subst hK3; subst hK2
    exact fun j hj => ⟨if_pos hj, if_pos hj⟩
  have h08 : (mz_wI (mz_sI K3 215 (fun j => if j < 4 then 0 else K3.1 215 j)) 215 0 5000).1 208 0 = 0 ∧ (mz_wI (mz_sI K3 215 (fun j => if j < 4 then 0 else K3.1 215 j)) 215 0 5000).2 208 1 = 0 ∧ (mz_wI (mz_sI K3 215 (fun j => if j < 4 then 0 else K3.1 215 j)) 215 0 5000).2 208 2 = 0 := by
    subst hK3; subst hK2; subst hK1
    exact ⟨rfl, rfl, rfl⟩
  generalize mz_wI (mz_sI K3 215 (fun j => if j < 4 then 0 else K3.1 215 j)) 215 0 5000 = K4 at *
  obtain ⟨d1, d2, d3, d4⟩ := fs54 (N := K4)
  refine ⟨⟨a1, b1', c1, d1⟩, fq_trans (fq_sub hF rfl rfl) (fq_sub d2 rfl rfl), d3, fun j hj => ?_, fun j hj => ?_, ?_, ?_, ?_, ?_, ?_⟩
  · rw [d2.2 213 rfl, d2.2 214 rfl]; exact h13 j hj
  · rw [d2.1 215 rfl]; exact h15 j hj
  · rw [d4, up_a, if_neg (by decide), up_a, if_neg (by decide)]; exact h08.1
  · rw [d2.2 208 rfl]; exact h08.2.1
  · rw [d2.2 208 rfl]; exact h08.2.2
  · rw [d4]; rfl
  · rw [d4]; rfl
end Fs2
