/-! PURE (50o): the reference's things at first. -/
/-- a loop whose steps each settle one place -/
theorem lp_gen {β : Type} [Nonempty β] {f : Int32 × mz_N → (Int32 × mz_N) ⊕ β} {P : Int32 × mz_N → Prop} {N : mz_N} (n : Nat) (A B : List Nat) (Φ : Nat → mz_N → Prop) (Q : β → Prop)
    (hs : ∀ t M, t < n → P (nI t, M) ∧ ∃ K, f (nI t, M) = .inl (nI (t + 1), K) ∧ fq A B M K ∧ Φ t K ∧ ∀ u, u < t → Φ u M → Φ u K)
    (he : ∀ M, fq A B N M → (∀ u, u < n → Φ u M) → P (nI n, M) ∧ ∃ r, f (nI n, M) = .inr r ∧ Q r) :
    (∃ m, mz_ok f P m (0, N)) ∧ Q (mz_run f (0, N)) := by
  refine mz_lpn (f := f) (P := P) (Q := Q) n (fun t s => ∃ M, s = (nI t, M) ∧ fq A B N M ∧ ∀ u, u < t → Φ u M) ?_ ?_ (Nat.zero_le _) ⟨N, rfl, fq_refl _ _ _, fun u hu => by omega⟩
  · rintro t s ht ⟨M, rfl, h1, h2⟩
    obtain ⟨p, K, k1, k2, k3, k4⟩ := hs t M ht
    refine ⟨p, Or.inl ⟨_, k1, K, rfl, fq_trans h1 k2, fun u hu => ?_⟩⟩
    by_cases w : u = t
    · rw [w]; exact k3
    · exact k4 u (by omega) (h2 u (by omega))
  · rintro s ⟨M, rfl, h1, h2⟩
    obtain ⟨p, r, r1, r2⟩ := he M h1 h2
    exact ⟨p, r, r1, r2⟩
section Rfs
variable {N : mz_N}
def rs1 (M : mz_N) : Prop := ∀ u, u < 2 → M.2 298 u = -1 ∧ M.1 296 u = 0 ∧ M.1 297 u = 0
theorem rf1 : cp_418_245 0 N ∧ fq [296, 297] [298] N (cf_418_245 0 N) ∧ rs1 (cf_418_245 0 N) :=
  lp_gen (f := cq_418_245) (P := cd_418_245) (N := N) 2 [296, 297] [298] (fun u M => M.2 298 u = -1 ∧ M.1 296 u = 0 ∧ M.1 297 u = 0) (fun r => fq [296, 297] [298] N r ∧ rs1 r) (fun t M ht => by
    have hlt : nI t < 2 := (nI_ltI (b := 2) (by omega) (by omega)).mpr ht
    have i1 : mz_ib (nI t) 2 := ib_n ht (by omega)
    rw [cd_418_245, cq_418_245]
    simp only [hlt, if_true, nI_1]
    refine ⟨⟨fun _ => ⟨i1, i1, i1⟩, fun w => absurd trivial w⟩, _, rfl, fq_wI (fq_wI (fq_wL (fq_refl _ _ _) rfl) rfl) rfl, ?_, fun u hu h => ?_⟩
    · show (mz_wL M 298 (nI t) (-1)).2 298 t = -1 ∧ (mz_wI M 296 (nI t) 0).1 296 t = 0 ∧ (mz_wI M 297 (nI t) 0).1 297 t = 0
      rw [wL_at (by omega), wI_at (by omega), wI_at (by omega), if_pos rfl, if_pos rfl, if_pos rfl]; exact ⟨rfl, rfl, rfl⟩
    · show (mz_wL M 298 (nI t) (-1)).2 298 u = -1 ∧ (mz_wI M 296 (nI t) 0).1 296 u = 0 ∧ (mz_wI M 297 (nI t) 0).1 297 u = 0
      rw [wL_at (by omega), wI_at (by omega), wI_at (by omega), if_neg (by omega), if_neg (by omega), if_neg (by omega)]; exact h) (fun M h1 h2 => by
    have hlt : ¬ nI 2 < 2 := by decide
    rw [cd_418_245, cq_418_245]
    simp only [hlt, if_false]
    exact ⟨⟨False.elim, fun _ => trivial⟩, _, rfl, h1, h2⟩)
def rs2 (M : mz_N) : Prop := (∀ u, u < 40 → M.1 311 u = 0 ∧ M.1 316 u = -1) ∧ rs1 M
theorem rf2 : cp_418_217 0 N ∧ fq [296, 297, 311, 316] [298] N (cf_418_217 0 N) ∧ rs2 (cf_418_217 0 N) :=
  lp_gen (f := cq_418_217) (P := cd_418_217) (N := N) 40 [311, 316] [] (fun u M => M.1 311 u = 0 ∧ M.1 316 u = -1) (fun r => fq [296, 297, 311, 316] [298] N r ∧ rs2 r) (fun t M ht => by
    have hlt : nI t < 40 := (nI_ltI (b := 40) (by omega) (by omega)).mpr ht
    have i1 : mz_ib (nI t) 40 := ib_n ht (by omega)
    rw [cd_418_217, cq_418_217]
    simp only [hlt, if_true, nI_1]
    refine ⟨⟨fun _ => ⟨i1, i1⟩, fun w => absurd trivial w⟩, _, rfl, fq_wI (fq_wI (fq_refl _ _ _) rfl) rfl, ?_, fun u hu h => ?_⟩
    · show (mz_wI M 311 (nI t) 0).1 311 t = 0 ∧ (mz_wI M 316 (nI t) (-1)).1 316 t = -1
      rw [wI_at (by omega), wI_at (by omega), if_pos rfl, if_pos rfl]; exact ⟨rfl, rfl⟩
    · show (mz_wI M 311 (nI t) 0).1 311 u = 0 ∧ (mz_wI M 316 (nI t) (-1)).1 316 u = -1
      rw [wI_at (by omega), wI_at (by omega), if_neg (by omega), if_neg (by omega)]; exact h) (fun M h1 h2 => by
    have hlt : ¬ nI 40 < 40 := by decide
    obtain ⟨p1, p2, p3⟩ := rf1 (N := M)
    rw [cd_418_217, cq_418_217]
    simp only [hlt, if_false]
    refine ⟨⟨False.elim, fun _ => p1⟩, _, rfl, fq_trans (fq_sub h1 rfl rfl) (fq_sub p2 rfl rfl), fun u hu => ?_, p3⟩
    rw [p2.1 311 rfl, p2.1 316 rfl]; exact h2 u hu)
def rs3 (M : mz_N) : Prop := (∀ u, u < 20 → M.1 308 u = 0) ∧ rs2 M
theorem rf3 : cp_418_196 0 N ∧ fq [296, 297, 311, 316, 308] [298] N (cf_418_196 0 N) ∧ rs3 (cf_418_196 0 N) :=
  lp_gen (f := cq_418_196) (P := cd_418_196) (N := N) 20 [308] [] (fun u M => M.1 308 u = 0) (fun r => fq [296, 297, 311, 316, 308] [298] N r ∧ rs3 r) (fun t M ht => by
    have hlt : nI t < 20 := (nI_ltI (b := 20) (by omega) (by omega)).mpr ht
    have i1 : mz_ib (nI t) 20 := ib_n ht (by omega)
    rw [cd_418_196, cq_418_196]
    simp only [hlt, if_true, nI_1]
    refine ⟨⟨fun _ => i1, fun w => absurd trivial w⟩, _, rfl, fq_wI (fq_refl _ _ _) rfl, ?_, fun u hu h => ?_⟩
    · rw [wI_at (by omega), if_pos rfl]; rfl
    · rw [wI_at (by omega), if_neg (by omega)]; exact h) (fun M h1 h2 => by
    have hlt : ¬ nI 20 < 20 := by decide
    obtain ⟨p1, p2, p3⟩ := rf2 (N := M)
    rw [cd_418_196, cq_418_196]
    simp only [hlt, if_false]
    refine ⟨⟨False.elim, fun _ => p1⟩, _, rfl, fq_trans (fq_sub h1 rfl rfl) (fq_sub p2 rfl rfl), fun u hu => ?_, p3⟩
    rw [p2.1 308 rfl]; exact h2 u hu)
def rs4 (M : mz_N) : Prop := (∀ u, u < 16 → M.1 287 u = 0) ∧ rs3 M
theorem rf4 : cp_418_175 0 N ∧ fq [296, 297, 311, 316, 308, 287] [298] N (cf_418_175 0 N) ∧ rs4 (cf_418_175 0 N) :=
  lp_gen (f := cq_418_175) (P := cd_418_175) (N := N) 16 [287] [] (fun u M => M.1 287 u = 0) (fun r => fq [296, 297, 311, 316, 308, 287] [298] N r ∧ rs4 r) (fun t M ht => by
    have hlt : nI t < 16 := (nI_ltI (b := 16) (by omega) (by omega)).mpr ht
    have i1 : mz_ib (nI t) 16 := ib_n ht (by omega)
    rw [cd_418_175, cq_418_175]
    simp only [hlt, if_true, nI_1]
    refine ⟨⟨fun _ => i1, fun w => absurd trivial w⟩, _, rfl, fq_wI (fq_refl _ _ _) rfl, ?_, fun u hu h => ?_⟩
    · rw [wI_at (by omega), if_pos rfl]; rfl
    · rw [wI_at (by omega), if_neg (by omega)]; exact h) (fun M h1 h2 => by
    have hlt : ¬ nI 16 < 16 := by decide
    obtain ⟨p1, p2, p3⟩ := rf3 (N := M)
    rw [cd_418_175, cq_418_175]
    simp only [hlt, if_false]
    refine ⟨⟨False.elim, fun _ => p1⟩, _, rfl, fq_trans (fq_sub h1 rfl rfl) (fq_sub p2 rfl rfl), fun u hu => ?_, p3⟩
    rw [p2.1 287 rfl]; exact h2 u hu)
def rs5 (M : mz_N) : Prop := (∀ u, u < 8 → M.1 282 u = 0 ∧ M.1 285 u = 0) ∧ rs4 M
theorem rf5 : cp_418_147 0 N ∧ fq [296, 297, 311, 316, 308, 287, 282, 285] [298] N (cf_418_147 0 N) ∧ rs5 (cf_418_147 0 N) :=
  lp_gen (f := cq_418_147) (P := cd_418_147) (N := N) 8 [282, 285] [] (fun u M => M.1 282 u = 0 ∧ M.1 285 u = 0) (fun r => fq [296, 297, 311, 316, 308, 287, 282, 285] [298] N r ∧ rs5 r) (fun t M ht => by
    have hlt : nI t < 8 := (nI_ltI (b := 8) (by omega) (by omega)).mpr ht
    have i1 : mz_ib (nI t) 8 := ib_n ht (by omega)
    rw [cd_418_147, cq_418_147]
    simp only [hlt, if_true, nI_1]
    refine ⟨⟨fun _ => ⟨i1, i1⟩, fun w => absurd trivial w⟩, _, rfl, fq_wI (fq_wI (fq_refl _ _ _) rfl) rfl, ?_, fun u hu h => ?_⟩
    · show (mz_wI M 282 (nI t) 0).1 282 t = 0 ∧ (mz_wI M 285 (nI t) 0).1 285 t = 0
      rw [wI_at (by omega), wI_at (by omega), if_pos rfl, if_pos rfl]; exact ⟨rfl, rfl⟩
    · show (mz_wI M 282 (nI t) 0).1 282 u = 0 ∧ (mz_wI M 285 (nI t) 0).1 285 u = 0
      rw [wI_at (by omega), wI_at (by omega), if_neg (by omega), if_neg (by omega)]; exact h) (fun M h1 h2 => by
    have hlt : ¬ nI 8 < 8 := by decide
    obtain ⟨p1, p2, p3⟩ := rf4 (N := M)
    rw [cd_418_147, cq_418_147]
    simp only [hlt, if_false]
    refine ⟨⟨False.elim, fun _ => p1⟩, _, rfl, fq_trans (fq_sub h1 rfl rfl) (fq_sub p2 rfl rfl), fun u hu => ?_, p3⟩
    rw [p2.1 282 rfl, p2.1 285 rfl]; exact h2 u hu)
def rs6 (M : mz_N) : Prop := (∀ u, u < 18 → M.1 279 u = 0) ∧ rs5 M
theorem rf6 : cp_418_126 0 N ∧ fq [296, 297, 311, 316, 308, 287, 282, 285, 279] [298] N (cf_418_126 0 N) ∧ rs6 (cf_418_126 0 N) :=
  lp_gen (f := cq_418_126) (P := cd_418_126) (N := N) 18 [279] [] (fun u M => M.1 279 u = 0) (fun r => fq [296, 297, 311, 316, 308, 287, 282, 285, 279] [298] N r ∧ rs6 r) (fun t M ht => by
    have hlt : nI t < 18 := (nI_ltI (b := 18) (by omega) (by omega)).mpr ht
    have i1 : mz_ib (nI t) 18 := ib_n ht (by omega)
    rw [cd_418_126, cq_418_126]
    simp only [hlt, if_true, nI_1]
    refine ⟨⟨fun _ => i1, fun w => absurd trivial w⟩, _, rfl, fq_wI (fq_refl _ _ _) rfl, ?_, fun u hu h => ?_⟩
    · rw [wI_at (by omega), if_pos rfl]; rfl
    · rw [wI_at (by omega), if_neg (by omega)]; exact h) (fun M h1 h2 => by
    have hlt : ¬ nI 18 < 18 := by decide
    obtain ⟨p1, p2, p3⟩ := rf5 (N := M)
    rw [cd_418_126, cq_418_126]
    simp only [hlt, if_false]
    refine ⟨⟨False.elim, fun _ => p1⟩, _, rfl, fq_trans (fq_sub h1 rfl rfl) (fq_sub p2 rfl rfl), fun u hu => ?_, p3⟩
    rw [p2.1 279 rfl]; exact h2 u hu)
/-- the reference's numbers at first -/
def rs7 (M : mz_N) : Prop := (M.2 232 2 = 0 ∧ M.2 232 122 = 0 ∧ M.2 232 123 = 0 ∧ M.2 232 124 = 0 ∧ M.2 232 125 = 0 ∧ M.2 232 66 = 0 ∧ M.2 232 68 = 0) ∧ (M.1 232 21 = 5000 ∧ M.1 232 52 = 1 ∧ M.1 232 53 = 100 ∧ M.1 232 54 = 1500 ∧ M.1 232 55 = 0 ∧ M.1 232 61 = 2000 ∧ M.1 232 62 = 20000 ∧ M.1 232 63 = 0 ∧ M.1 232 64 = 0 ∧ M.1 232 65 = 0 ∧ M.1 232 67 = 0 ∧ M.1 232 72 = 0 ∧ M.1 232 112 = 0 ∧ M.1 232 96 = 0 ∧ M.1 232 141 = 0 ∧ M.1 232 143 = 0) ∧ rs6 M
theorem rf7 : cp_418_0 N ∧ fq [232, 296, 297, 311, 316, 308, 287, 282, 285, 279] [232, 298] N (cf_418_0 N) ∧ rs7 (cf_418_0 N) ∧ (∀ f, [21, 52, 53, 54, 55, 61, 62, 63, 64, 65, 67, 72, 112, 96, 141, 143].contains f = false → (cf_418_0 N).1 232 f = N.1 232 f) ∧ ∀ f, [2, 122, 123, 124, 125, 66, 68].contains f = false → (cf_418_0 N).2 232 f = N.2 232 f := by
  rw [cp_418_0, cf_418_0, cp_418_43, cf_418_43, cp_418_69, cf_418_69, cp_418_89, cf_418_89, cp_418_109, cf_418_109]
  generalize hK : mz_pI (mz_pI (mz_pI (mz_pI (mz_pI (mz_pL (mz_pI (mz_pL (mz_pI (mz_pI (mz_pI (mz_pI (mz_pI (mz_pI (mz_pI (mz_pI (mz_pI (mz_pI (mz_pL (mz_pL (mz_pL (mz_pL (mz_pL N 232 2 0) 232 122 0) 232 123 0) 232 124 0) 232 125 0) 232 21 5000) 232 52 (mz_b01 true)) 232 53 100) 232 54 1500) 232 55 0) 232 61 2000) 232 62 20000) 232 63 (mz_b01 false)) 232 64 (mz_b01 false)) 232 65 (mz_b01 false)) 232 66 0) 232 67 (mz_b01 false)) 232 68 0) 232 72 0) 232 112 0) 232 96 0) 232 141 0) 232 143 0 = K
  obtain ⟨p1, p2, p3⟩ := rf6 (N := K)
  have e1 := p2.1 232 rfl
  have e2 := p2.2 232 rfl
  have hF : fq [232] [232] N K := by
    subst hK
    exact fq_pI (fq_pI (fq_pI (fq_pI (fq_pI (fq_pL (fq_pI (fq_pL (fq_pI (fq_pI (fq_pI (fq_pI (fq_pI (fq_pI (fq_pI (fq_pI (fq_pI (fq_pI (fq_pL (fq_pL (fq_pL (fq_pL (fq_pL (fq_refl _ _ _) rfl) rfl) rfl) rfl) rfl) rfl) rfl) rfl) rfl) rfl) rfl) rfl) rfl) rfl) rfl) rfl) rfl) rfl) rfl) rfl) rfl) rfl) rfl
  refine ⟨p1, fq_trans (fq_sub hF rfl rfl) (fq_sub p2 rfl rfl), ⟨?_, ?_, p3⟩, fun f hf => ?_, fun f hf => ?_⟩
  · rw [e2]; subst hK; exact ⟨rfl, rfl, rfl, rfl, rfl, rfl, rfl⟩
  · rw [e1]; subst hK; exact ⟨rfl, rfl, rfl, rfl, rfl, rfl, rfl, rfl, rfl, rfl, rfl, rfl, rfl, rfl, rfl, rfl⟩
  · rw [e1]
    have hne : f ≠ 21 ∧ f ≠ 52 ∧ f ≠ 53 ∧ f ≠ 54 ∧ f ≠ 55 ∧ f ≠ 61 ∧ f ≠ 62 ∧ f ≠ 63 ∧ f ≠ 64 ∧ f ≠ 65 ∧ f ≠ 67 ∧ f ≠ 72 ∧ f ≠ 112 ∧ f ≠ 96 ∧ f ≠ 141 ∧ f ≠ 143 := by simpa using hf
    obtain ⟨n1, n2, n3, n4, n5, n6, n7, n8, n9, n10, n11, n12, n13, n14, n15, n16⟩ := hne
    subst hK
    simp only [pI_s, pL_s, sI_e, sL_1, up_a, n1, n2, n3, n4, n5, n6, n7, n8, n9, n10, n11, n12, n13, n14, n15, n16, if_false]
  · rw [e2]
    have hne : f ≠ 2 ∧ f ≠ 122 ∧ f ≠ 123 ∧ f ≠ 124 ∧ f ≠ 125 ∧ f ≠ 66 ∧ f ≠ 68 := by simpa using hf
    obtain ⟨n1, n2, n3, n4, n5, n6, n7⟩ := hne
    subst hK
    simp only [pI_s, pL_s, sL_e, sI_2, upL_a, n1, n2, n3, n4, n5, n6, n7, if_false]
end Rfs
