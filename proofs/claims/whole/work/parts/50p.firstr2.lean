/-! PURE (50p): the reference's things at first: the rest. -/
section Rft
variable {N : mz_N}
def rt1 (M : mz_N) : Prop := (∀ u, u < 196 → M.1 252 u = 0) ∧ (M.1 232 27 = 0 ∧ M.1 232 25 = 0 ∧ M.1 232 36 = 0) ∧ rs7 M
/-- fields of the reference that first things set -/
def rfF : List Nat := [27, 25, 36, 21, 52, 53, 54, 55, 61, 62, 63, 64, 65, 67, 72, 112, 96, 141, 143]
def rfG : List Nat := [2, 122, 123, 124, 125, 66, 68]
def rfo (N M : mz_N) : Prop := (∀ f, rfF.contains f = false → M.1 232 f = N.1 232 f) ∧ ∀ f, rfG.contains f = false → M.2 232 f = N.2 232 f
theorem rg1 : cp_415_280 0 N ∧ fq [252, 232, 296, 297, 311, 316, 308, 287, 282, 285, 279] [232, 298] N (cf_415_280 0 N) ∧ rt1 (cf_415_280 0 N) ∧ rfo N (cf_415_280 0 N) :=
  lp_gen (f := cq_415_280) (P := cd_415_280) (N := N) 196 [252] [] (fun u M => M.1 252 u = 0) (fun r => fq [252, 232, 296, 297, 311, 316, 308, 287, 282, 285, 279] [232, 298] N r ∧ rt1 r ∧ rfo N r) (fun t M ht => by
    have hlt : nI t < 196 := (nI_ltI (b := 196) (by omega) (by omega)).mpr ht
    have i1 : mz_ib (nI t) 196 := ib_n ht (by omega)
    rw [cd_415_280, cq_415_280]
    simp only [hlt, if_true, nI_1]
    refine ⟨⟨fun _ => i1, fun w => absurd trivial w⟩, _, rfl, fq_wI (fq_refl _ _ _) rfl, ?_, fun u hu h => ?_⟩
    · rw [wI_at (by omega), if_pos rfl]
    · rw [wI_at (by omega), if_neg (by omega)]; exact h) (fun M h1 h2 => by
    have hlt : ¬ nI 196 < 196 := by decide
    obtain ⟨p1, p2, p3, p4, p5⟩ := rf7 (N := mz_pI (mz_pI (mz_pI M 232 27 0) 232 25 0) 232 36 (mz_b01 false))
    rw [cd_415_280, cq_415_280]
    simp only [hlt, if_false]
    refine ⟨⟨False.elim, fun _ => p1⟩, _, rfl, fq_trans (fq_sub h1 rfl rfl) (fq_trans (fq_pI (fq_pI (fq_pI (fq_refl _ _ _) rfl) rfl) rfl) (fq_sub p2 rfl rfl)), ⟨fun u hu => ?_, ⟨?_, ?_, ?_⟩, p3⟩, fun f hf => ?_, fun f hf => ?_⟩
    · rw [p2.1 252 rfl]; exact h2 u hu
    · rw [p4 27 rfl]; rfl
    · rw [p4 25 rfl]; rfl
    · rw [p4 36 rfl]; rfl
    · have hne : f ≠ 27 ∧ f ≠ 25 ∧ f ≠ 36 ∧ [21, 52, 53, 54, 55, 61, 62, 63, 64, 65, 67, 72, 112, 96, 141, 143].contains f = false := by
        unfold rfF at hf
        simp only [List.contains_cons, Bool.or_eq_false_iff, beq_eq_false_iff_ne] at hf ⊢
        exact ⟨hf.1, hf.2.1, hf.2.2.1, hf.2.2.2⟩
      rw [p4 f hne.2.2.2, ← h1.1 232 rfl, pI_s, sI_e, up_a, if_neg hne.2.2.1, pI_s, sI_e, up_a, if_neg hne.2.1, pI_s, sI_e, up_a, if_neg hne.1]
    · rw [p5 f hf, ← h1.2 232 rfl]; rfl)
def rt2 (M : mz_N) : Prop := (∀ u, u < 3 → M.1 249 u = 0 ∧ M.1 250 u = 5000 ∧ M.2 305 u = 0 ∧ M.1 306 u = 0 ∧ M.1 307 u = 0) ∧ rt1 M
theorem rg2 : cp_415_230 0 N ∧ fq [249, 250, 306, 307, 252, 232, 296, 297, 311, 316, 308, 287, 282, 285, 279] [305, 232, 298] N (cf_415_230 0 N) ∧ rt2 (cf_415_230 0 N) ∧ rfo N (cf_415_230 0 N) :=
  lp_gen (f := cq_415_230) (P := cd_415_230) (N := N) 3 [249, 250, 306, 307] [305] (fun u M => M.1 249 u = 0 ∧ M.1 250 u = 5000 ∧ M.2 305 u = 0 ∧ M.1 306 u = 0 ∧ M.1 307 u = 0) (fun r => fq [249, 250, 306, 307, 252, 232, 296, 297, 311, 316, 308, 287, 282, 285, 279] [305, 232, 298] N r ∧ rt2 r ∧ rfo N r) (fun t M ht => by
    have hlt : nI t < 3 := (nI_ltI (b := 3) (by omega) (by omega)).mpr ht
    have i1 : mz_ib (nI t) 3 := ib_n ht (by omega)
    rw [cd_415_230, cq_415_230]
    simp only [hlt, if_true, nI_1, cp_415_272, cf_415_272]
    refine ⟨⟨fun _ => ⟨i1, i1, i1, i1, i1, trivial⟩, fun w => absurd trivial w⟩, _, rfl, fq_wI (fq_wI (fq_wL (fq_wI (fq_wI (fq_refl _ _ _) rfl) rfl) rfl) rfl) rfl, ?_, fun u hu h => ?_⟩
    · show (mz_wI M 249 (nI t) 0).1 249 t = 0 ∧ (mz_wI M 250 (nI t) 5000).1 250 t = 5000 ∧ (mz_wL M 305 (nI t) 0).2 305 t = 0 ∧ (mz_wI M 306 (nI t) 0).1 306 t = 0 ∧ (mz_wI M 307 (nI t) 0).1 307 t = 0
      rw [wI_at (by omega), wI_at (by omega), wL_at (by omega), wI_at (by omega), wI_at (by omega), if_pos rfl, if_pos rfl, if_pos rfl, if_pos rfl, if_pos rfl]
      exact ⟨rfl, rfl, rfl, rfl, rfl⟩
    · show (mz_wI M 249 (nI t) 0).1 249 u = 0 ∧ (mz_wI M 250 (nI t) 5000).1 250 u = 5000 ∧ (mz_wL M 305 (nI t) 0).2 305 u = 0 ∧ (mz_wI M 306 (nI t) 0).1 306 u = 0 ∧ (mz_wI M 307 (nI t) 0).1 307 u = 0
      rw [wI_at (by omega), wI_at (by omega), wL_at (by omega), wI_at (by omega), wI_at (by omega), if_neg (by omega), if_neg (by omega), if_neg (by omega), if_neg (by omega), if_neg (by omega)]
      exact h) (fun M h1 h2 => by
    have hlt : ¬ nI 3 < 3 := by decide
    obtain ⟨p1, p2, p3, p4, p5⟩ := rg1 (N := M)
    rw [cd_415_230, cq_415_230]
    simp only [hlt, if_false]
    refine ⟨⟨False.elim, fun _ => p1⟩, _, rfl, fq_trans (fq_sub h1 rfl rfl) (fq_sub p2 rfl rfl), ⟨fun u hu => ?_, p3⟩, fun f hf => ?_, fun f hf => ?_⟩
    · rw [p2.1 249 rfl, p2.1 250 rfl, p2.2 305 rfl, p2.1 306 rfl, p2.1 307 rfl]; exact h2 u hu
    · rw [p4 f hf, h1.1 232 rfl]
    · rw [p5 f hf, h1.2 232 rfl])
def rt3 (M : mz_N) : Prop := (∀ u, u < 10 → M.2 324 u = 0 ∧ M.2 325 u = 0 ∧ M.1 278 u = 0) ∧ rt2 M
theorem rg3 : cp_415_195 0 N ∧ fq [278, 249, 250, 306, 307, 252, 232, 296, 297, 311, 316, 308, 287, 282, 285, 279] [324, 325, 305, 232, 298] N (cf_415_195 0 N) ∧ rt3 (cf_415_195 0 N) ∧ rfo N (cf_415_195 0 N) :=
  lp_gen (f := cq_415_195) (P := cd_415_195) (N := N) 10 [278] [324, 325] (fun u M => M.2 324 u = 0 ∧ M.2 325 u = 0 ∧ M.1 278 u = 0) (fun r => fq [278, 249, 250, 306, 307, 252, 232, 296, 297, 311, 316, 308, 287, 282, 285, 279] [324, 325, 305, 232, 298] N r ∧ rt3 r ∧ rfo N r) (fun t M ht => by
    have hlt : nI t < 10 := (nI_ltI (b := 10) (by omega) (by omega)).mpr ht
    have i1 : mz_ib (nI t) 10 := ib_n ht (by omega)
    rw [cd_415_195, cq_415_195]
    simp only [hlt, if_true, nI_1]
    refine ⟨⟨fun _ => ⟨i1, i1, i1⟩, fun w => absurd trivial w⟩, _, rfl, fq_wI (fq_wL (fq_wL (fq_refl _ _ _) rfl) rfl) rfl, ?_, fun u hu h => ?_⟩
    · show (mz_wL M 324 (nI t) 0).2 324 t = 0 ∧ (mz_wL M 325 (nI t) 0).2 325 t = 0 ∧ (mz_wI M 278 (nI t) 0).1 278 t = 0
      rw [wL_at (by omega), wL_at (by omega), wI_at (by omega), if_pos rfl, if_pos rfl, if_pos rfl]
      exact ⟨rfl, rfl, rfl⟩
    · show (mz_wL M 324 (nI t) 0).2 324 u = 0 ∧ (mz_wL M 325 (nI t) 0).2 325 u = 0 ∧ (mz_wI M 278 (nI t) 0).1 278 u = 0
      rw [wL_at (by omega), wL_at (by omega), wI_at (by omega), if_neg (by omega), if_neg (by omega), if_neg (by omega)]
      exact h) (fun M h1 h2 => by
    have hlt : ¬ nI 10 < 10 := by decide
    obtain ⟨p1, p2, p3, p4, p5⟩ := rg2 (N := M)
    rw [cd_415_195, cq_415_195]
    simp only [hlt, if_false]
    refine ⟨⟨False.elim, fun _ => p1⟩, _, rfl, fq_trans (fq_sub h1 rfl rfl) (fq_sub p2 rfl rfl), ⟨fun u hu => ?_, p3⟩, fun f hf => ?_, fun f hf => ?_⟩
    · rw [p2.2 324 rfl, p2.2 325 rfl, p2.1 278 rfl]; exact h2 u hu
    · rw [p4 f hf, h1.1 232 rfl]
    · rw [p5 f hf, h1.2 232 rfl])
def rt4 (M : mz_N) : Prop := (∀ u, u < 11 → M.1 247 u = 100 ∧ M.1 248 u = 0 ∧ M.1 272 u = 0 ∧ M.1 273 u = 0 ∧ M.1 274 u = 0 ∧ M.1 275 u = 0 ∧ M.2 321 u = 0 ∧ M.2 322 u = 0 ∧ M.2 323 u = 0) ∧ rt3 M
theorem rg4 : cp_415_117 0 N ∧ fq [247, 248, 272, 273, 274, 275, 278, 249, 250, 306, 307, 252, 232, 296, 297, 311, 316, 308, 287, 282, 285, 279] [321, 322, 323, 324, 325, 305, 232, 298] N (cf_415_117 0 N) ∧ rt4 (cf_415_117 0 N) ∧ rfo N (cf_415_117 0 N) :=
  lp_gen (f := cq_415_117) (P := cd_415_117) (N := N) 11 [247, 248, 272, 273, 274, 275] [321, 322, 323] (fun u M => M.1 247 u = 100 ∧ M.1 248 u = 0 ∧ M.1 272 u = 0 ∧ M.1 273 u = 0 ∧ M.1 274 u = 0 ∧ M.1 275 u = 0 ∧ M.2 321 u = 0 ∧ M.2 322 u = 0 ∧ M.2 323 u = 0) (fun r => fq [247, 248, 272, 273, 274, 275, 278, 249, 250, 306, 307, 252, 232, 296, 297, 311, 316, 308, 287, 282, 285, 279] [321, 322, 323, 324, 325, 305, 232, 298] N r ∧ rt4 r ∧ rfo N r) (fun t M ht => by
    have hlt : nI t < 11 := (nI_ltI (b := 11) (by omega) (by omega)).mpr ht
    have i1 : mz_ib (nI t) 11 := ib_n ht (by omega)
    rw [cd_415_117, cq_415_117]
    simp only [hlt, if_true, nI_1, cp_415_159, cf_415_159]
    refine ⟨⟨fun _ => ⟨i1, i1, i1, i1, i1, i1, i1, i1, i1⟩, fun w => absurd trivial w⟩, _, rfl, fq_wL (fq_wL (fq_wL (fq_wI (fq_wI (fq_wI (fq_wI (fq_wI (fq_wI (fq_refl _ _ _) rfl) rfl) rfl) rfl) rfl) rfl) rfl) rfl) rfl, ?_, fun u hu h => ?_⟩
    · show (mz_wI M 247 (nI t) 100).1 247 t = 100 ∧ (mz_wI M 248 (nI t) 0).1 248 t = 0 ∧ (mz_wI M 272 (nI t) 0).1 272 t = 0 ∧ (mz_wI M 273 (nI t) 0).1 273 t = 0 ∧ (mz_wI M 274 (nI t) 0).1 274 t = 0 ∧ (mz_wI M 275 (nI t) 0).1 275 t = 0 ∧ (mz_wL M 321 (nI t) 0).2 321 t = 0 ∧ (mz_wL M 322 (nI t) 0).2 322 t = 0 ∧ (mz_wL M 323 (nI t) 0).2 323 t = 0
      rw [wI_at (by omega), wI_at (by omega), wI_at (by omega), wI_at (by omega), wI_at (by omega), wI_at (by omega), wL_at (by omega), wL_at (by omega), wL_at (by omega), if_pos rfl, if_pos rfl, if_pos rfl, if_pos rfl, if_pos rfl, if_pos rfl, if_pos rfl, if_pos rfl, if_pos rfl]
      exact ⟨rfl, rfl, rfl, rfl, rfl, rfl, rfl, rfl, rfl⟩
    · show (mz_wI M 247 (nI t) 100).1 247 u = 100 ∧ (mz_wI M 248 (nI t) 0).1 248 u = 0 ∧ (mz_wI M 272 (nI t) 0).1 272 u = 0 ∧ (mz_wI M 273 (nI t) 0).1 273 u = 0 ∧ (mz_wI M 274 (nI t) 0).1 274 u = 0 ∧ (mz_wI M 275 (nI t) 0).1 275 u = 0 ∧ (mz_wL M 321 (nI t) 0).2 321 u = 0 ∧ (mz_wL M 322 (nI t) 0).2 322 u = 0 ∧ (mz_wL M 323 (nI t) 0).2 323 u = 0
      rw [wI_at (by omega), wI_at (by omega), wI_at (by omega), wI_at (by omega), wI_at (by omega), wI_at (by omega), wL_at (by omega), wL_at (by omega), wL_at (by omega), if_neg (by omega), if_neg (by omega), if_neg (by omega), if_neg (by omega), if_neg (by omega), if_neg (by omega), if_neg (by omega), if_neg (by omega), if_neg (by omega)]
      exact h) (fun M h1 h2 => by
    have hlt : ¬ nI 11 < 11 := by decide
    obtain ⟨p1, p2, p3, p4, p5⟩ := rg3 (N := M)
    rw [cd_415_117, cq_415_117]
    simp only [hlt, if_false]
    refine ⟨⟨False.elim, fun _ => p1⟩, _, rfl, fq_trans (fq_sub h1 rfl rfl) (fq_sub p2 rfl rfl), ⟨fun u hu => ?_, p3⟩, fun f hf => ?_, fun f hf => ?_⟩
    · rw [p2.1 247 rfl, p2.1 248 rfl, p2.1 272 rfl, p2.1 273 rfl, p2.1 274 rfl, p2.1 275 rfl, p2.2 321 rfl, p2.2 322 rfl, p2.2 323 rfl]; exact h2 u hu
    · rw [p4 f hf, h1.1 232 rfl]
    · rw [p5 f hf, h1.2 232 rfl])
def rt5 (M : mz_N) : Prop := (∀ u, u < 96 → M.1 246 u = 0 ∧ M.1 245 (u % 24) = 0) ∧ rt4 M
theorem rg5 : cp_415_86 0 N ∧ fq [246, 245, 247, 248, 272, 273, 274, 275, 278, 249, 250, 306, 307, 252, 232, 296, 297, 311, 316, 308, 287, 282, 285, 279] [321, 322, 323, 324, 325, 305, 232, 298] N (cf_415_86 0 N) ∧ rt5 (cf_415_86 0 N) ∧ rfo N (cf_415_86 0 N) :=
  lp_gen (f := cq_415_86) (P := cd_415_86) (N := N) 96 [246, 245] [] (fun u M => M.1 246 u = 0 ∧ M.1 245 (u % 24) = 0) (fun r => fq [246, 245, 247, 248, 272, 273, 274, 275, 278, 249, 250, 306, 307, 252, 232, 296, 297, 311, 316, 308, 287, 282, 285, 279] [321, 322, 323, 324, 325, 305, 232, 298] N r ∧ rt5 r ∧ rfo N r) (fun t M ht => by
    have hlt : nI t < 96 := (nI_ltI (b := 96) (by omega) (by omega)).mpr ht
    have i1 : mz_ib (nI t) 96 := ib_n ht (by omega)
    have er : mz_irem (nI t) 24 = nI (t % 24) := by rw [show (24 : Int32) = nI 24 from rfl, irem_n (by omega) (by omega) (by omega)]
    rw [cd_415_86, cq_415_86]
    simp only [hlt, if_true, nI_1, er]
    refine ⟨⟨fun _ => ⟨i1, ib_n (by omega) (by omega)⟩, fun w => absurd trivial w⟩, _, rfl, fq_wI (fq_wI (fq_refl _ _ _) rfl) rfl, ?_, fun u hu h => ?_⟩
    · show (mz_wI M 246 (nI t) 0).1 246 t = 0 ∧ (mz_wI M 245 (nI (t % 24)) 0).1 245 (t % 24) = 0
      rw [wI_at (by omega), wI_at (by omega), if_pos rfl, if_pos rfl]
      exact ⟨rfl, rfl⟩
    · show (mz_wI M 246 (nI t) 0).1 246 u = 0 ∧ (mz_wI M 245 (nI (t % 24)) 0).1 245 (u % 24) = 0
      rw [wI_at (by omega), wI_at (by omega), if_neg (by omega)]
      refine ⟨h.1, ?_⟩
      split
      · rfl
      · exact h.2) (fun M h1 h2 => by
    have hlt : ¬ nI 96 < 96 := by decide
    obtain ⟨p1, p2, p3, p4, p5⟩ := rg4 (N := M)
    rw [cd_415_86, cq_415_86]
    simp only [hlt, if_false]
    refine ⟨⟨False.elim, fun _ => p1⟩, _, rfl, fq_trans (fq_sub h1 rfl rfl) (fq_sub p2 rfl rfl), ⟨fun u hu => ?_, p3⟩, fun f hf => ?_, fun f hf => ?_⟩
    · rw [p2.1 246 rfl, p2.1 245 rfl]; exact h2 u hu
    · rw [p4 f hf, h1.1 232 rfl]
    · rw [p5 f hf, h1.2 232 rfl])
def rt6 (M : mz_N) : Prop := (∀ u, u < 240 → M.1 234 u = 15 ∧ M.1 244 u = 0 ∧ M.2 260 u = 18000 ∧ M.2 261 u = 0 ∧ M.2 262 u = 0 ∧ M.2 263 u = 0 ∧ M.2 264 u = 0 ∧ M.2 265 u = 0) ∧ rt5 M
theorem rg6 : cp_415_12 0 N ∧ fq [234, 244, 246, 245, 247, 248, 272, 273, 274, 275, 278, 249, 250, 306, 307, 252, 232, 296, 297, 311, 316, 308, 287, 282, 285, 279] [260, 261, 262, 263, 264, 265, 321, 322, 323, 324, 325, 305, 232, 298] N (cf_415_12 0 N) ∧ rt6 (cf_415_12 0 N) ∧ rfo N (cf_415_12 0 N) :=
  lp_gen (f := cq_415_12) (P := cd_415_12) (N := N) 240 [234, 244] [260, 261, 262, 263, 264, 265] (fun u M => M.1 234 u = 15 ∧ M.1 244 u = 0 ∧ M.2 260 u = 18000 ∧ M.2 261 u = 0 ∧ M.2 262 u = 0 ∧ M.2 263 u = 0 ∧ M.2 264 u = 0 ∧ M.2 265 u = 0) (fun r => fq [234, 244, 246, 245, 247, 248, 272, 273, 274, 275, 278, 249, 250, 306, 307, 252, 232, 296, 297, 311, 316, 308, 287, 282, 285, 279] [260, 261, 262, 263, 264, 265, 321, 322, 323, 324, 325, 305, 232, 298] N r ∧ rt6 r ∧ rfo N r) (fun t M ht => by
    have hlt : nI t < 240 := (nI_ltI (b := 240) (by omega) (by omega)).mpr ht
    have i1 : mz_ib (nI t) 240 := ib_n ht (by omega)
    rw [cd_415_12, cq_415_12]
    simp only [hlt, if_true, nI_1, cp_415_57, cf_415_57]
    refine ⟨⟨fun _ => ⟨i1, i1, i1, i1, i1, i1, i1, i1⟩, fun w => absurd trivial w⟩, _, rfl, fq_wL (fq_wL (fq_wL (fq_wL (fq_wL (fq_wL (fq_wI (fq_wI (fq_refl _ _ _) rfl) rfl) rfl) rfl) rfl) rfl) rfl) rfl, ?_, fun u hu h => ?_⟩
    · show (mz_wI M 234 (nI t) 15).1 234 t = 15 ∧ (mz_wI M 244 (nI t) 0).1 244 t = 0 ∧ (mz_wL M 260 (nI t) 18000).2 260 t = 18000 ∧ (mz_wL M 261 (nI t) 0).2 261 t = 0 ∧ (mz_wL M 262 (nI t) 0).2 262 t = 0 ∧ (mz_wL M 263 (nI t) 0).2 263 t = 0 ∧ (mz_wL M 264 (nI t) 0).2 264 t = 0 ∧ (mz_wL M 265 (nI t) 0).2 265 t = 0
      rw [wI_at (by omega), wI_at (by omega), wL_at (by omega), wL_at (by omega), wL_at (by omega), wL_at (by omega), wL_at (by omega), wL_at (by omega), if_pos rfl, if_pos rfl, if_pos rfl, if_pos rfl, if_pos rfl, if_pos rfl, if_pos rfl, if_pos rfl]
      exact ⟨rfl, rfl, rfl, rfl, rfl, rfl, rfl, rfl⟩
    · show (mz_wI M 234 (nI t) 15).1 234 u = 15 ∧ (mz_wI M 244 (nI t) 0).1 244 u = 0 ∧ (mz_wL M 260 (nI t) 18000).2 260 u = 18000 ∧ (mz_wL M 261 (nI t) 0).2 261 u = 0 ∧ (mz_wL M 262 (nI t) 0).2 262 u = 0 ∧ (mz_wL M 263 (nI t) 0).2 263 u = 0 ∧ (mz_wL M 264 (nI t) 0).2 264 u = 0 ∧ (mz_wL M 265 (nI t) 0).2 265 u = 0
      rw [wI_at (by omega), wI_at (by omega), wL_at (by omega), wL_at (by omega), wL_at (by omega), wL_at (by omega), wL_at (by omega), wL_at (by omega), if_neg (by omega), if_neg (by omega), if_neg (by omega), if_neg (by omega), if_neg (by omega), if_neg (by omega), if_neg (by omega), if_neg (by omega)]
      exact h) (fun M h1 h2 => by
    have hlt : ¬ nI 240 < 240 := by decide
    obtain ⟨p1, p2, p3, p4, p5⟩ := rg5 (N := M)
    rw [cd_415_12, cq_415_12]
    simp only [hlt, if_false]
    refine ⟨⟨False.elim, fun _ => p1⟩, _, rfl, fq_trans (fq_sub h1 rfl rfl) (fq_sub p2 rfl rfl), ⟨fun u hu => ?_, p3⟩, fun f hf => ?_, fun f hf => ?_⟩
    · rw [p2.1 234 rfl, p2.1 244 rfl, p2.2 260 rfl, p2.2 261 rfl, p2.2 262 rfl, p2.2 263 rfl, p2.2 264 rfl, p2.2 265 rfl]; exact h2 u hu
    · rw [p4 f hf, h1.1 232 rfl]
    · rw [p5 f hf, h1.2 232 rfl])
end Rft
