/-! PURE (50n): the class's things at first: together. -/
/-- what isn't kept, at first (s the seed) -/
def c_nf (M : mz_N) (s : Int32) : Prop :=
  (∀ j, j < 11 → M.1 58 j = 0 ∧ M.1 59 j = 0 ∧ M.1 60 j = 0 ∧ M.1 61 j = 0) ∧ (∀ j, j < 10 → M.1 64 j = 0) ∧
  (M.1 56 1 = 1500 ∧ M.1 56 2 = 100 ∧ M.1 56 3 = 0 ∧ M.1 56 4 = 1 ∧ M.1 56 5 = 0 ∧ M.1 56 6 = 1 ∧ M.1 56 7 = 2000 ∧ M.1 56 8 = 0 ∧ M.1 56 9 = 0 ∧ M.1 56 10 = 0 ∧ M.1 56 11 = 20000 ∧ M.1 56 12 = 0 ∧ M.1 56 13 = 0 ∧ M.1 56 15 = s) ∧
  (∀ j, j < 240 → M.2 68 j = 18000 ∧ M.2 69 j = 0 ∧ M.2 70 j = 0 ∧ M.2 71 j = 0 ∧ M.1 72 j = 0 ∧ M.1 73 j = 0) ∧ M.1 65 8 = 0 ∧
  (∀ j, j < 10 → M.1 82 j = 0) ∧ (∀ j, j < 18 → M.1 83 j = 0) ∧ M.1 81 3 = 0 ∧ (∀ j, j < 40 → M.1 109 j = -1) ∧ M.1 100 10 = 0 ∧ (∀ j, j < 2 → M.1 133 j = 0) ∧ M.1 115 5 = 0
/-- cells that the first things are laid into -/
def cfA : List Nat := [56, 58, 59, 60, 61, 62, 63, 64, 65, 66, 67, 72, 73, 81, 82, 83, 87, 99, 100, 101, 104, 109, 115, 123, 125, 126, 127, 128, 133, 208, 210, 211, 212, 215]
def cfB : List Nat := [68, 69, 70, 71, 208, 213, 214]
theorem c_first {K : mz_N} (h3 : ∀ j, j < 550 → K.1 3 j = nI (fe0 j)) (h37 : ∀ j, j < 240 → K.1 37 j = 15) (h40 : ∀ j, j < 240 → K.1 40 j = 0) :
    (cp_47_0 K ∧ cp_48_0 (cf_47_0 K) ∧ cp_50_0 (cf_48_0 (cf_47_0 K)) ∧ cp_51_0 (cf_50_0 (cf_48_0 (cf_47_0 K))) ∧ cp_52_0 (cf_51_0 (cf_50_0 (cf_48_0 (cf_47_0 K)))) ∧ cp_53_0 (cf_52_0 (cf_51_0 (cf_50_0 (cf_48_0 (cf_47_0 K)))))) ∧
    fq cfA cfB K (cf_53_0 (cf_52_0 (cf_51_0 (cf_50_0 (cf_48_0 (cf_47_0 K)))))) ∧ c_kn (cf_53_0 (cf_52_0 (cf_51_0 (cf_50_0 (cf_48_0 (cf_47_0 K)))))) H0 ∧ c_ks (cf_53_0 (cf_52_0 (cf_51_0 (cf_50_0 (cf_48_0 (cf_47_0 K)))))) H0 0 ∧ c_nf (cf_53_0 (cf_52_0 (cf_51_0 (cf_50_0 (cf_48_0 (cf_47_0 K)))))) (K.1 56 15) := by
  obtain ⟨a1, a2, a3, a4, a5⟩ := fs47 (N := K)
  generalize cf_47_0 K = K1 at *
  obtain ⟨b1', b2, b3, b4, b5, b6⟩ := fs48 (N := K1)
  generalize cf_48_0 K1 = K2 at *
  obtain ⟨c1, c2, c3, c4, c5, c6⟩ := fs50 (N := K2)
  generalize cf_50_0 K2 = K3 at *
  obtain ⟨d1, d2, d3, d4, d5⟩ := fs51 (N := K3)
  generalize cf_51_0 K3 = K4 at *
  obtain ⟨e1, e2, e3, e4, e5, e6⟩ := fs52 (N := K4)
  generalize cf_52_0 K4 = K5 at *
  obtain ⟨f1, f2, f3, f4, f5, f6⟩ := fs53 (N := K5)
  generalize cf_53_0 K5 = K6 at *
  have x5 : ∀ c, [208, 210, 211, 212, 215].contains c = false → K6.1 c = K5.1 c := f2.1
  have x4 : ∀ c, [208, 210, 211, 212, 215].contains c = false → [115, 123, 125, 126, 127, 128, 133].contains c = false → K6.1 c = K4.1 c := fun c h1 h2 => (f2.1 c h1).trans (e2.1 c h2)
  have x3 : ∀ c, [208, 210, 211, 212, 215].contains c = false → [115, 123, 125, 126, 127, 128, 133].contains c = false → [100, 101, 104, 109].contains c = false → K6.1 c = K3.1 c := fun c h1 h2 h3 => (x4 c h1 h2).trans (d2.1 c h3)
  have x2 : ∀ c, [208, 210, 211, 212, 215].contains c = false → [115, 123, 125, 126, 127, 128, 133].contains c = false → [100, 101, 104, 109].contains c = false → [81, 82, 83, 87, 99].contains c = false → K6.1 c = K2.1 c := fun c h1 h2 h3 h4 => (x3 c h1 h2 h3).trans (c2.1 c h4)
  have x1 : ∀ c, [208, 210, 211, 212, 215].contains c = false → [115, 123, 125, 126, 127, 128, 133].contains c = false → [100, 101, 104, 109].contains c = false → [81, 82, 83, 87, 99].contains c = false → [65, 66, 67, 72, 73].contains c = false → K6.1 c = K1.1 c := fun c h1 h2 h3 h4 h5 => (x2 c h1 h2 h3 h4).trans (b2.1 c h5)
  have x0 : ∀ c, [208, 210, 211, 212, 215].contains c = false → [115, 123, 125, 126, 127, 128, 133].contains c = false → [100, 101, 104, 109].contains c = false → [81, 82, 83, 87, 99].contains c = false → [65, 66, 67, 72, 73].contains c = false → [56, 58, 59, 60, 61, 62, 63, 64].contains c = false → K6.1 c = K.1 c := fun c h1 h2 h3 h4 h5 h6 => (x1 c h1 h2 h3 h4 h5).trans (a2.1 c h6)
  have y2 : ∀ c, [208, 213, 214].contains c = false → K6.2 c = K2.2 c := fun c h => (f2.2 c h).trans ((e2.2 c rfl).trans ((d2.2 c rfl).trans (c2.2 c rfl)))
  have g58 := fun j hj => a3 0 (by omega) j hj
  have g59 := fun j hj => a3 1 (by omega) j hj
  have g60 := fun j hj => a3 2 (by omega) j hj
  have g61 := fun j hj => a3 3 (by omega) j hj
  have g62 := fun j hj => a3 4 (by omega) j hj
  have g63 := fun j hj => a3 5 (by omega) j hj
  refine ⟨⟨a1, b1', c1, d1, e1, f1⟩, ?_, ?_, ?_, ?_⟩
  · exact fq_trans (fq_sub a2 rfl rfl) (fq_trans (fq_sub b2 rfl rfl) (fq_trans (fq_sub c2 rfl rfl) (fq_trans (fq_sub d2 rfl rfl) (fq_trans (fq_sub e2 rfl rfl) (fq_sub f2 rfl rfl)))))
  · refine ⟨fun j hj => ?_, fun j hj => ?_, fun j hj => ?_, fun j hj => ?_, fun j hj => ?_, fun j hj => ⟨?_, ?_⟩, fun j hj => ⟨f3 0 (by omega) j hj, f3 1 (by omega) j hj, f3 2 (by omega) j hj⟩, f4, f6, f5, fun j hj => ?_, fun j hj => ⟨?_, fun q => by cases q⟩, fun j hj => ⟨?_, fun q => by cases q⟩, fun j hj => ⟨?_, fun q => by cases q⟩, fun j hj => ⟨?_, fun q => by cases q⟩⟩
    · rw [x0 3 rfl rfl rfl rfl rfl rfl]; exact h3 j hj
    · rw [x0 37 rfl rfl rfl rfl rfl rfl]; exact h37 j hj
    · rw [x0 40 rfl rfl rfl rfl rfl rfl]; exact h40 j hj
    · rw [x2 66 rfl rfl rfl rfl]; exact b3 j hj
    · rw [x2 67 rfl rfl rfl rfl]; exact b4 j hj
    · rw [x1 62 rfl rfl rfl rfl rfl]; exact g62 j hj
    · rw [x1 63 rfl rfl rfl rfl rfl]; exact g63 j hj
    · rw [x5 125 rfl, x5 126 rfl, x5 127 rfl, x5 128 rfl]; exact e4 j hj
    · rw [x5 123 rfl]; exact e3 j hj
    · rw [x4 101 rfl rfl]; exact d3 j hj
    · rw [x4 104 rfl rfl]; exact (d4 j hj).1
    · rw [x3 87 rfl rfl rfl]; exact (c5 j hj).1
  · refine ⟨(fun j hj q => by cases q), fun j hj => ?_, ?_⟩
    · rw [x3 99 rfl rfl rfl]; exact (c5 j hj).2
    · rw [x5 115 rfl, e6]; rfl
  · refine ⟨fun j hj => ?_, fun j hj => ?_, ?_, fun j hj => ?_, ?_, fun j hj => ?_, fun j hj => ?_, ?_, fun j hj => ?_, ?_, fun j hj => ?_, ?_⟩
    · rw [x1 58 rfl rfl rfl rfl rfl, x1 59 rfl rfl rfl rfl rfl, x1 60 rfl rfl rfl rfl rfl, x1 61 rfl rfl rfl rfl rfl]
      exact ⟨g58 j hj, g59 j hj, g60 j hj, g61 j hj⟩
    · rw [x1 64 rfl rfl rfl rfl rfl]; exact a4 j hj
    · rw [x1 56 rfl rfl rfl rfl rfl]; exact a5
    · rw [y2 68 rfl, y2 69 rfl, y2 70 rfl, y2 71 rfl, x2 72 rfl rfl rfl rfl, x2 73 rfl rfl rfl rfl]; exact b5 j hj
    · rw [x2 65 rfl rfl rfl rfl, b6]; rfl
    · rw [x3 82 rfl rfl rfl]; exact c3 j hj
    · rw [x3 83 rfl rfl rfl]; exact c4 j hj
    · rw [x3 81 rfl rfl rfl, c6]; rfl
    · rw [x4 109 rfl rfl]; exact (d4 j hj).2
    · rw [x4 100 rfl rfl, d5]; rfl
    · rw [x5 133 rfl]; exact e5 j hj
    · rw [x5 115 rfl, e6]; rfl
