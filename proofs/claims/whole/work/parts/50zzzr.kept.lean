/-! PURE (50zzzr): one kind of kept things changes (made by wip/gen/kept.py). -/
def kS (H : Kp) (f j x : Nat) : Kp := (up H.1 f (up (H.1 f) j x), H.2)
def kI (H : Kp) (f j : Nat) (x : Int32) : Kp := (H.1, up H.2.1 f (up (H.2.1 f) j x), H.2.2)
def kL (H : Kp) (f j : Nat) (x : Int64) : Kp := (H.1, H.2.1, up H.2.2 f (up (H.2.2 f) j x))
theorem lv_b (b : Bool) : mz_lv b = 43 ∨ mz_lv b = 48 := by cases b <;> first | exact Or.inl rfl | exact Or.inr rfl
section Kpt
variable {N M : mz_N} {b : Bool} {H G : Kp}
def kcI : List Nat := [3, 37, 40, 43, 44, 48, 49, 62, 63, 66, 67, 87, 88, 89, 101, 102, 103, 104, 105, 106, 107, 108, 117, 118, 119, 120, 121, 123, 125, 126, 127, 128, 208, 210, 211, 212, 215]
def kcL : List Nat := [208, 213, 214]
def krI : List Nat := [233, 234, 244, 245, 246, 247, 248, 249, 250, 252, 282, 283, 284, 287, 288, 289, 290, 306, 307, 308, 309, 310, 311, 312, 313, 314, 315]
def krL : List Nat := [291, 292, 305, 321, 322, 323, 324, 325]
theorem al_f {K X A : List Nat} (h : K.all (fun c => X.contains c || !A.contains c) = true) {c : Nat} (hc : K.contains c = true) (hx : X.contains c = false) : A.contains c = false := by
  have := List.all_eq_true.mp h c (by simpa using hc)
  rw [hx, Bool.false_or] at this
  cases e : A.contains c with
  | false => rfl
  | true => rw [e] at this; cases this
theorem fq_fr {A : List Nat} (h : fr A N M) : fq A [] N M := ⟨h.1, fun c _ => by rw [h.2]⟩
theorem ckp_1 (h : c_kp N b H) {A B : List Nat} (hf : fq A B N M) (hA : kcI.all (fun c => ([3] : List Nat).contains c || !A.contains c) = true) (hB : kcL.all (fun c => ([] : List Nat).contains c || !B.contains c) = true) (e1 : ∀ f, f ≠ 0 → G.1 f = H.1 f) (e2 : ∀ f, G.2.1 f = H.2.1 f) (e3 : ∀ f, G.2.2 f = H.2.2 f) (new : ∀ j, j < 550 → M.1 3 j = nI (G.1 0 j)) : c_kp M b G := by
  have f1 : ∀ c, kcI.contains c = true → ([3] : List Nat).contains c = false → M.1 c = N.1 c := fun c h1 h2 => hf.1 c (al_f hA h1 h2)
  have f2 : ∀ c, kcL.contains c = true → ([] : List Nat).contains c = false → M.2 c = N.2 c := fun c h1 h2 => hf.2 c (al_f hB h1 h2)
  have l1 : M.1 (mz_lv b) = N.1 (mz_lv b) := by rcases lv_b b with w | w <;> rw [w] <;> exact f1 _ rfl rfl
  have l2 : M.1 (mz_lv b + 1) = N.1 (mz_lv b + 1) := by rcases lv_b b with w | w <;> rw [w] <;> exact f1 _ rfl rfl
  obtain ⟨k1, k2, k3, k4, k5, k6, k6b, k7, k8, k8b, k9, k10, k11, k12, k13, k14, k15⟩ := h
  refine ⟨new, ?_, ?_, ?_, ?_, ?_, ?_, ?_, ?_, ?_, ?_, ?_, ?_, ?_, ?_, ?_, ?_⟩
  · rw [f1 37 rfl rfl, e1 1 (by omega)]; exact k2
  · rw [f1 40 rfl rfl, e1 2 (by omega)]; exact k3
  · rw [f1 66 rfl rfl, e2 0]; exact k4
  · rw [f1 67 rfl rfl, e1 3 (by omega)]; exact k5
  · rw [l1, e1 5 (by omega)]; exact k6
  · rw [l2, e1 5 (by omega), e1 4 (by omega)]; exact k6b
  · rw [f1 62 rfl rfl, f1 63 rfl rfl, e1 6 (by omega), e2 1]; exact k7
  · rw [f1 210 rfl rfl, f1 211 rfl rfl, f1 212 rfl rfl, e2 2, e2 3, e2 4]; exact k8
  · rw [f2 213 rfl rfl, f2 214 rfl rfl, e3 0, e3 1]; exact k8b
  · rw [f1 208 rfl rfl, f2 208 rfl rfl, e2 5, e3 2]; exact k9
  · rw [f1 215 rfl rfl, e2 6]; exact k10
  · rw [f1 125 rfl rfl, f1 126 rfl rfl, f1 127 rfl rfl, f1 128 rfl rfl, e1 7 (by omega), e2 7, e2 8, e2 9]; exact k11
  · rw [f1 123 rfl rfl, f1 118 rfl rfl, f1 119 rfl rfl, f1 120 rfl rfl, f1 121 rfl rfl, f1 117 rfl rfl, e1 8 (by omega), e1 9 (by omega), e1 10 (by omega), e1 11 (by omega), e2 10, e2 11]; exact k12
  · rw [f1 101 rfl rfl, f1 102 rfl rfl, f1 103 rfl rfl, e1 12 (by omega), e1 13 (by omega), e1 14 (by omega)]; exact k13
  · rw [f1 104 rfl rfl, f1 105 rfl rfl, f1 106 rfl rfl, f1 107 rfl rfl, f1 108 rfl rfl, e1 15 (by omega), e1 16 (by omega), e1 17 (by omega), e1 18 (by omega), e2 12]; exact k14
  · rw [f1 87 rfl rfl, f1 88 rfl rfl, f1 89 rfl rfl, e1 19 (by omega), e1 20 (by omega), e1 21 (by omega)]; exact k15
theorem rkp_1 (h : r_kp N H) {A B : List Nat} (hf : fq A B N M) (hA : krI.all (fun c => ([233] : List Nat).contains c || !A.contains c) = true) (hB : krL.all (fun c => ([] : List Nat).contains c || !B.contains c) = true) (h27 : M.1 232 27 = N.1 232 27) (h21 : M.1 232 21 = N.1 232 21) (h9 : ∀ f, f = 2 ∨ (122 ≤ f ∧ f ≤ 125) → M.2 232 f = N.2 232 f) (e1 : ∀ f, f ≠ 0 → G.1 f = H.1 f) (e2 : ∀ f, G.2.1 f = H.2.1 f) (e3 : ∀ f, G.2.2 f = H.2.2 f) (new : ∀ j, j < 550 → M.1 233 j = nI (G.1 0 j)) : r_kp M G := by
  have f1 : ∀ c, krI.contains c = true → ([233] : List Nat).contains c = false → M.1 c = N.1 c := fun c h1 h2 => hf.1 c (al_f hA h1 h2)
  have f2 : ∀ c, krL.contains c = true → ([] : List Nat).contains c = false → M.2 c = N.2 c := fun c h1 h2 => hf.2 c (al_f hB h1 h2)
  obtain ⟨k1, k2, k3, k4, k5, k6, k6b, k7, k8, k8b, k9, k10, k11, k12, k13, k14, k15⟩ := h
  refine ⟨new, ?_, ?_, ?_, ?_, ?_, ?_, ?_, ?_, ?_, ?_, ?_, ?_, ?_, ?_, ?_, ?_⟩
  · rw [f1 234 rfl rfl, e1 1 (by omega)]; exact k2
  · rw [f1 244 rfl rfl, e1 2 (by omega)]; exact k3
  · rw [f1 245 rfl rfl, e2 0]; exact k4
  · rw [f1 246 rfl rfl, e1 3 (by omega)]; exact k5
  · rw [h27, e1 5 (by omega)]; exact k6
  · rw [f1 252 rfl rfl, e1 4 (by omega)]; exact k6b
  · rw [f1 247 rfl rfl, f1 248 rfl rfl, e1 6 (by omega), e2 1]; exact k7
  · rw [f2 321 rfl rfl, f2 322 rfl rfl, f2 323 rfl rfl, e2 2, e2 3, e2 4]; exact k8
  · rw [f2 324 rfl rfl, f2 325 rfl rfl, e3 0, e3 1]; exact k8b
  · rw [h9 2 (by omega), h9 122 (by omega), h9 123 (by omega), h9 124 (by omega), h9 125 (by omega), e2 5, e3 2]; exact k9
  · rw [h21, f1 249 rfl rfl, e2 6]; exact k10
  · rw [f1 250 rfl rfl, f1 306 rfl rfl, f1 307 rfl rfl, f2 305 rfl rfl, e1 7 (by omega), e2 7, e2 8, e2 9]; exact k11
  · rw [f1 287 rfl rfl, f1 288 rfl rfl, f1 289 rfl rfl, f1 290 rfl rfl, f2 291 rfl rfl, f2 292 rfl rfl, e1 8 (by omega), e1 9 (by omega), e1 10 (by omega), e1 11 (by omega), e2 10, e2 11]; exact k12
  · rw [f1 308 rfl rfl, f1 309 rfl rfl, f1 310 rfl rfl, e1 12 (by omega), e1 13 (by omega), e1 14 (by omega)]; exact k13
  · rw [f1 311 rfl rfl, f1 312 rfl rfl, f1 313 rfl rfl, f1 314 rfl rfl, f1 315 rfl rfl, e1 15 (by omega), e1 16 (by omega), e1 17 (by omega), e1 18 (by omega), e2 12]; exact k14
  · rw [f1 282 rfl rfl, f1 283 rfl rfl, f1 284 rfl rfl, e1 19 (by omega), e1 20 (by omega), e1 21 (by omega)]; exact k15
theorem ckp_2 (h : c_kp N b H) {A B : List Nat} (hf : fq A B N M) (hA : kcI.all (fun c => ([37] : List Nat).contains c || !A.contains c) = true) (hB : kcL.all (fun c => ([] : List Nat).contains c || !B.contains c) = true) (e1 : ∀ f, f ≠ 1 → G.1 f = H.1 f) (e2 : ∀ f, G.2.1 f = H.2.1 f) (e3 : ∀ f, G.2.2 f = H.2.2 f) (new : ∀ j, j < 240 → M.1 37 j = nI (G.1 1 j)) : c_kp M b G := by
  have f1 : ∀ c, kcI.contains c = true → ([37] : List Nat).contains c = false → M.1 c = N.1 c := fun c h1 h2 => hf.1 c (al_f hA h1 h2)
  have f2 : ∀ c, kcL.contains c = true → ([] : List Nat).contains c = false → M.2 c = N.2 c := fun c h1 h2 => hf.2 c (al_f hB h1 h2)
  have l1 : M.1 (mz_lv b) = N.1 (mz_lv b) := by rcases lv_b b with w | w <;> rw [w] <;> exact f1 _ rfl rfl
  have l2 : M.1 (mz_lv b + 1) = N.1 (mz_lv b + 1) := by rcases lv_b b with w | w <;> rw [w] <;> exact f1 _ rfl rfl
  obtain ⟨k1, k2, k3, k4, k5, k6, k6b, k7, k8, k8b, k9, k10, k11, k12, k13, k14, k15⟩ := h
  refine ⟨?_, new, ?_, ?_, ?_, ?_, ?_, ?_, ?_, ?_, ?_, ?_, ?_, ?_, ?_, ?_, ?_⟩
  · rw [f1 3 rfl rfl, e1 0 (by omega)]; exact k1
  · rw [f1 40 rfl rfl, e1 2 (by omega)]; exact k3
  · rw [f1 66 rfl rfl, e2 0]; exact k4
  · rw [f1 67 rfl rfl, e1 3 (by omega)]; exact k5
  · rw [l1, e1 5 (by omega)]; exact k6
  · rw [l2, e1 5 (by omega), e1 4 (by omega)]; exact k6b
  · rw [f1 62 rfl rfl, f1 63 rfl rfl, e1 6 (by omega), e2 1]; exact k7
  · rw [f1 210 rfl rfl, f1 211 rfl rfl, f1 212 rfl rfl, e2 2, e2 3, e2 4]; exact k8
  · rw [f2 213 rfl rfl, f2 214 rfl rfl, e3 0, e3 1]; exact k8b
  · rw [f1 208 rfl rfl, f2 208 rfl rfl, e2 5, e3 2]; exact k9
  · rw [f1 215 rfl rfl, e2 6]; exact k10
  · rw [f1 125 rfl rfl, f1 126 rfl rfl, f1 127 rfl rfl, f1 128 rfl rfl, e1 7 (by omega), e2 7, e2 8, e2 9]; exact k11
  · rw [f1 123 rfl rfl, f1 118 rfl rfl, f1 119 rfl rfl, f1 120 rfl rfl, f1 121 rfl rfl, f1 117 rfl rfl, e1 8 (by omega), e1 9 (by omega), e1 10 (by omega), e1 11 (by omega), e2 10, e2 11]; exact k12
  · rw [f1 101 rfl rfl, f1 102 rfl rfl, f1 103 rfl rfl, e1 12 (by omega), e1 13 (by omega), e1 14 (by omega)]; exact k13
  · rw [f1 104 rfl rfl, f1 105 rfl rfl, f1 106 rfl rfl, f1 107 rfl rfl, f1 108 rfl rfl, e1 15 (by omega), e1 16 (by omega), e1 17 (by omega), e1 18 (by omega), e2 12]; exact k14
  · rw [f1 87 rfl rfl, f1 88 rfl rfl, f1 89 rfl rfl, e1 19 (by omega), e1 20 (by omega), e1 21 (by omega)]; exact k15
theorem rkp_2 (h : r_kp N H) {A B : List Nat} (hf : fq A B N M) (hA : krI.all (fun c => ([234] : List Nat).contains c || !A.contains c) = true) (hB : krL.all (fun c => ([] : List Nat).contains c || !B.contains c) = true) (h27 : M.1 232 27 = N.1 232 27) (h21 : M.1 232 21 = N.1 232 21) (h9 : ∀ f, f = 2 ∨ (122 ≤ f ∧ f ≤ 125) → M.2 232 f = N.2 232 f) (e1 : ∀ f, f ≠ 1 → G.1 f = H.1 f) (e2 : ∀ f, G.2.1 f = H.2.1 f) (e3 : ∀ f, G.2.2 f = H.2.2 f) (new : ∀ j, j < 240 → M.1 234 j = nI (G.1 1 j)) : r_kp M G := by
  have f1 : ∀ c, krI.contains c = true → ([234] : List Nat).contains c = false → M.1 c = N.1 c := fun c h1 h2 => hf.1 c (al_f hA h1 h2)
  have f2 : ∀ c, krL.contains c = true → ([] : List Nat).contains c = false → M.2 c = N.2 c := fun c h1 h2 => hf.2 c (al_f hB h1 h2)
  obtain ⟨k1, k2, k3, k4, k5, k6, k6b, k7, k8, k8b, k9, k10, k11, k12, k13, k14, k15⟩ := h
  refine ⟨?_, new, ?_, ?_, ?_, ?_, ?_, ?_, ?_, ?_, ?_, ?_, ?_, ?_, ?_, ?_, ?_⟩
  · rw [f1 233 rfl rfl, e1 0 (by omega)]; exact k1
  · rw [f1 244 rfl rfl, e1 2 (by omega)]; exact k3
  · rw [f1 245 rfl rfl, e2 0]; exact k4
  · rw [f1 246 rfl rfl, e1 3 (by omega)]; exact k5
  · rw [h27, e1 5 (by omega)]; exact k6
  · rw [f1 252 rfl rfl, e1 4 (by omega)]; exact k6b
  · rw [f1 247 rfl rfl, f1 248 rfl rfl, e1 6 (by omega), e2 1]; exact k7
  · rw [f2 321 rfl rfl, f2 322 rfl rfl, f2 323 rfl rfl, e2 2, e2 3, e2 4]; exact k8
  · rw [f2 324 rfl rfl, f2 325 rfl rfl, e3 0, e3 1]; exact k8b
  · rw [h9 2 (by omega), h9 122 (by omega), h9 123 (by omega), h9 124 (by omega), h9 125 (by omega), e2 5, e3 2]; exact k9
  · rw [h21, f1 249 rfl rfl, e2 6]; exact k10
  · rw [f1 250 rfl rfl, f1 306 rfl rfl, f1 307 rfl rfl, f2 305 rfl rfl, e1 7 (by omega), e2 7, e2 8, e2 9]; exact k11
  · rw [f1 287 rfl rfl, f1 288 rfl rfl, f1 289 rfl rfl, f1 290 rfl rfl, f2 291 rfl rfl, f2 292 rfl rfl, e1 8 (by omega), e1 9 (by omega), e1 10 (by omega), e1 11 (by omega), e2 10, e2 11]; exact k12
  · rw [f1 308 rfl rfl, f1 309 rfl rfl, f1 310 rfl rfl, e1 12 (by omega), e1 13 (by omega), e1 14 (by omega)]; exact k13
  · rw [f1 311 rfl rfl, f1 312 rfl rfl, f1 313 rfl rfl, f1 314 rfl rfl, f1 315 rfl rfl, e1 15 (by omega), e1 16 (by omega), e1 17 (by omega), e1 18 (by omega), e2 12]; exact k14
  · rw [f1 282 rfl rfl, f1 283 rfl rfl, f1 284 rfl rfl, e1 19 (by omega), e1 20 (by omega), e1 21 (by omega)]; exact k15
theorem ckp_3 (h : c_kp N b H) {A B : List Nat} (hf : fq A B N M) (hA : kcI.all (fun c => ([40] : List Nat).contains c || !A.contains c) = true) (hB : kcL.all (fun c => ([] : List Nat).contains c || !B.contains c) = true) (e1 : ∀ f, f ≠ 2 → G.1 f = H.1 f) (e2 : ∀ f, G.2.1 f = H.2.1 f) (e3 : ∀ f, G.2.2 f = H.2.2 f) (new : ∀ j, j < 240 → M.1 40 j = nI (G.1 2 j)) : c_kp M b G := by
  have f1 : ∀ c, kcI.contains c = true → ([40] : List Nat).contains c = false → M.1 c = N.1 c := fun c h1 h2 => hf.1 c (al_f hA h1 h2)
  have f2 : ∀ c, kcL.contains c = true → ([] : List Nat).contains c = false → M.2 c = N.2 c := fun c h1 h2 => hf.2 c (al_f hB h1 h2)
  have l1 : M.1 (mz_lv b) = N.1 (mz_lv b) := by rcases lv_b b with w | w <;> rw [w] <;> exact f1 _ rfl rfl
  have l2 : M.1 (mz_lv b + 1) = N.1 (mz_lv b + 1) := by rcases lv_b b with w | w <;> rw [w] <;> exact f1 _ rfl rfl
  obtain ⟨k1, k2, k3, k4, k5, k6, k6b, k7, k8, k8b, k9, k10, k11, k12, k13, k14, k15⟩ := h
  refine ⟨?_, ?_, new, ?_, ?_, ?_, ?_, ?_, ?_, ?_, ?_, ?_, ?_, ?_, ?_, ?_, ?_⟩
  · rw [f1 3 rfl rfl, e1 0 (by omega)]; exact k1
  · rw [f1 37 rfl rfl, e1 1 (by omega)]; exact k2
  · rw [f1 66 rfl rfl, e2 0]; exact k4
  · rw [f1 67 rfl rfl, e1 3 (by omega)]; exact k5
  · rw [l1, e1 5 (by omega)]; exact k6
  · rw [l2, e1 5 (by omega), e1 4 (by omega)]; exact k6b
  · rw [f1 62 rfl rfl, f1 63 rfl rfl, e1 6 (by omega), e2 1]; exact k7
  · rw [f1 210 rfl rfl, f1 211 rfl rfl, f1 212 rfl rfl, e2 2, e2 3, e2 4]; exact k8
  · rw [f2 213 rfl rfl, f2 214 rfl rfl, e3 0, e3 1]; exact k8b
  · rw [f1 208 rfl rfl, f2 208 rfl rfl, e2 5, e3 2]; exact k9
  · rw [f1 215 rfl rfl, e2 6]; exact k10
  · rw [f1 125 rfl rfl, f1 126 rfl rfl, f1 127 rfl rfl, f1 128 rfl rfl, e1 7 (by omega), e2 7, e2 8, e2 9]; exact k11
  · rw [f1 123 rfl rfl, f1 118 rfl rfl, f1 119 rfl rfl, f1 120 rfl rfl, f1 121 rfl rfl, f1 117 rfl rfl, e1 8 (by omega), e1 9 (by omega), e1 10 (by omega), e1 11 (by omega), e2 10, e2 11]; exact k12
  · rw [f1 101 rfl rfl, f1 102 rfl rfl, f1 103 rfl rfl, e1 12 (by omega), e1 13 (by omega), e1 14 (by omega)]; exact k13
  · rw [f1 104 rfl rfl, f1 105 rfl rfl, f1 106 rfl rfl, f1 107 rfl rfl, f1 108 rfl rfl, e1 15 (by omega), e1 16 (by omega), e1 17 (by omega), e1 18 (by omega), e2 12]; exact k14
  · rw [f1 87 rfl rfl, f1 88 rfl rfl, f1 89 rfl rfl, e1 19 (by omega), e1 20 (by omega), e1 21 (by omega)]; exact k15
theorem rkp_3 (h : r_kp N H) {A B : List Nat} (hf : fq A B N M) (hA : krI.all (fun c => ([244] : List Nat).contains c || !A.contains c) = true) (hB : krL.all (fun c => ([] : List Nat).contains c || !B.contains c) = true) (h27 : M.1 232 27 = N.1 232 27) (h21 : M.1 232 21 = N.1 232 21) (h9 : ∀ f, f = 2 ∨ (122 ≤ f ∧ f ≤ 125) → M.2 232 f = N.2 232 f) (e1 : ∀ f, f ≠ 2 → G.1 f = H.1 f) (e2 : ∀ f, G.2.1 f = H.2.1 f) (e3 : ∀ f, G.2.2 f = H.2.2 f) (new : ∀ j, j < 240 → M.1 244 j = nI (G.1 2 j)) : r_kp M G := by
  have f1 : ∀ c, krI.contains c = true → ([244] : List Nat).contains c = false → M.1 c = N.1 c := fun c h1 h2 => hf.1 c (al_f hA h1 h2)
  have f2 : ∀ c, krL.contains c = true → ([] : List Nat).contains c = false → M.2 c = N.2 c := fun c h1 h2 => hf.2 c (al_f hB h1 h2)
  obtain ⟨k1, k2, k3, k4, k5, k6, k6b, k7, k8, k8b, k9, k10, k11, k12, k13, k14, k15⟩ := h
  refine ⟨?_, ?_, new, ?_, ?_, ?_, ?_, ?_, ?_, ?_, ?_, ?_, ?_, ?_, ?_, ?_, ?_⟩
  · rw [f1 233 rfl rfl, e1 0 (by omega)]; exact k1
  · rw [f1 234 rfl rfl, e1 1 (by omega)]; exact k2
  · rw [f1 245 rfl rfl, e2 0]; exact k4
  · rw [f1 246 rfl rfl, e1 3 (by omega)]; exact k5
  · rw [h27, e1 5 (by omega)]; exact k6
  · rw [f1 252 rfl rfl, e1 4 (by omega)]; exact k6b
  · rw [f1 247 rfl rfl, f1 248 rfl rfl, e1 6 (by omega), e2 1]; exact k7
  · rw [f2 321 rfl rfl, f2 322 rfl rfl, f2 323 rfl rfl, e2 2, e2 3, e2 4]; exact k8
  · rw [f2 324 rfl rfl, f2 325 rfl rfl, e3 0, e3 1]; exact k8b
  · rw [h9 2 (by omega), h9 122 (by omega), h9 123 (by omega), h9 124 (by omega), h9 125 (by omega), e2 5, e3 2]; exact k9
  · rw [h21, f1 249 rfl rfl, e2 6]; exact k10
  · rw [f1 250 rfl rfl, f1 306 rfl rfl, f1 307 rfl rfl, f2 305 rfl rfl, e1 7 (by omega), e2 7, e2 8, e2 9]; exact k11
  · rw [f1 287 rfl rfl, f1 288 rfl rfl, f1 289 rfl rfl, f1 290 rfl rfl, f2 291 rfl rfl, f2 292 rfl rfl, e1 8 (by omega), e1 9 (by omega), e1 10 (by omega), e1 11 (by omega), e2 10, e2 11]; exact k12
  · rw [f1 308 rfl rfl, f1 309 rfl rfl, f1 310 rfl rfl, e1 12 (by omega), e1 13 (by omega), e1 14 (by omega)]; exact k13
  · rw [f1 311 rfl rfl, f1 312 rfl rfl, f1 313 rfl rfl, f1 314 rfl rfl, f1 315 rfl rfl, e1 15 (by omega), e1 16 (by omega), e1 17 (by omega), e1 18 (by omega), e2 12]; exact k14
  · rw [f1 282 rfl rfl, f1 283 rfl rfl, f1 284 rfl rfl, e1 19 (by omega), e1 20 (by omega), e1 21 (by omega)]; exact k15
theorem ckp_4 (h : c_kp N b H) {A B : List Nat} (hf : fq A B N M) (hA : kcI.all (fun c => ([66] : List Nat).contains c || !A.contains c) = true) (hB : kcL.all (fun c => ([] : List Nat).contains c || !B.contains c) = true) (e1 : ∀ f, G.1 f = H.1 f) (e2 : ∀ f, f ≠ 0 → G.2.1 f = H.2.1 f) (e3 : ∀ f, G.2.2 f = H.2.2 f) (new : ∀ j, j < 24 → M.1 66 j = G.2.1 0 j) : c_kp M b G := by
  have f1 : ∀ c, kcI.contains c = true → ([66] : List Nat).contains c = false → M.1 c = N.1 c := fun c h1 h2 => hf.1 c (al_f hA h1 h2)
  have f2 : ∀ c, kcL.contains c = true → ([] : List Nat).contains c = false → M.2 c = N.2 c := fun c h1 h2 => hf.2 c (al_f hB h1 h2)
  have l1 : M.1 (mz_lv b) = N.1 (mz_lv b) := by rcases lv_b b with w | w <;> rw [w] <;> exact f1 _ rfl rfl
  have l2 : M.1 (mz_lv b + 1) = N.1 (mz_lv b + 1) := by rcases lv_b b with w | w <;> rw [w] <;> exact f1 _ rfl rfl
  obtain ⟨k1, k2, k3, k4, k5, k6, k6b, k7, k8, k8b, k9, k10, k11, k12, k13, k14, k15⟩ := h
  refine ⟨?_, ?_, ?_, new, ?_, ?_, ?_, ?_, ?_, ?_, ?_, ?_, ?_, ?_, ?_, ?_, ?_⟩
  · rw [f1 3 rfl rfl, e1 0]; exact k1
  · rw [f1 37 rfl rfl, e1 1]; exact k2
  · rw [f1 40 rfl rfl, e1 2]; exact k3
  · rw [f1 67 rfl rfl, e1 3]; exact k5
  · rw [l1, e1 5]; exact k6
  · rw [l2, e1 5, e1 4]; exact k6b
  · rw [f1 62 rfl rfl, f1 63 rfl rfl, e1 6, e2 1 (by omega)]; exact k7
  · rw [f1 210 rfl rfl, f1 211 rfl rfl, f1 212 rfl rfl, e2 2 (by omega), e2 3 (by omega), e2 4 (by omega)]; exact k8
  · rw [f2 213 rfl rfl, f2 214 rfl rfl, e3 0, e3 1]; exact k8b
  · rw [f1 208 rfl rfl, f2 208 rfl rfl, e2 5 (by omega), e3 2]; exact k9
  · rw [f1 215 rfl rfl, e2 6 (by omega)]; exact k10
  · rw [f1 125 rfl rfl, f1 126 rfl rfl, f1 127 rfl rfl, f1 128 rfl rfl, e1 7, e2 7 (by omega), e2 8 (by omega), e2 9 (by omega)]; exact k11
  · rw [f1 123 rfl rfl, f1 118 rfl rfl, f1 119 rfl rfl, f1 120 rfl rfl, f1 121 rfl rfl, f1 117 rfl rfl, e1 8, e1 9, e1 10, e1 11, e2 10 (by omega), e2 11 (by omega)]; exact k12
  · rw [f1 101 rfl rfl, f1 102 rfl rfl, f1 103 rfl rfl, e1 12, e1 13, e1 14]; exact k13
  · rw [f1 104 rfl rfl, f1 105 rfl rfl, f1 106 rfl rfl, f1 107 rfl rfl, f1 108 rfl rfl, e1 15, e1 16, e1 17, e1 18, e2 12 (by omega)]; exact k14
  · rw [f1 87 rfl rfl, f1 88 rfl rfl, f1 89 rfl rfl, e1 19, e1 20, e1 21]; exact k15
theorem rkp_4 (h : r_kp N H) {A B : List Nat} (hf : fq A B N M) (hA : krI.all (fun c => ([245] : List Nat).contains c || !A.contains c) = true) (hB : krL.all (fun c => ([] : List Nat).contains c || !B.contains c) = true) (h27 : M.1 232 27 = N.1 232 27) (h21 : M.1 232 21 = N.1 232 21) (h9 : ∀ f, f = 2 ∨ (122 ≤ f ∧ f ≤ 125) → M.2 232 f = N.2 232 f) (e1 : ∀ f, G.1 f = H.1 f) (e2 : ∀ f, f ≠ 0 → G.2.1 f = H.2.1 f) (e3 : ∀ f, G.2.2 f = H.2.2 f) (new : ∀ j, j < 24 → M.1 245 j = G.2.1 0 j) : r_kp M G := by
  have f1 : ∀ c, krI.contains c = true → ([245] : List Nat).contains c = false → M.1 c = N.1 c := fun c h1 h2 => hf.1 c (al_f hA h1 h2)
  have f2 : ∀ c, krL.contains c = true → ([] : List Nat).contains c = false → M.2 c = N.2 c := fun c h1 h2 => hf.2 c (al_f hB h1 h2)
  obtain ⟨k1, k2, k3, k4, k5, k6, k6b, k7, k8, k8b, k9, k10, k11, k12, k13, k14, k15⟩ := h
  refine ⟨?_, ?_, ?_, new, ?_, ?_, ?_, ?_, ?_, ?_, ?_, ?_, ?_, ?_, ?_, ?_, ?_⟩
  · rw [f1 233 rfl rfl, e1 0]; exact k1
  · rw [f1 234 rfl rfl, e1 1]; exact k2
  · rw [f1 244 rfl rfl, e1 2]; exact k3
  · rw [f1 246 rfl rfl, e1 3]; exact k5
  · rw [h27, e1 5]; exact k6
  · rw [f1 252 rfl rfl, e1 4]; exact k6b
  · rw [f1 247 rfl rfl, f1 248 rfl rfl, e1 6, e2 1 (by omega)]; exact k7
  · rw [f2 321 rfl rfl, f2 322 rfl rfl, f2 323 rfl rfl, e2 2 (by omega), e2 3 (by omega), e2 4 (by omega)]; exact k8
  · rw [f2 324 rfl rfl, f2 325 rfl rfl, e3 0, e3 1]; exact k8b
  · rw [h9 2 (by omega), h9 122 (by omega), h9 123 (by omega), h9 124 (by omega), h9 125 (by omega), e2 5 (by omega), e3 2]; exact k9
  · rw [h21, f1 249 rfl rfl, e2 6 (by omega)]; exact k10
  · rw [f1 250 rfl rfl, f1 306 rfl rfl, f1 307 rfl rfl, f2 305 rfl rfl, e1 7, e2 7 (by omega), e2 8 (by omega), e2 9 (by omega)]; exact k11
  · rw [f1 287 rfl rfl, f1 288 rfl rfl, f1 289 rfl rfl, f1 290 rfl rfl, f2 291 rfl rfl, f2 292 rfl rfl, e1 8, e1 9, e1 10, e1 11, e2 10 (by omega), e2 11 (by omega)]; exact k12
  · rw [f1 308 rfl rfl, f1 309 rfl rfl, f1 310 rfl rfl, e1 12, e1 13, e1 14]; exact k13
  · rw [f1 311 rfl rfl, f1 312 rfl rfl, f1 313 rfl rfl, f1 314 rfl rfl, f1 315 rfl rfl, e1 15, e1 16, e1 17, e1 18, e2 12 (by omega)]; exact k14
  · rw [f1 282 rfl rfl, f1 283 rfl rfl, f1 284 rfl rfl, e1 19, e1 20, e1 21]; exact k15
theorem ckp_5 (h : c_kp N b H) {A B : List Nat} (hf : fq A B N M) (hA : kcI.all (fun c => ([67] : List Nat).contains c || !A.contains c) = true) (hB : kcL.all (fun c => ([] : List Nat).contains c || !B.contains c) = true) (e1 : ∀ f, f ≠ 3 → G.1 f = H.1 f) (e2 : ∀ f, G.2.1 f = H.2.1 f) (e3 : ∀ f, G.2.2 f = H.2.2 f) (new : ∀ j, j < 96 → M.1 67 j = nI (G.1 3 j)) : c_kp M b G := by
  have f1 : ∀ c, kcI.contains c = true → ([67] : List Nat).contains c = false → M.1 c = N.1 c := fun c h1 h2 => hf.1 c (al_f hA h1 h2)
  have f2 : ∀ c, kcL.contains c = true → ([] : List Nat).contains c = false → M.2 c = N.2 c := fun c h1 h2 => hf.2 c (al_f hB h1 h2)
  have l1 : M.1 (mz_lv b) = N.1 (mz_lv b) := by rcases lv_b b with w | w <;> rw [w] <;> exact f1 _ rfl rfl
  have l2 : M.1 (mz_lv b + 1) = N.1 (mz_lv b + 1) := by rcases lv_b b with w | w <;> rw [w] <;> exact f1 _ rfl rfl
  obtain ⟨k1, k2, k3, k4, k5, k6, k6b, k7, k8, k8b, k9, k10, k11, k12, k13, k14, k15⟩ := h
  refine ⟨?_, ?_, ?_, ?_, new, ?_, ?_, ?_, ?_, ?_, ?_, ?_, ?_, ?_, ?_, ?_, ?_⟩
  · rw [f1 3 rfl rfl, e1 0 (by omega)]; exact k1
  · rw [f1 37 rfl rfl, e1 1 (by omega)]; exact k2
  · rw [f1 40 rfl rfl, e1 2 (by omega)]; exact k3
  · rw [f1 66 rfl rfl, e2 0]; exact k4
  · rw [l1, e1 5 (by omega)]; exact k6
  · rw [l2, e1 5 (by omega), e1 4 (by omega)]; exact k6b
  · rw [f1 62 rfl rfl, f1 63 rfl rfl, e1 6 (by omega), e2 1]; exact k7
  · rw [f1 210 rfl rfl, f1 211 rfl rfl, f1 212 rfl rfl, e2 2, e2 3, e2 4]; exact k8
  · rw [f2 213 rfl rfl, f2 214 rfl rfl, e3 0, e3 1]; exact k8b
  · rw [f1 208 rfl rfl, f2 208 rfl rfl, e2 5, e3 2]; exact k9
  · rw [f1 215 rfl rfl, e2 6]; exact k10
  · rw [f1 125 rfl rfl, f1 126 rfl rfl, f1 127 rfl rfl, f1 128 rfl rfl, e1 7 (by omega), e2 7, e2 8, e2 9]; exact k11
  · rw [f1 123 rfl rfl, f1 118 rfl rfl, f1 119 rfl rfl, f1 120 rfl rfl, f1 121 rfl rfl, f1 117 rfl rfl, e1 8 (by omega), e1 9 (by omega), e1 10 (by omega), e1 11 (by omega), e2 10, e2 11]; exact k12
  · rw [f1 101 rfl rfl, f1 102 rfl rfl, f1 103 rfl rfl, e1 12 (by omega), e1 13 (by omega), e1 14 (by omega)]; exact k13
  · rw [f1 104 rfl rfl, f1 105 rfl rfl, f1 106 rfl rfl, f1 107 rfl rfl, f1 108 rfl rfl, e1 15 (by omega), e1 16 (by omega), e1 17 (by omega), e1 18 (by omega), e2 12]; exact k14
  · rw [f1 87 rfl rfl, f1 88 rfl rfl, f1 89 rfl rfl, e1 19 (by omega), e1 20 (by omega), e1 21 (by omega)]; exact k15
theorem rkp_5 (h : r_kp N H) {A B : List Nat} (hf : fq A B N M) (hA : krI.all (fun c => ([246] : List Nat).contains c || !A.contains c) = true) (hB : krL.all (fun c => ([] : List Nat).contains c || !B.contains c) = true) (h27 : M.1 232 27 = N.1 232 27) (h21 : M.1 232 21 = N.1 232 21) (h9 : ∀ f, f = 2 ∨ (122 ≤ f ∧ f ≤ 125) → M.2 232 f = N.2 232 f) (e1 : ∀ f, f ≠ 3 → G.1 f = H.1 f) (e2 : ∀ f, G.2.1 f = H.2.1 f) (e3 : ∀ f, G.2.2 f = H.2.2 f) (new : ∀ j, j < 96 → M.1 246 j = nI (G.1 3 j)) : r_kp M G := by
  have f1 : ∀ c, krI.contains c = true → ([246] : List Nat).contains c = false → M.1 c = N.1 c := fun c h1 h2 => hf.1 c (al_f hA h1 h2)
  have f2 : ∀ c, krL.contains c = true → ([] : List Nat).contains c = false → M.2 c = N.2 c := fun c h1 h2 => hf.2 c (al_f hB h1 h2)
  obtain ⟨k1, k2, k3, k4, k5, k6, k6b, k7, k8, k8b, k9, k10, k11, k12, k13, k14, k15⟩ := h
  refine ⟨?_, ?_, ?_, ?_, new, ?_, ?_, ?_, ?_, ?_, ?_, ?_, ?_, ?_, ?_, ?_, ?_⟩
  · rw [f1 233 rfl rfl, e1 0 (by omega)]; exact k1
  · rw [f1 234 rfl rfl, e1 1 (by omega)]; exact k2
  · rw [f1 244 rfl rfl, e1 2 (by omega)]; exact k3
  · rw [f1 245 rfl rfl, e2 0]; exact k4
  · rw [h27, e1 5 (by omega)]; exact k6
  · rw [f1 252 rfl rfl, e1 4 (by omega)]; exact k6b
  · rw [f1 247 rfl rfl, f1 248 rfl rfl, e1 6 (by omega), e2 1]; exact k7
  · rw [f2 321 rfl rfl, f2 322 rfl rfl, f2 323 rfl rfl, e2 2, e2 3, e2 4]; exact k8
  · rw [f2 324 rfl rfl, f2 325 rfl rfl, e3 0, e3 1]; exact k8b
  · rw [h9 2 (by omega), h9 122 (by omega), h9 123 (by omega), h9 124 (by omega), h9 125 (by omega), e2 5, e3 2]; exact k9
  · rw [h21, f1 249 rfl rfl, e2 6]; exact k10
  · rw [f1 250 rfl rfl, f1 306 rfl rfl, f1 307 rfl rfl, f2 305 rfl rfl, e1 7 (by omega), e2 7, e2 8, e2 9]; exact k11
  · rw [f1 287 rfl rfl, f1 288 rfl rfl, f1 289 rfl rfl, f1 290 rfl rfl, f2 291 rfl rfl, f2 292 rfl rfl, e1 8 (by omega), e1 9 (by omega), e1 10 (by omega), e1 11 (by omega), e2 10, e2 11]; exact k12
  · rw [f1 308 rfl rfl, f1 309 rfl rfl, f1 310 rfl rfl, e1 12 (by omega), e1 13 (by omega), e1 14 (by omega)]; exact k13
  · rw [f1 311 rfl rfl, f1 312 rfl rfl, f1 313 rfl rfl, f1 314 rfl rfl, f1 315 rfl rfl, e1 15 (by omega), e1 16 (by omega), e1 17 (by omega), e1 18 (by omega), e2 12]; exact k14
  · rw [f1 282 rfl rfl, f1 283 rfl rfl, f1 284 rfl rfl, e1 19 (by omega), e1 20 (by omega), e1 21 (by omega)]; exact k15
theorem ckp_7 (h : c_kp N b H) {A B : List Nat} (hf : fq A B N M) (hA : kcI.all (fun c => ([62, 63] : List Nat).contains c || !A.contains c) = true) (hB : kcL.all (fun c => ([] : List Nat).contains c || !B.contains c) = true) (e1 : ∀ f, f ≠ 6 → G.1 f = H.1 f) (e2 : ∀ f, f ≠ 1 → G.2.1 f = H.2.1 f) (e3 : ∀ f, G.2.2 f = H.2.2 f) (new : ∀ j, j < 11 → M.1 62 j = G.2.1 1 j ∧ M.1 63 j = nI (G.1 6 j)) : c_kp M b G := by
  have f1 : ∀ c, kcI.contains c = true → ([62, 63] : List Nat).contains c = false → M.1 c = N.1 c := fun c h1 h2 => hf.1 c (al_f hA h1 h2)
  have f2 : ∀ c, kcL.contains c = true → ([] : List Nat).contains c = false → M.2 c = N.2 c := fun c h1 h2 => hf.2 c (al_f hB h1 h2)
  have l1 : M.1 (mz_lv b) = N.1 (mz_lv b) := by rcases lv_b b with w | w <;> rw [w] <;> exact f1 _ rfl rfl
  have l2 : M.1 (mz_lv b + 1) = N.1 (mz_lv b + 1) := by rcases lv_b b with w | w <;> rw [w] <;> exact f1 _ rfl rfl
  obtain ⟨k1, k2, k3, k4, k5, k6, k6b, k7, k8, k8b, k9, k10, k11, k12, k13, k14, k15⟩ := h
  refine ⟨?_, ?_, ?_, ?_, ?_, ?_, ?_, new, ?_, ?_, ?_, ?_, ?_, ?_, ?_, ?_, ?_⟩
  · rw [f1 3 rfl rfl, e1 0 (by omega)]; exact k1
  · rw [f1 37 rfl rfl, e1 1 (by omega)]; exact k2
  · rw [f1 40 rfl rfl, e1 2 (by omega)]; exact k3
  · rw [f1 66 rfl rfl, e2 0 (by omega)]; exact k4
  · rw [f1 67 rfl rfl, e1 3 (by omega)]; exact k5
  · rw [l1, e1 5 (by omega)]; exact k6
  · rw [l2, e1 5 (by omega), e1 4 (by omega)]; exact k6b
  · rw [f1 210 rfl rfl, f1 211 rfl rfl, f1 212 rfl rfl, e2 2 (by omega), e2 3 (by omega), e2 4 (by omega)]; exact k8
  · rw [f2 213 rfl rfl, f2 214 rfl rfl, e3 0, e3 1]; exact k8b
  · rw [f1 208 rfl rfl, f2 208 rfl rfl, e2 5 (by omega), e3 2]; exact k9
  · rw [f1 215 rfl rfl, e2 6 (by omega)]; exact k10
  · rw [f1 125 rfl rfl, f1 126 rfl rfl, f1 127 rfl rfl, f1 128 rfl rfl, e1 7 (by omega), e2 7 (by omega), e2 8 (by omega), e2 9 (by omega)]; exact k11
  · rw [f1 123 rfl rfl, f1 118 rfl rfl, f1 119 rfl rfl, f1 120 rfl rfl, f1 121 rfl rfl, f1 117 rfl rfl, e1 8 (by omega), e1 9 (by omega), e1 10 (by omega), e1 11 (by omega), e2 10 (by omega), e2 11 (by omega)]; exact k12
  · rw [f1 101 rfl rfl, f1 102 rfl rfl, f1 103 rfl rfl, e1 12 (by omega), e1 13 (by omega), e1 14 (by omega)]; exact k13
  · rw [f1 104 rfl rfl, f1 105 rfl rfl, f1 106 rfl rfl, f1 107 rfl rfl, f1 108 rfl rfl, e1 15 (by omega), e1 16 (by omega), e1 17 (by omega), e1 18 (by omega), e2 12 (by omega)]; exact k14
  · rw [f1 87 rfl rfl, f1 88 rfl rfl, f1 89 rfl rfl, e1 19 (by omega), e1 20 (by omega), e1 21 (by omega)]; exact k15
theorem rkp_7 (h : r_kp N H) {A B : List Nat} (hf : fq A B N M) (hA : krI.all (fun c => ([247, 248] : List Nat).contains c || !A.contains c) = true) (hB : krL.all (fun c => ([] : List Nat).contains c || !B.contains c) = true) (h27 : M.1 232 27 = N.1 232 27) (h21 : M.1 232 21 = N.1 232 21) (h9 : ∀ f, f = 2 ∨ (122 ≤ f ∧ f ≤ 125) → M.2 232 f = N.2 232 f) (e1 : ∀ f, f ≠ 6 → G.1 f = H.1 f) (e2 : ∀ f, f ≠ 1 → G.2.1 f = H.2.1 f) (e3 : ∀ f, G.2.2 f = H.2.2 f) (new : ∀ j, j < 11 → M.1 247 j = G.2.1 1 j ∧ M.1 248 j = nI (G.1 6 j)) : r_kp M G := by
  have f1 : ∀ c, krI.contains c = true → ([247, 248] : List Nat).contains c = false → M.1 c = N.1 c := fun c h1 h2 => hf.1 c (al_f hA h1 h2)
  have f2 : ∀ c, krL.contains c = true → ([] : List Nat).contains c = false → M.2 c = N.2 c := fun c h1 h2 => hf.2 c (al_f hB h1 h2)
  obtain ⟨k1, k2, k3, k4, k5, k6, k6b, k7, k8, k8b, k9, k10, k11, k12, k13, k14, k15⟩ := h
  refine ⟨?_, ?_, ?_, ?_, ?_, ?_, ?_, new, ?_, ?_, ?_, ?_, ?_, ?_, ?_, ?_, ?_⟩
  · rw [f1 233 rfl rfl, e1 0 (by omega)]; exact k1
  · rw [f1 234 rfl rfl, e1 1 (by omega)]; exact k2
  · rw [f1 244 rfl rfl, e1 2 (by omega)]; exact k3
  · rw [f1 245 rfl rfl, e2 0 (by omega)]; exact k4
  · rw [f1 246 rfl rfl, e1 3 (by omega)]; exact k5
  · rw [h27, e1 5 (by omega)]; exact k6
  · rw [f1 252 rfl rfl, e1 4 (by omega)]; exact k6b
  · rw [f2 321 rfl rfl, f2 322 rfl rfl, f2 323 rfl rfl, e2 2 (by omega), e2 3 (by omega), e2 4 (by omega)]; exact k8
  · rw [f2 324 rfl rfl, f2 325 rfl rfl, e3 0, e3 1]; exact k8b
  · rw [h9 2 (by omega), h9 122 (by omega), h9 123 (by omega), h9 124 (by omega), h9 125 (by omega), e2 5 (by omega), e3 2]; exact k9
  · rw [h21, f1 249 rfl rfl, e2 6 (by omega)]; exact k10
  · rw [f1 250 rfl rfl, f1 306 rfl rfl, f1 307 rfl rfl, f2 305 rfl rfl, e1 7 (by omega), e2 7 (by omega), e2 8 (by omega), e2 9 (by omega)]; exact k11
  · rw [f1 287 rfl rfl, f1 288 rfl rfl, f1 289 rfl rfl, f1 290 rfl rfl, f2 291 rfl rfl, f2 292 rfl rfl, e1 8 (by omega), e1 9 (by omega), e1 10 (by omega), e1 11 (by omega), e2 10 (by omega), e2 11 (by omega)]; exact k12
  · rw [f1 308 rfl rfl, f1 309 rfl rfl, f1 310 rfl rfl, e1 12 (by omega), e1 13 (by omega), e1 14 (by omega)]; exact k13
  · rw [f1 311 rfl rfl, f1 312 rfl rfl, f1 313 rfl rfl, f1 314 rfl rfl, f1 315 rfl rfl, e1 15 (by omega), e1 16 (by omega), e1 17 (by omega), e1 18 (by omega), e2 12 (by omega)]; exact k14
  · rw [f1 282 rfl rfl, f1 283 rfl rfl, f1 284 rfl rfl, e1 19 (by omega), e1 20 (by omega), e1 21 (by omega)]; exact k15
theorem ckp_8 (h : c_kp N b H) {A B : List Nat} (hf : fq A B N M) (hA : kcI.all (fun c => ([210, 211, 212] : List Nat).contains c || !A.contains c) = true) (hB : kcL.all (fun c => ([] : List Nat).contains c || !B.contains c) = true) (e1 : ∀ f, G.1 f = H.1 f) (e2 : ∀ f, f ≠ 2 → f ≠ 3 → f ≠ 4 → G.2.1 f = H.2.1 f) (e3 : ∀ f, G.2.2 f = H.2.2 f) (new : ∀ j, j < 11 → M.1 210 j = G.2.1 2 j ∧ M.1 211 j = G.2.1 3 j ∧ M.1 212 j = G.2.1 4 j) : c_kp M b G := by
  have f1 : ∀ c, kcI.contains c = true → ([210, 211, 212] : List Nat).contains c = false → M.1 c = N.1 c := fun c h1 h2 => hf.1 c (al_f hA h1 h2)
  have f2 : ∀ c, kcL.contains c = true → ([] : List Nat).contains c = false → M.2 c = N.2 c := fun c h1 h2 => hf.2 c (al_f hB h1 h2)
  have l1 : M.1 (mz_lv b) = N.1 (mz_lv b) := by rcases lv_b b with w | w <;> rw [w] <;> exact f1 _ rfl rfl
  have l2 : M.1 (mz_lv b + 1) = N.1 (mz_lv b + 1) := by rcases lv_b b with w | w <;> rw [w] <;> exact f1 _ rfl rfl
  obtain ⟨k1, k2, k3, k4, k5, k6, k6b, k7, k8, k8b, k9, k10, k11, k12, k13, k14, k15⟩ := h
  refine ⟨?_, ?_, ?_, ?_, ?_, ?_, ?_, ?_, new, ?_, ?_, ?_, ?_, ?_, ?_, ?_, ?_⟩
  · rw [f1 3 rfl rfl, e1 0]; exact k1
  · rw [f1 37 rfl rfl, e1 1]; exact k2
  · rw [f1 40 rfl rfl, e1 2]; exact k3
  · rw [f1 66 rfl rfl, e2 0 (by omega) (by omega) (by omega)]; exact k4
  · rw [f1 67 rfl rfl, e1 3]; exact k5
  · rw [l1, e1 5]; exact k6
  · rw [l2, e1 5, e1 4]; exact k6b
  · rw [f1 62 rfl rfl, f1 63 rfl rfl, e1 6, e2 1 (by omega) (by omega) (by omega)]; exact k7
  · rw [f2 213 rfl rfl, f2 214 rfl rfl, e3 0, e3 1]; exact k8b
  · rw [f1 208 rfl rfl, f2 208 rfl rfl, e2 5 (by omega) (by omega) (by omega), e3 2]; exact k9
  · rw [f1 215 rfl rfl, e2 6 (by omega) (by omega) (by omega)]; exact k10
  · rw [f1 125 rfl rfl, f1 126 rfl rfl, f1 127 rfl rfl, f1 128 rfl rfl, e1 7, e2 7 (by omega) (by omega) (by omega), e2 8 (by omega) (by omega) (by omega), e2 9 (by omega) (by omega) (by omega)]; exact k11
  · rw [f1 123 rfl rfl, f1 118 rfl rfl, f1 119 rfl rfl, f1 120 rfl rfl, f1 121 rfl rfl, f1 117 rfl rfl, e1 8, e1 9, e1 10, e1 11, e2 10 (by omega) (by omega) (by omega), e2 11 (by omega) (by omega) (by omega)]; exact k12
  · rw [f1 101 rfl rfl, f1 102 rfl rfl, f1 103 rfl rfl, e1 12, e1 13, e1 14]; exact k13
  · rw [f1 104 rfl rfl, f1 105 rfl rfl, f1 106 rfl rfl, f1 107 rfl rfl, f1 108 rfl rfl, e1 15, e1 16, e1 17, e1 18, e2 12 (by omega) (by omega) (by omega)]; exact k14
  · rw [f1 87 rfl rfl, f1 88 rfl rfl, f1 89 rfl rfl, e1 19, e1 20, e1 21]; exact k15
theorem rkp_8 (h : r_kp N H) {A B : List Nat} (hf : fq A B N M) (hA : krI.all (fun c => ([] : List Nat).contains c || !A.contains c) = true) (hB : krL.all (fun c => ([321, 322, 323] : List Nat).contains c || !B.contains c) = true) (h27 : M.1 232 27 = N.1 232 27) (h21 : M.1 232 21 = N.1 232 21) (h9 : ∀ f, f = 2 ∨ (122 ≤ f ∧ f ≤ 125) → M.2 232 f = N.2 232 f) (e1 : ∀ f, G.1 f = H.1 f) (e2 : ∀ f, f ≠ 2 → f ≠ 3 → f ≠ 4 → G.2.1 f = H.2.1 f) (e3 : ∀ f, G.2.2 f = H.2.2 f) (new : ∀ j, j < 11 → M.2 321 j = (G.2.1 2 j).toInt64 ∧ M.2 322 j = (G.2.1 3 j).toInt64 ∧ M.2 323 j = (G.2.1 4 j).toInt64) : r_kp M G := by
  have f1 : ∀ c, krI.contains c = true → ([] : List Nat).contains c = false → M.1 c = N.1 c := fun c h1 h2 => hf.1 c (al_f hA h1 h2)
  have f2 : ∀ c, krL.contains c = true → ([321, 322, 323] : List Nat).contains c = false → M.2 c = N.2 c := fun c h1 h2 => hf.2 c (al_f hB h1 h2)
  obtain ⟨k1, k2, k3, k4, k5, k6, k6b, k7, k8, k8b, k9, k10, k11, k12, k13, k14, k15⟩ := h
  refine ⟨?_, ?_, ?_, ?_, ?_, ?_, ?_, ?_, new, ?_, ?_, ?_, ?_, ?_, ?_, ?_, ?_⟩
  · rw [f1 233 rfl rfl, e1 0]; exact k1
  · rw [f1 234 rfl rfl, e1 1]; exact k2
  · rw [f1 244 rfl rfl, e1 2]; exact k3
  · rw [f1 245 rfl rfl, e2 0 (by omega) (by omega) (by omega)]; exact k4
  · rw [f1 246 rfl rfl, e1 3]; exact k5
  · rw [h27, e1 5]; exact k6
  · rw [f1 252 rfl rfl, e1 4]; exact k6b
  · rw [f1 247 rfl rfl, f1 248 rfl rfl, e1 6, e2 1 (by omega) (by omega) (by omega)]; exact k7
  · rw [f2 324 rfl rfl, f2 325 rfl rfl, e3 0, e3 1]; exact k8b
  · rw [h9 2 (by omega), h9 122 (by omega), h9 123 (by omega), h9 124 (by omega), h9 125 (by omega), e2 5 (by omega) (by omega) (by omega), e3 2]; exact k9
  · rw [h21, f1 249 rfl rfl, e2 6 (by omega) (by omega) (by omega)]; exact k10
  · rw [f1 250 rfl rfl, f1 306 rfl rfl, f1 307 rfl rfl, f2 305 rfl rfl, e1 7, e2 7 (by omega) (by omega) (by omega), e2 8 (by omega) (by omega) (by omega), e2 9 (by omega) (by omega) (by omega)]; exact k11
  · rw [f1 287 rfl rfl, f1 288 rfl rfl, f1 289 rfl rfl, f1 290 rfl rfl, f2 291 rfl rfl, f2 292 rfl rfl, e1 8, e1 9, e1 10, e1 11, e2 10 (by omega) (by omega) (by omega), e2 11 (by omega) (by omega) (by omega)]; exact k12
  · rw [f1 308 rfl rfl, f1 309 rfl rfl, f1 310 rfl rfl, e1 12, e1 13, e1 14]; exact k13
  · rw [f1 311 rfl rfl, f1 312 rfl rfl, f1 313 rfl rfl, f1 314 rfl rfl, f1 315 rfl rfl, e1 15, e1 16, e1 17, e1 18, e2 12 (by omega) (by omega) (by omega)]; exact k14
  · rw [f1 282 rfl rfl, f1 283 rfl rfl, f1 284 rfl rfl, e1 19, e1 20, e1 21]; exact k15
theorem ckp_8b (h : c_kp N b H) {A B : List Nat} (hf : fq A B N M) (hA : kcI.all (fun c => ([] : List Nat).contains c || !A.contains c) = true) (hB : kcL.all (fun c => ([213, 214] : List Nat).contains c || !B.contains c) = true) (e1 : ∀ f, G.1 f = H.1 f) (e2 : ∀ f, G.2.1 f = H.2.1 f) (e3 : ∀ f, f ≠ 0 → f ≠ 1 → G.2.2 f = H.2.2 f) (new : ∀ j, j < 10 → M.2 213 j = G.2.2 0 j ∧ M.2 214 j = G.2.2 1 j) : c_kp M b G := by
  have f1 : ∀ c, kcI.contains c = true → ([] : List Nat).contains c = false → M.1 c = N.1 c := fun c h1 h2 => hf.1 c (al_f hA h1 h2)
  have f2 : ∀ c, kcL.contains c = true → ([213, 214] : List Nat).contains c = false → M.2 c = N.2 c := fun c h1 h2 => hf.2 c (al_f hB h1 h2)
  have l1 : M.1 (mz_lv b) = N.1 (mz_lv b) := by rcases lv_b b with w | w <;> rw [w] <;> exact f1 _ rfl rfl
  have l2 : M.1 (mz_lv b + 1) = N.1 (mz_lv b + 1) := by rcases lv_b b with w | w <;> rw [w] <;> exact f1 _ rfl rfl
  obtain ⟨k1, k2, k3, k4, k5, k6, k6b, k7, k8, k8b, k9, k10, k11, k12, k13, k14, k15⟩ := h
  refine ⟨?_, ?_, ?_, ?_, ?_, ?_, ?_, ?_, ?_, new, ?_, ?_, ?_, ?_, ?_, ?_, ?_⟩
  · rw [f1 3 rfl rfl, e1 0]; exact k1
  · rw [f1 37 rfl rfl, e1 1]; exact k2
  · rw [f1 40 rfl rfl, e1 2]; exact k3
  · rw [f1 66 rfl rfl, e2 0]; exact k4
  · rw [f1 67 rfl rfl, e1 3]; exact k5
  · rw [l1, e1 5]; exact k6
  · rw [l2, e1 5, e1 4]; exact k6b
  · rw [f1 62 rfl rfl, f1 63 rfl rfl, e1 6, e2 1]; exact k7
  · rw [f1 210 rfl rfl, f1 211 rfl rfl, f1 212 rfl rfl, e2 2, e2 3, e2 4]; exact k8
  · rw [f1 208 rfl rfl, f2 208 rfl rfl, e2 5, e3 2 (by omega) (by omega)]; exact k9
  · rw [f1 215 rfl rfl, e2 6]; exact k10
  · rw [f1 125 rfl rfl, f1 126 rfl rfl, f1 127 rfl rfl, f1 128 rfl rfl, e1 7, e2 7, e2 8, e2 9]; exact k11
  · rw [f1 123 rfl rfl, f1 118 rfl rfl, f1 119 rfl rfl, f1 120 rfl rfl, f1 121 rfl rfl, f1 117 rfl rfl, e1 8, e1 9, e1 10, e1 11, e2 10, e2 11]; exact k12
  · rw [f1 101 rfl rfl, f1 102 rfl rfl, f1 103 rfl rfl, e1 12, e1 13, e1 14]; exact k13
  · rw [f1 104 rfl rfl, f1 105 rfl rfl, f1 106 rfl rfl, f1 107 rfl rfl, f1 108 rfl rfl, e1 15, e1 16, e1 17, e1 18, e2 12]; exact k14
  · rw [f1 87 rfl rfl, f1 88 rfl rfl, f1 89 rfl rfl, e1 19, e1 20, e1 21]; exact k15
theorem rkp_8b (h : r_kp N H) {A B : List Nat} (hf : fq A B N M) (hA : krI.all (fun c => ([] : List Nat).contains c || !A.contains c) = true) (hB : krL.all (fun c => ([324, 325] : List Nat).contains c || !B.contains c) = true) (h27 : M.1 232 27 = N.1 232 27) (h21 : M.1 232 21 = N.1 232 21) (h9 : ∀ f, f = 2 ∨ (122 ≤ f ∧ f ≤ 125) → M.2 232 f = N.2 232 f) (e1 : ∀ f, G.1 f = H.1 f) (e2 : ∀ f, G.2.1 f = H.2.1 f) (e3 : ∀ f, f ≠ 0 → f ≠ 1 → G.2.2 f = H.2.2 f) (new : ∀ j, j < 10 → M.2 324 j = G.2.2 0 j ∧ M.2 325 j = G.2.2 1 j) : r_kp M G := by
  have f1 : ∀ c, krI.contains c = true → ([] : List Nat).contains c = false → M.1 c = N.1 c := fun c h1 h2 => hf.1 c (al_f hA h1 h2)
  have f2 : ∀ c, krL.contains c = true → ([324, 325] : List Nat).contains c = false → M.2 c = N.2 c := fun c h1 h2 => hf.2 c (al_f hB h1 h2)
  obtain ⟨k1, k2, k3, k4, k5, k6, k6b, k7, k8, k8b, k9, k10, k11, k12, k13, k14, k15⟩ := h
  refine ⟨?_, ?_, ?_, ?_, ?_, ?_, ?_, ?_, ?_, new, ?_, ?_, ?_, ?_, ?_, ?_, ?_⟩
  · rw [f1 233 rfl rfl, e1 0]; exact k1
  · rw [f1 234 rfl rfl, e1 1]; exact k2
  · rw [f1 244 rfl rfl, e1 2]; exact k3
  · rw [f1 245 rfl rfl, e2 0]; exact k4
  · rw [f1 246 rfl rfl, e1 3]; exact k5
  · rw [h27, e1 5]; exact k6
  · rw [f1 252 rfl rfl, e1 4]; exact k6b
  · rw [f1 247 rfl rfl, f1 248 rfl rfl, e1 6, e2 1]; exact k7
  · rw [f2 321 rfl rfl, f2 322 rfl rfl, f2 323 rfl rfl, e2 2, e2 3, e2 4]; exact k8
  · rw [h9 2 (by omega), h9 122 (by omega), h9 123 (by omega), h9 124 (by omega), h9 125 (by omega), e2 5, e3 2 (by omega) (by omega)]; exact k9
  · rw [h21, f1 249 rfl rfl, e2 6]; exact k10
  · rw [f1 250 rfl rfl, f1 306 rfl rfl, f1 307 rfl rfl, f2 305 rfl rfl, e1 7, e2 7, e2 8, e2 9]; exact k11
  · rw [f1 287 rfl rfl, f1 288 rfl rfl, f1 289 rfl rfl, f1 290 rfl rfl, f2 291 rfl rfl, f2 292 rfl rfl, e1 8, e1 9, e1 10, e1 11, e2 10, e2 11]; exact k12
  · rw [f1 308 rfl rfl, f1 309 rfl rfl, f1 310 rfl rfl, e1 12, e1 13, e1 14]; exact k13
  · rw [f1 311 rfl rfl, f1 312 rfl rfl, f1 313 rfl rfl, f1 314 rfl rfl, f1 315 rfl rfl, e1 15, e1 16, e1 17, e1 18, e2 12]; exact k14
  · rw [f1 282 rfl rfl, f1 283 rfl rfl, f1 284 rfl rfl, e1 19, e1 20, e1 21]; exact k15
theorem ckp_9 (h : c_kp N b H) {A B : List Nat} (hf : fq A B N M) (hA : kcI.all (fun c => ([208] : List Nat).contains c || !A.contains c) = true) (hB : kcL.all (fun c => ([208] : List Nat).contains c || !B.contains c) = true) (e1 : ∀ f, G.1 f = H.1 f) (e2 : ∀ f, f ≠ 5 → G.2.1 f = H.2.1 f) (e3 : ∀ f, f ≠ 2 → G.2.2 f = H.2.2 f) (new : M.1 208 0 = G.2.1 5 0 ∧ M.2 208 1 = G.2.2 2 0 ∧ M.2 208 2 = G.2.2 2 1 ∧ M.1 208 3 = G.2.1 5 1 ∧ M.1 208 4 = G.2.1 5 2) : c_kp M b G := by
  have f1 : ∀ c, kcI.contains c = true → ([208] : List Nat).contains c = false → M.1 c = N.1 c := fun c h1 h2 => hf.1 c (al_f hA h1 h2)
  have f2 : ∀ c, kcL.contains c = true → ([208] : List Nat).contains c = false → M.2 c = N.2 c := fun c h1 h2 => hf.2 c (al_f hB h1 h2)
  have l1 : M.1 (mz_lv b) = N.1 (mz_lv b) := by rcases lv_b b with w | w <;> rw [w] <;> exact f1 _ rfl rfl
  have l2 : M.1 (mz_lv b + 1) = N.1 (mz_lv b + 1) := by rcases lv_b b with w | w <;> rw [w] <;> exact f1 _ rfl rfl
  obtain ⟨k1, k2, k3, k4, k5, k6, k6b, k7, k8, k8b, k9, k10, k11, k12, k13, k14, k15⟩ := h
  refine ⟨?_, ?_, ?_, ?_, ?_, ?_, ?_, ?_, ?_, ?_, new, ?_, ?_, ?_, ?_, ?_, ?_⟩
  · rw [f1 3 rfl rfl, e1 0]; exact k1
  · rw [f1 37 rfl rfl, e1 1]; exact k2
  · rw [f1 40 rfl rfl, e1 2]; exact k3
  · rw [f1 66 rfl rfl, e2 0 (by omega)]; exact k4
  · rw [f1 67 rfl rfl, e1 3]; exact k5
  · rw [l1, e1 5]; exact k6
  · rw [l2, e1 5, e1 4]; exact k6b
  · rw [f1 62 rfl rfl, f1 63 rfl rfl, e1 6, e2 1 (by omega)]; exact k7
  · rw [f1 210 rfl rfl, f1 211 rfl rfl, f1 212 rfl rfl, e2 2 (by omega), e2 3 (by omega), e2 4 (by omega)]; exact k8
  · rw [f2 213 rfl rfl, f2 214 rfl rfl, e3 0 (by omega), e3 1 (by omega)]; exact k8b
  · rw [f1 215 rfl rfl, e2 6 (by omega)]; exact k10
  · rw [f1 125 rfl rfl, f1 126 rfl rfl, f1 127 rfl rfl, f1 128 rfl rfl, e1 7, e2 7 (by omega), e2 8 (by omega), e2 9 (by omega)]; exact k11
  · rw [f1 123 rfl rfl, f1 118 rfl rfl, f1 119 rfl rfl, f1 120 rfl rfl, f1 121 rfl rfl, f1 117 rfl rfl, e1 8, e1 9, e1 10, e1 11, e2 10 (by omega), e2 11 (by omega)]; exact k12
  · rw [f1 101 rfl rfl, f1 102 rfl rfl, f1 103 rfl rfl, e1 12, e1 13, e1 14]; exact k13
  · rw [f1 104 rfl rfl, f1 105 rfl rfl, f1 106 rfl rfl, f1 107 rfl rfl, f1 108 rfl rfl, e1 15, e1 16, e1 17, e1 18, e2 12 (by omega)]; exact k14
  · rw [f1 87 rfl rfl, f1 88 rfl rfl, f1 89 rfl rfl, e1 19, e1 20, e1 21]; exact k15
theorem rkp_9 (h : r_kp N H) {A B : List Nat} (hf : fq A B N M) (hA : krI.all (fun c => ([] : List Nat).contains c || !A.contains c) = true) (hB : krL.all (fun c => ([] : List Nat).contains c || !B.contains c) = true) (h27 : M.1 232 27 = N.1 232 27) (h21 : M.1 232 21 = N.1 232 21) (e1 : ∀ f, G.1 f = H.1 f) (e2 : ∀ f, f ≠ 5 → G.2.1 f = H.2.1 f) (e3 : ∀ f, f ≠ 2 → G.2.2 f = H.2.2 f) (new : M.2 232 2 = (G.2.1 5 0).toInt64 ∧ M.2 232 122 = G.2.2 2 0 ∧ M.2 232 123 = G.2.2 2 1 ∧ M.2 232 124 = (G.2.1 5 1).toInt64 ∧ M.2 232 125 = (G.2.1 5 2).toInt64) : r_kp M G := by
  have f1 : ∀ c, krI.contains c = true → ([] : List Nat).contains c = false → M.1 c = N.1 c := fun c h1 h2 => hf.1 c (al_f hA h1 h2)
  have f2 : ∀ c, krL.contains c = true → ([] : List Nat).contains c = false → M.2 c = N.2 c := fun c h1 h2 => hf.2 c (al_f hB h1 h2)
  obtain ⟨k1, k2, k3, k4, k5, k6, k6b, k7, k8, k8b, k9, k10, k11, k12, k13, k14, k15⟩ := h
  refine ⟨?_, ?_, ?_, ?_, ?_, ?_, ?_, ?_, ?_, ?_, new, ?_, ?_, ?_, ?_, ?_, ?_⟩
  · rw [f1 233 rfl rfl, e1 0]; exact k1
  · rw [f1 234 rfl rfl, e1 1]; exact k2
  · rw [f1 244 rfl rfl, e1 2]; exact k3
  · rw [f1 245 rfl rfl, e2 0 (by omega)]; exact k4
  · rw [f1 246 rfl rfl, e1 3]; exact k5
  · rw [h27, e1 5]; exact k6
  · rw [f1 252 rfl rfl, e1 4]; exact k6b
  · rw [f1 247 rfl rfl, f1 248 rfl rfl, e1 6, e2 1 (by omega)]; exact k7
  · rw [f2 321 rfl rfl, f2 322 rfl rfl, f2 323 rfl rfl, e2 2 (by omega), e2 3 (by omega), e2 4 (by omega)]; exact k8
  · rw [f2 324 rfl rfl, f2 325 rfl rfl, e3 0 (by omega), e3 1 (by omega)]; exact k8b
  · rw [h21, f1 249 rfl rfl, e2 6 (by omega)]; exact k10
  · rw [f1 250 rfl rfl, f1 306 rfl rfl, f1 307 rfl rfl, f2 305 rfl rfl, e1 7, e2 7 (by omega), e2 8 (by omega), e2 9 (by omega)]; exact k11
  · rw [f1 287 rfl rfl, f1 288 rfl rfl, f1 289 rfl rfl, f1 290 rfl rfl, f2 291 rfl rfl, f2 292 rfl rfl, e1 8, e1 9, e1 10, e1 11, e2 10 (by omega), e2 11 (by omega)]; exact k12
  · rw [f1 308 rfl rfl, f1 309 rfl rfl, f1 310 rfl rfl, e1 12, e1 13, e1 14]; exact k13
  · rw [f1 311 rfl rfl, f1 312 rfl rfl, f1 313 rfl rfl, f1 314 rfl rfl, f1 315 rfl rfl, e1 15, e1 16, e1 17, e1 18, e2 12 (by omega)]; exact k14
  · rw [f1 282 rfl rfl, f1 283 rfl rfl, f1 284 rfl rfl, e1 19, e1 20, e1 21]; exact k15
theorem ckp_10 (h : c_kp N b H) {A B : List Nat} (hf : fq A B N M) (hA : kcI.all (fun c => ([215] : List Nat).contains c || !A.contains c) = true) (hB : kcL.all (fun c => ([] : List Nat).contains c || !B.contains c) = true) (e1 : ∀ f, G.1 f = H.1 f) (e2 : ∀ f, f ≠ 6 → G.2.1 f = H.2.1 f) (e3 : ∀ f, G.2.2 f = H.2.2 f) (new : ∀ j, j < 4 → M.1 215 j = G.2.1 6 j) : c_kp M b G := by
  have f1 : ∀ c, kcI.contains c = true → ([215] : List Nat).contains c = false → M.1 c = N.1 c := fun c h1 h2 => hf.1 c (al_f hA h1 h2)
  have f2 : ∀ c, kcL.contains c = true → ([] : List Nat).contains c = false → M.2 c = N.2 c := fun c h1 h2 => hf.2 c (al_f hB h1 h2)
  have l1 : M.1 (mz_lv b) = N.1 (mz_lv b) := by rcases lv_b b with w | w <;> rw [w] <;> exact f1 _ rfl rfl
  have l2 : M.1 (mz_lv b + 1) = N.1 (mz_lv b + 1) := by rcases lv_b b with w | w <;> rw [w] <;> exact f1 _ rfl rfl
  obtain ⟨k1, k2, k3, k4, k5, k6, k6b, k7, k8, k8b, k9, k10, k11, k12, k13, k14, k15⟩ := h
  refine ⟨?_, ?_, ?_, ?_, ?_, ?_, ?_, ?_, ?_, ?_, ?_, new, ?_, ?_, ?_, ?_, ?_⟩
  · rw [f1 3 rfl rfl, e1 0]; exact k1
  · rw [f1 37 rfl rfl, e1 1]; exact k2
  · rw [f1 40 rfl rfl, e1 2]; exact k3
  · rw [f1 66 rfl rfl, e2 0 (by omega)]; exact k4
  · rw [f1 67 rfl rfl, e1 3]; exact k5
  · rw [l1, e1 5]; exact k6
  · rw [l2, e1 5, e1 4]; exact k6b
  · rw [f1 62 rfl rfl, f1 63 rfl rfl, e1 6, e2 1 (by omega)]; exact k7
  · rw [f1 210 rfl rfl, f1 211 rfl rfl, f1 212 rfl rfl, e2 2 (by omega), e2 3 (by omega), e2 4 (by omega)]; exact k8
  · rw [f2 213 rfl rfl, f2 214 rfl rfl, e3 0, e3 1]; exact k8b
  · rw [f1 208 rfl rfl, f2 208 rfl rfl, e2 5 (by omega), e3 2]; exact k9
  · rw [f1 125 rfl rfl, f1 126 rfl rfl, f1 127 rfl rfl, f1 128 rfl rfl, e1 7, e2 7 (by omega), e2 8 (by omega), e2 9 (by omega)]; exact k11
  · rw [f1 123 rfl rfl, f1 118 rfl rfl, f1 119 rfl rfl, f1 120 rfl rfl, f1 121 rfl rfl, f1 117 rfl rfl, e1 8, e1 9, e1 10, e1 11, e2 10 (by omega), e2 11 (by omega)]; exact k12
  · rw [f1 101 rfl rfl, f1 102 rfl rfl, f1 103 rfl rfl, e1 12, e1 13, e1 14]; exact k13
  · rw [f1 104 rfl rfl, f1 105 rfl rfl, f1 106 rfl rfl, f1 107 rfl rfl, f1 108 rfl rfl, e1 15, e1 16, e1 17, e1 18, e2 12 (by omega)]; exact k14
  · rw [f1 87 rfl rfl, f1 88 rfl rfl, f1 89 rfl rfl, e1 19, e1 20, e1 21]; exact k15
theorem rkp_10 (h : r_kp N H) {A B : List Nat} (hf : fq A B N M) (hA : krI.all (fun c => ([249] : List Nat).contains c || !A.contains c) = true) (hB : krL.all (fun c => ([] : List Nat).contains c || !B.contains c) = true) (h27 : M.1 232 27 = N.1 232 27) (h9 : ∀ f, f = 2 ∨ (122 ≤ f ∧ f ≤ 125) → M.2 232 f = N.2 232 f) (e1 : ∀ f, G.1 f = H.1 f) (e2 : ∀ f, f ≠ 6 → G.2.1 f = H.2.1 f) (e3 : ∀ f, G.2.2 f = H.2.2 f) (new : M.1 232 21 = G.2.1 6 0 ∧ ∀ j, j < 3 → M.1 249 j = G.2.1 6 (j + 1)) : r_kp M G := by
  have f1 : ∀ c, krI.contains c = true → ([249] : List Nat).contains c = false → M.1 c = N.1 c := fun c h1 h2 => hf.1 c (al_f hA h1 h2)
  have f2 : ∀ c, krL.contains c = true → ([] : List Nat).contains c = false → M.2 c = N.2 c := fun c h1 h2 => hf.2 c (al_f hB h1 h2)
  obtain ⟨k1, k2, k3, k4, k5, k6, k6b, k7, k8, k8b, k9, k10, k11, k12, k13, k14, k15⟩ := h
  refine ⟨?_, ?_, ?_, ?_, ?_, ?_, ?_, ?_, ?_, ?_, ?_, new, ?_, ?_, ?_, ?_, ?_⟩
  · rw [f1 233 rfl rfl, e1 0]; exact k1
  · rw [f1 234 rfl rfl, e1 1]; exact k2
  · rw [f1 244 rfl rfl, e1 2]; exact k3
  · rw [f1 245 rfl rfl, e2 0 (by omega)]; exact k4
  · rw [f1 246 rfl rfl, e1 3]; exact k5
  · rw [h27, e1 5]; exact k6
  · rw [f1 252 rfl rfl, e1 4]; exact k6b
  · rw [f1 247 rfl rfl, f1 248 rfl rfl, e1 6, e2 1 (by omega)]; exact k7
  · rw [f2 321 rfl rfl, f2 322 rfl rfl, f2 323 rfl rfl, e2 2 (by omega), e2 3 (by omega), e2 4 (by omega)]; exact k8
  · rw [f2 324 rfl rfl, f2 325 rfl rfl, e3 0, e3 1]; exact k8b
  · rw [h9 2 (by omega), h9 122 (by omega), h9 123 (by omega), h9 124 (by omega), h9 125 (by omega), e2 5 (by omega), e3 2]; exact k9
  · rw [f1 250 rfl rfl, f1 306 rfl rfl, f1 307 rfl rfl, f2 305 rfl rfl, e1 7, e2 7 (by omega), e2 8 (by omega), e2 9 (by omega)]; exact k11
  · rw [f1 287 rfl rfl, f1 288 rfl rfl, f1 289 rfl rfl, f1 290 rfl rfl, f2 291 rfl rfl, f2 292 rfl rfl, e1 8, e1 9, e1 10, e1 11, e2 10 (by omega), e2 11 (by omega)]; exact k12
  · rw [f1 308 rfl rfl, f1 309 rfl rfl, f1 310 rfl rfl, e1 12, e1 13, e1 14]; exact k13
  · rw [f1 311 rfl rfl, f1 312 rfl rfl, f1 313 rfl rfl, f1 314 rfl rfl, f1 315 rfl rfl, e1 15, e1 16, e1 17, e1 18, e2 12 (by omega)]; exact k14
  · rw [f1 282 rfl rfl, f1 283 rfl rfl, f1 284 rfl rfl, e1 19, e1 20, e1 21]; exact k15
theorem ckp_11 (h : c_kp N b H) {A B : List Nat} (hf : fq A B N M) (hA : kcI.all (fun c => ([125, 126, 127, 128] : List Nat).contains c || !A.contains c) = true) (hB : kcL.all (fun c => ([] : List Nat).contains c || !B.contains c) = true) (e1 : ∀ f, f ≠ 7 → G.1 f = H.1 f) (e2 : ∀ f, f ≠ 7 → f ≠ 8 → f ≠ 9 → G.2.1 f = H.2.1 f) (e3 : ∀ f, G.2.2 f = H.2.2 f) (new : ∀ j, j < 3 → M.1 125 j = G.2.1 7 j ∧ M.1 126 j = G.2.1 8 j ∧ M.1 127 j = G.2.1 9 j ∧ M.1 128 j = nI (G.1 7 j)) : c_kp M b G := by
  have f1 : ∀ c, kcI.contains c = true → ([125, 126, 127, 128] : List Nat).contains c = false → M.1 c = N.1 c := fun c h1 h2 => hf.1 c (al_f hA h1 h2)
  have f2 : ∀ c, kcL.contains c = true → ([] : List Nat).contains c = false → M.2 c = N.2 c := fun c h1 h2 => hf.2 c (al_f hB h1 h2)
  have l1 : M.1 (mz_lv b) = N.1 (mz_lv b) := by rcases lv_b b with w | w <;> rw [w] <;> exact f1 _ rfl rfl
  have l2 : M.1 (mz_lv b + 1) = N.1 (mz_lv b + 1) := by rcases lv_b b with w | w <;> rw [w] <;> exact f1 _ rfl rfl
  obtain ⟨k1, k2, k3, k4, k5, k6, k6b, k7, k8, k8b, k9, k10, k11, k12, k13, k14, k15⟩ := h
  refine ⟨?_, ?_, ?_, ?_, ?_, ?_, ?_, ?_, ?_, ?_, ?_, ?_, new, ?_, ?_, ?_, ?_⟩
  · rw [f1 3 rfl rfl, e1 0 (by omega)]; exact k1
  · rw [f1 37 rfl rfl, e1 1 (by omega)]; exact k2
  · rw [f1 40 rfl rfl, e1 2 (by omega)]; exact k3
  · rw [f1 66 rfl rfl, e2 0 (by omega) (by omega) (by omega)]; exact k4
  · rw [f1 67 rfl rfl, e1 3 (by omega)]; exact k5
  · rw [l1, e1 5 (by omega)]; exact k6
  · rw [l2, e1 5 (by omega), e1 4 (by omega)]; exact k6b
  · rw [f1 62 rfl rfl, f1 63 rfl rfl, e1 6 (by omega), e2 1 (by omega) (by omega) (by omega)]; exact k7
  · rw [f1 210 rfl rfl, f1 211 rfl rfl, f1 212 rfl rfl, e2 2 (by omega) (by omega) (by omega), e2 3 (by omega) (by omega) (by omega), e2 4 (by omega) (by omega) (by omega)]; exact k8
  · rw [f2 213 rfl rfl, f2 214 rfl rfl, e3 0, e3 1]; exact k8b
  · rw [f1 208 rfl rfl, f2 208 rfl rfl, e2 5 (by omega) (by omega) (by omega), e3 2]; exact k9
  · rw [f1 215 rfl rfl, e2 6 (by omega) (by omega) (by omega)]; exact k10
  · rw [f1 123 rfl rfl, f1 118 rfl rfl, f1 119 rfl rfl, f1 120 rfl rfl, f1 121 rfl rfl, f1 117 rfl rfl, e1 8 (by omega), e1 9 (by omega), e1 10 (by omega), e1 11 (by omega), e2 10 (by omega) (by omega) (by omega), e2 11 (by omega) (by omega) (by omega)]; exact k12
  · rw [f1 101 rfl rfl, f1 102 rfl rfl, f1 103 rfl rfl, e1 12 (by omega), e1 13 (by omega), e1 14 (by omega)]; exact k13
  · rw [f1 104 rfl rfl, f1 105 rfl rfl, f1 106 rfl rfl, f1 107 rfl rfl, f1 108 rfl rfl, e1 15 (by omega), e1 16 (by omega), e1 17 (by omega), e1 18 (by omega), e2 12 (by omega) (by omega) (by omega)]; exact k14
  · rw [f1 87 rfl rfl, f1 88 rfl rfl, f1 89 rfl rfl, e1 19 (by omega), e1 20 (by omega), e1 21 (by omega)]; exact k15
theorem rkp_11 (h : r_kp N H) {A B : List Nat} (hf : fq A B N M) (hA : krI.all (fun c => ([250, 306, 307] : List Nat).contains c || !A.contains c) = true) (hB : krL.all (fun c => ([305] : List Nat).contains c || !B.contains c) = true) (h27 : M.1 232 27 = N.1 232 27) (h21 : M.1 232 21 = N.1 232 21) (h9 : ∀ f, f = 2 ∨ (122 ≤ f ∧ f ≤ 125) → M.2 232 f = N.2 232 f) (e1 : ∀ f, f ≠ 7 → G.1 f = H.1 f) (e2 : ∀ f, f ≠ 7 → f ≠ 8 → f ≠ 9 → G.2.1 f = H.2.1 f) (e3 : ∀ f, G.2.2 f = H.2.2 f) (new : ∀ j, j < 3 → M.1 250 j = G.2.1 7 j ∧ M.2 305 j = (G.2.1 8 j).toInt64 ∧ M.1 306 j = G.2.1 9 j ∧ M.1 307 j = nI (G.1 7 j)) : r_kp M G := by
  have f1 : ∀ c, krI.contains c = true → ([250, 306, 307] : List Nat).contains c = false → M.1 c = N.1 c := fun c h1 h2 => hf.1 c (al_f hA h1 h2)
  have f2 : ∀ c, krL.contains c = true → ([305] : List Nat).contains c = false → M.2 c = N.2 c := fun c h1 h2 => hf.2 c (al_f hB h1 h2)
  obtain ⟨k1, k2, k3, k4, k5, k6, k6b, k7, k8, k8b, k9, k10, k11, k12, k13, k14, k15⟩ := h
  refine ⟨?_, ?_, ?_, ?_, ?_, ?_, ?_, ?_, ?_, ?_, ?_, ?_, new, ?_, ?_, ?_, ?_⟩
  · rw [f1 233 rfl rfl, e1 0 (by omega)]; exact k1
  · rw [f1 234 rfl rfl, e1 1 (by omega)]; exact k2
  · rw [f1 244 rfl rfl, e1 2 (by omega)]; exact k3
  · rw [f1 245 rfl rfl, e2 0 (by omega) (by omega) (by omega)]; exact k4
  · rw [f1 246 rfl rfl, e1 3 (by omega)]; exact k5
  · rw [h27, e1 5 (by omega)]; exact k6
  · rw [f1 252 rfl rfl, e1 4 (by omega)]; exact k6b
  · rw [f1 247 rfl rfl, f1 248 rfl rfl, e1 6 (by omega), e2 1 (by omega) (by omega) (by omega)]; exact k7
  · rw [f2 321 rfl rfl, f2 322 rfl rfl, f2 323 rfl rfl, e2 2 (by omega) (by omega) (by omega), e2 3 (by omega) (by omega) (by omega), e2 4 (by omega) (by omega) (by omega)]; exact k8
  · rw [f2 324 rfl rfl, f2 325 rfl rfl, e3 0, e3 1]; exact k8b
  · rw [h9 2 (by omega), h9 122 (by omega), h9 123 (by omega), h9 124 (by omega), h9 125 (by omega), e2 5 (by omega) (by omega) (by omega), e3 2]; exact k9
  · rw [h21, f1 249 rfl rfl, e2 6 (by omega) (by omega) (by omega)]; exact k10
  · rw [f1 287 rfl rfl, f1 288 rfl rfl, f1 289 rfl rfl, f1 290 rfl rfl, f2 291 rfl rfl, f2 292 rfl rfl, e1 8 (by omega), e1 9 (by omega), e1 10 (by omega), e1 11 (by omega), e2 10 (by omega) (by omega) (by omega), e2 11 (by omega) (by omega) (by omega)]; exact k12
  · rw [f1 308 rfl rfl, f1 309 rfl rfl, f1 310 rfl rfl, e1 12 (by omega), e1 13 (by omega), e1 14 (by omega)]; exact k13
  · rw [f1 311 rfl rfl, f1 312 rfl rfl, f1 313 rfl rfl, f1 314 rfl rfl, f1 315 rfl rfl, e1 15 (by omega), e1 16 (by omega), e1 17 (by omega), e1 18 (by omega), e2 12 (by omega) (by omega) (by omega)]; exact k14
  · rw [f1 282 rfl rfl, f1 283 rfl rfl, f1 284 rfl rfl, e1 19 (by omega), e1 20 (by omega), e1 21 (by omega)]; exact k15
theorem ckp_12 (h : c_kp N b H) {A B : List Nat} (hf : fq A B N M) (hA : kcI.all (fun c => ([123, 118, 119, 120, 121, 117] : List Nat).contains c || !A.contains c) = true) (hB : kcL.all (fun c => ([] : List Nat).contains c || !B.contains c) = true) (e1 : ∀ f, f ≠ 8 → f ≠ 9 → f ≠ 10 → f ≠ 11 → G.1 f = H.1 f) (e2 : ∀ f, f ≠ 10 → f ≠ 11 → G.2.1 f = H.2.1 f) (e3 : ∀ f, G.2.2 f = H.2.2 f) (new : ∀ j, j < 16 → M.1 123 j = nI (G.1 8 j) ∧ (G.1 8 j = 1 → M.1 118 j = nI (G.1 9 j) ∧ M.1 119 j = nI (G.1 10 j) ∧ M.1 120 j = nI (G.1 11 j) ∧ M.1 121 j = G.2.1 10 j ∧ M.1 117 j = G.2.1 11 j)) : c_kp M b G := by
  have f1 : ∀ c, kcI.contains c = true → ([123, 118, 119, 120, 121, 117] : List Nat).contains c = false → M.1 c = N.1 c := fun c h1 h2 => hf.1 c (al_f hA h1 h2)
  have f2 : ∀ c, kcL.contains c = true → ([] : List Nat).contains c = false → M.2 c = N.2 c := fun c h1 h2 => hf.2 c (al_f hB h1 h2)
  have l1 : M.1 (mz_lv b) = N.1 (mz_lv b) := by rcases lv_b b with w | w <;> rw [w] <;> exact f1 _ rfl rfl
  have l2 : M.1 (mz_lv b + 1) = N.1 (mz_lv b + 1) := by rcases lv_b b with w | w <;> rw [w] <;> exact f1 _ rfl rfl
  obtain ⟨k1, k2, k3, k4, k5, k6, k6b, k7, k8, k8b, k9, k10, k11, k12, k13, k14, k15⟩ := h
  refine ⟨?_, ?_, ?_, ?_, ?_, ?_, ?_, ?_, ?_, ?_, ?_, ?_, ?_, new, ?_, ?_, ?_⟩
  · rw [f1 3 rfl rfl, e1 0 (by omega) (by omega) (by omega) (by omega)]; exact k1
  · rw [f1 37 rfl rfl, e1 1 (by omega) (by omega) (by omega) (by omega)]; exact k2
  · rw [f1 40 rfl rfl, e1 2 (by omega) (by omega) (by omega) (by omega)]; exact k3
  · rw [f1 66 rfl rfl, e2 0 (by omega) (by omega)]; exact k4
  · rw [f1 67 rfl rfl, e1 3 (by omega) (by omega) (by omega) (by omega)]; exact k5
  · rw [l1, e1 5 (by omega) (by omega) (by omega) (by omega)]; exact k6
  · rw [l2, e1 5 (by omega) (by omega) (by omega) (by omega), e1 4 (by omega) (by omega) (by omega) (by omega)]; exact k6b
  · rw [f1 62 rfl rfl, f1 63 rfl rfl, e1 6 (by omega) (by omega) (by omega) (by omega), e2 1 (by omega) (by omega)]; exact k7
  · rw [f1 210 rfl rfl, f1 211 rfl rfl, f1 212 rfl rfl, e2 2 (by omega) (by omega), e2 3 (by omega) (by omega), e2 4 (by omega) (by omega)]; exact k8
  · rw [f2 213 rfl rfl, f2 214 rfl rfl, e3 0, e3 1]; exact k8b
  · rw [f1 208 rfl rfl, f2 208 rfl rfl, e2 5 (by omega) (by omega), e3 2]; exact k9
  · rw [f1 215 rfl rfl, e2 6 (by omega) (by omega)]; exact k10
  · rw [f1 125 rfl rfl, f1 126 rfl rfl, f1 127 rfl rfl, f1 128 rfl rfl, e1 7 (by omega) (by omega) (by omega) (by omega), e2 7 (by omega) (by omega), e2 8 (by omega) (by omega), e2 9 (by omega) (by omega)]; exact k11
  · rw [f1 101 rfl rfl, f1 102 rfl rfl, f1 103 rfl rfl, e1 12 (by omega) (by omega) (by omega) (by omega), e1 13 (by omega) (by omega) (by omega) (by omega), e1 14 (by omega) (by omega) (by omega) (by omega)]; exact k13
  · rw [f1 104 rfl rfl, f1 105 rfl rfl, f1 106 rfl rfl, f1 107 rfl rfl, f1 108 rfl rfl, e1 15 (by omega) (by omega) (by omega) (by omega), e1 16 (by omega) (by omega) (by omega) (by omega), e1 17 (by omega) (by omega) (by omega) (by omega), e1 18 (by omega) (by omega) (by omega) (by omega), e2 12 (by omega) (by omega)]; exact k14
  · rw [f1 87 rfl rfl, f1 88 rfl rfl, f1 89 rfl rfl, e1 19 (by omega) (by omega) (by omega) (by omega), e1 20 (by omega) (by omega) (by omega) (by omega), e1 21 (by omega) (by omega) (by omega) (by omega)]; exact k15
theorem rkp_12 (h : r_kp N H) {A B : List Nat} (hf : fq A B N M) (hA : krI.all (fun c => ([287, 288, 289, 290] : List Nat).contains c || !A.contains c) = true) (hB : krL.all (fun c => ([291, 292] : List Nat).contains c || !B.contains c) = true) (h27 : M.1 232 27 = N.1 232 27) (h21 : M.1 232 21 = N.1 232 21) (h9 : ∀ f, f = 2 ∨ (122 ≤ f ∧ f ≤ 125) → M.2 232 f = N.2 232 f) (e1 : ∀ f, f ≠ 8 → f ≠ 9 → f ≠ 10 → f ≠ 11 → G.1 f = H.1 f) (e2 : ∀ f, f ≠ 10 → f ≠ 11 → G.2.1 f = H.2.1 f) (e3 : ∀ f, G.2.2 f = H.2.2 f) (new : ∀ j, j < 16 → M.1 287 j = nI (G.1 8 j) ∧ (G.1 8 j = 1 → M.1 288 j = nI (G.1 9 j) ∧ M.1 289 j = nI (G.1 10 j) ∧ M.1 290 j = nI (G.1 11 j) ∧ M.2 291 j = (G.2.1 10 j).toInt64 ∧ M.2 292 j = (G.2.1 11 j).toInt64)) : r_kp M G := by
  have f1 : ∀ c, krI.contains c = true → ([287, 288, 289, 290] : List Nat).contains c = false → M.1 c = N.1 c := fun c h1 h2 => hf.1 c (al_f hA h1 h2)
  have f2 : ∀ c, krL.contains c = true → ([291, 292] : List Nat).contains c = false → M.2 c = N.2 c := fun c h1 h2 => hf.2 c (al_f hB h1 h2)
  obtain ⟨k1, k2, k3, k4, k5, k6, k6b, k7, k8, k8b, k9, k10, k11, k12, k13, k14, k15⟩ := h
  refine ⟨?_, ?_, ?_, ?_, ?_, ?_, ?_, ?_, ?_, ?_, ?_, ?_, ?_, new, ?_, ?_, ?_⟩
  · rw [f1 233 rfl rfl, e1 0 (by omega) (by omega) (by omega) (by omega)]; exact k1
  · rw [f1 234 rfl rfl, e1 1 (by omega) (by omega) (by omega) (by omega)]; exact k2
  · rw [f1 244 rfl rfl, e1 2 (by omega) (by omega) (by omega) (by omega)]; exact k3
  · rw [f1 245 rfl rfl, e2 0 (by omega) (by omega)]; exact k4
  · rw [f1 246 rfl rfl, e1 3 (by omega) (by omega) (by omega) (by omega)]; exact k5
  · rw [h27, e1 5 (by omega) (by omega) (by omega) (by omega)]; exact k6
  · rw [f1 252 rfl rfl, e1 4 (by omega) (by omega) (by omega) (by omega)]; exact k6b
  · rw [f1 247 rfl rfl, f1 248 rfl rfl, e1 6 (by omega) (by omega) (by omega) (by omega), e2 1 (by omega) (by omega)]; exact k7
  · rw [f2 321 rfl rfl, f2 322 rfl rfl, f2 323 rfl rfl, e2 2 (by omega) (by omega), e2 3 (by omega) (by omega), e2 4 (by omega) (by omega)]; exact k8
  · rw [f2 324 rfl rfl, f2 325 rfl rfl, e3 0, e3 1]; exact k8b
  · rw [h9 2 (by omega), h9 122 (by omega), h9 123 (by omega), h9 124 (by omega), h9 125 (by omega), e2 5 (by omega) (by omega), e3 2]; exact k9
  · rw [h21, f1 249 rfl rfl, e2 6 (by omega) (by omega)]; exact k10
  · rw [f1 250 rfl rfl, f1 306 rfl rfl, f1 307 rfl rfl, f2 305 rfl rfl, e1 7 (by omega) (by omega) (by omega) (by omega), e2 7 (by omega) (by omega), e2 8 (by omega) (by omega), e2 9 (by omega) (by omega)]; exact k11
  · rw [f1 308 rfl rfl, f1 309 rfl rfl, f1 310 rfl rfl, e1 12 (by omega) (by omega) (by omega) (by omega), e1 13 (by omega) (by omega) (by omega) (by omega), e1 14 (by omega) (by omega) (by omega) (by omega)]; exact k13
  · rw [f1 311 rfl rfl, f1 312 rfl rfl, f1 313 rfl rfl, f1 314 rfl rfl, f1 315 rfl rfl, e1 15 (by omega) (by omega) (by omega) (by omega), e1 16 (by omega) (by omega) (by omega) (by omega), e1 17 (by omega) (by omega) (by omega) (by omega), e1 18 (by omega) (by omega) (by omega) (by omega), e2 12 (by omega) (by omega)]; exact k14
  · rw [f1 282 rfl rfl, f1 283 rfl rfl, f1 284 rfl rfl, e1 19 (by omega) (by omega) (by omega) (by omega), e1 20 (by omega) (by omega) (by omega) (by omega), e1 21 (by omega) (by omega) (by omega) (by omega)]; exact k15
theorem ckp_13 (h : c_kp N b H) {A B : List Nat} (hf : fq A B N M) (hA : kcI.all (fun c => ([101, 102, 103] : List Nat).contains c || !A.contains c) = true) (hB : kcL.all (fun c => ([] : List Nat).contains c || !B.contains c) = true) (e1 : ∀ f, f ≠ 12 → f ≠ 13 → f ≠ 14 → G.1 f = H.1 f) (e2 : ∀ f, G.2.1 f = H.2.1 f) (e3 : ∀ f, G.2.2 f = H.2.2 f) (new : ∀ j, j < 20 → M.1 101 j = nI (G.1 12 j) ∧ (G.1 12 j = 1 → M.1 102 j = nI (G.1 13 j) ∧ M.1 103 j = nI (G.1 14 j))) : c_kp M b G := by
  have f1 : ∀ c, kcI.contains c = true → ([101, 102, 103] : List Nat).contains c = false → M.1 c = N.1 c := fun c h1 h2 => hf.1 c (al_f hA h1 h2)
  have f2 : ∀ c, kcL.contains c = true → ([] : List Nat).contains c = false → M.2 c = N.2 c := fun c h1 h2 => hf.2 c (al_f hB h1 h2)
  have l1 : M.1 (mz_lv b) = N.1 (mz_lv b) := by rcases lv_b b with w | w <;> rw [w] <;> exact f1 _ rfl rfl
  have l2 : M.1 (mz_lv b + 1) = N.1 (mz_lv b + 1) := by rcases lv_b b with w | w <;> rw [w] <;> exact f1 _ rfl rfl
  obtain ⟨k1, k2, k3, k4, k5, k6, k6b, k7, k8, k8b, k9, k10, k11, k12, k13, k14, k15⟩ := h
  refine ⟨?_, ?_, ?_, ?_, ?_, ?_, ?_, ?_, ?_, ?_, ?_, ?_, ?_, ?_, new, ?_, ?_⟩
  · rw [f1 3 rfl rfl, e1 0 (by omega) (by omega) (by omega)]; exact k1
  · rw [f1 37 rfl rfl, e1 1 (by omega) (by omega) (by omega)]; exact k2
  · rw [f1 40 rfl rfl, e1 2 (by omega) (by omega) (by omega)]; exact k3
  · rw [f1 66 rfl rfl, e2 0]; exact k4
  · rw [f1 67 rfl rfl, e1 3 (by omega) (by omega) (by omega)]; exact k5
  · rw [l1, e1 5 (by omega) (by omega) (by omega)]; exact k6
  · rw [l2, e1 5 (by omega) (by omega) (by omega), e1 4 (by omega) (by omega) (by omega)]; exact k6b
  · rw [f1 62 rfl rfl, f1 63 rfl rfl, e1 6 (by omega) (by omega) (by omega), e2 1]; exact k7
  · rw [f1 210 rfl rfl, f1 211 rfl rfl, f1 212 rfl rfl, e2 2, e2 3, e2 4]; exact k8
  · rw [f2 213 rfl rfl, f2 214 rfl rfl, e3 0, e3 1]; exact k8b
  · rw [f1 208 rfl rfl, f2 208 rfl rfl, e2 5, e3 2]; exact k9
  · rw [f1 215 rfl rfl, e2 6]; exact k10
  · rw [f1 125 rfl rfl, f1 126 rfl rfl, f1 127 rfl rfl, f1 128 rfl rfl, e1 7 (by omega) (by omega) (by omega), e2 7, e2 8, e2 9]; exact k11
  · rw [f1 123 rfl rfl, f1 118 rfl rfl, f1 119 rfl rfl, f1 120 rfl rfl, f1 121 rfl rfl, f1 117 rfl rfl, e1 8 (by omega) (by omega) (by omega), e1 9 (by omega) (by omega) (by omega), e1 10 (by omega) (by omega) (by omega), e1 11 (by omega) (by omega) (by omega), e2 10, e2 11]; exact k12
  · rw [f1 104 rfl rfl, f1 105 rfl rfl, f1 106 rfl rfl, f1 107 rfl rfl, f1 108 rfl rfl, e1 15 (by omega) (by omega) (by omega), e1 16 (by omega) (by omega) (by omega), e1 17 (by omega) (by omega) (by omega), e1 18 (by omega) (by omega) (by omega), e2 12]; exact k14
  · rw [f1 87 rfl rfl, f1 88 rfl rfl, f1 89 rfl rfl, e1 19 (by omega) (by omega) (by omega), e1 20 (by omega) (by omega) (by omega), e1 21 (by omega) (by omega) (by omega)]; exact k15
theorem rkp_13 (h : r_kp N H) {A B : List Nat} (hf : fq A B N M) (hA : krI.all (fun c => ([308, 309, 310] : List Nat).contains c || !A.contains c) = true) (hB : krL.all (fun c => ([] : List Nat).contains c || !B.contains c) = true) (h27 : M.1 232 27 = N.1 232 27) (h21 : M.1 232 21 = N.1 232 21) (h9 : ∀ f, f = 2 ∨ (122 ≤ f ∧ f ≤ 125) → M.2 232 f = N.2 232 f) (e1 : ∀ f, f ≠ 12 → f ≠ 13 → f ≠ 14 → G.1 f = H.1 f) (e2 : ∀ f, G.2.1 f = H.2.1 f) (e3 : ∀ f, G.2.2 f = H.2.2 f) (new : ∀ j, j < 20 → M.1 308 j = nI (G.1 12 j) ∧ (G.1 12 j = 1 → M.1 309 j = nI (G.1 13 j) ∧ M.1 310 j = nI (G.1 14 j))) : r_kp M G := by
  have f1 : ∀ c, krI.contains c = true → ([308, 309, 310] : List Nat).contains c = false → M.1 c = N.1 c := fun c h1 h2 => hf.1 c (al_f hA h1 h2)
  have f2 : ∀ c, krL.contains c = true → ([] : List Nat).contains c = false → M.2 c = N.2 c := fun c h1 h2 => hf.2 c (al_f hB h1 h2)
  obtain ⟨k1, k2, k3, k4, k5, k6, k6b, k7, k8, k8b, k9, k10, k11, k12, k13, k14, k15⟩ := h
  refine ⟨?_, ?_, ?_, ?_, ?_, ?_, ?_, ?_, ?_, ?_, ?_, ?_, ?_, ?_, new, ?_, ?_⟩
  · rw [f1 233 rfl rfl, e1 0 (by omega) (by omega) (by omega)]; exact k1
  · rw [f1 234 rfl rfl, e1 1 (by omega) (by omega) (by omega)]; exact k2
  · rw [f1 244 rfl rfl, e1 2 (by omega) (by omega) (by omega)]; exact k3
  · rw [f1 245 rfl rfl, e2 0]; exact k4
  · rw [f1 246 rfl rfl, e1 3 (by omega) (by omega) (by omega)]; exact k5
  · rw [h27, e1 5 (by omega) (by omega) (by omega)]; exact k6
  · rw [f1 252 rfl rfl, e1 4 (by omega) (by omega) (by omega)]; exact k6b
  · rw [f1 247 rfl rfl, f1 248 rfl rfl, e1 6 (by omega) (by omega) (by omega), e2 1]; exact k7
  · rw [f2 321 rfl rfl, f2 322 rfl rfl, f2 323 rfl rfl, e2 2, e2 3, e2 4]; exact k8
  · rw [f2 324 rfl rfl, f2 325 rfl rfl, e3 0, e3 1]; exact k8b
  · rw [h9 2 (by omega), h9 122 (by omega), h9 123 (by omega), h9 124 (by omega), h9 125 (by omega), e2 5, e3 2]; exact k9
  · rw [h21, f1 249 rfl rfl, e2 6]; exact k10
  · rw [f1 250 rfl rfl, f1 306 rfl rfl, f1 307 rfl rfl, f2 305 rfl rfl, e1 7 (by omega) (by omega) (by omega), e2 7, e2 8, e2 9]; exact k11
  · rw [f1 287 rfl rfl, f1 288 rfl rfl, f1 289 rfl rfl, f1 290 rfl rfl, f2 291 rfl rfl, f2 292 rfl rfl, e1 8 (by omega) (by omega) (by omega), e1 9 (by omega) (by omega) (by omega), e1 10 (by omega) (by omega) (by omega), e1 11 (by omega) (by omega) (by omega), e2 10, e2 11]; exact k12
  · rw [f1 311 rfl rfl, f1 312 rfl rfl, f1 313 rfl rfl, f1 314 rfl rfl, f1 315 rfl rfl, e1 15 (by omega) (by omega) (by omega), e1 16 (by omega) (by omega) (by omega), e1 17 (by omega) (by omega) (by omega), e1 18 (by omega) (by omega) (by omega), e2 12]; exact k14
  · rw [f1 282 rfl rfl, f1 283 rfl rfl, f1 284 rfl rfl, e1 19 (by omega) (by omega) (by omega), e1 20 (by omega) (by omega) (by omega), e1 21 (by omega) (by omega) (by omega)]; exact k15
theorem ckp_14 (h : c_kp N b H) {A B : List Nat} (hf : fq A B N M) (hA : kcI.all (fun c => ([104, 105, 106, 107, 108] : List Nat).contains c || !A.contains c) = true) (hB : kcL.all (fun c => ([] : List Nat).contains c || !B.contains c) = true) (e1 : ∀ f, f ≠ 15 → f ≠ 16 → f ≠ 17 → f ≠ 18 → G.1 f = H.1 f) (e2 : ∀ f, f ≠ 12 → G.2.1 f = H.2.1 f) (e3 : ∀ f, G.2.2 f = H.2.2 f) (new : ∀ j, j < 40 → M.1 104 j = nI (G.1 15 j) ∧ (G.1 15 j = 1 → M.1 105 j = nI (G.1 16 j) ∧ M.1 106 j = nI (G.1 17 j) ∧ M.1 107 j = nI (G.1 18 j) ∧ M.1 108 j = G.2.1 12 j)) : c_kp M b G := by
  have f1 : ∀ c, kcI.contains c = true → ([104, 105, 106, 107, 108] : List Nat).contains c = false → M.1 c = N.1 c := fun c h1 h2 => hf.1 c (al_f hA h1 h2)
  have f2 : ∀ c, kcL.contains c = true → ([] : List Nat).contains c = false → M.2 c = N.2 c := fun c h1 h2 => hf.2 c (al_f hB h1 h2)
  have l1 : M.1 (mz_lv b) = N.1 (mz_lv b) := by rcases lv_b b with w | w <;> rw [w] <;> exact f1 _ rfl rfl
  have l2 : M.1 (mz_lv b + 1) = N.1 (mz_lv b + 1) := by rcases lv_b b with w | w <;> rw [w] <;> exact f1 _ rfl rfl
  obtain ⟨k1, k2, k3, k4, k5, k6, k6b, k7, k8, k8b, k9, k10, k11, k12, k13, k14, k15⟩ := h
  refine ⟨?_, ?_, ?_, ?_, ?_, ?_, ?_, ?_, ?_, ?_, ?_, ?_, ?_, ?_, ?_, new, ?_⟩
  · rw [f1 3 rfl rfl, e1 0 (by omega) (by omega) (by omega) (by omega)]; exact k1
  · rw [f1 37 rfl rfl, e1 1 (by omega) (by omega) (by omega) (by omega)]; exact k2
  · rw [f1 40 rfl rfl, e1 2 (by omega) (by omega) (by omega) (by omega)]; exact k3
  · rw [f1 66 rfl rfl, e2 0 (by omega)]; exact k4
  · rw [f1 67 rfl rfl, e1 3 (by omega) (by omega) (by omega) (by omega)]; exact k5
  · rw [l1, e1 5 (by omega) (by omega) (by omega) (by omega)]; exact k6
  · rw [l2, e1 5 (by omega) (by omega) (by omega) (by omega), e1 4 (by omega) (by omega) (by omega) (by omega)]; exact k6b
  · rw [f1 62 rfl rfl, f1 63 rfl rfl, e1 6 (by omega) (by omega) (by omega) (by omega), e2 1 (by omega)]; exact k7
  · rw [f1 210 rfl rfl, f1 211 rfl rfl, f1 212 rfl rfl, e2 2 (by omega), e2 3 (by omega), e2 4 (by omega)]; exact k8
  · rw [f2 213 rfl rfl, f2 214 rfl rfl, e3 0, e3 1]; exact k8b
  · rw [f1 208 rfl rfl, f2 208 rfl rfl, e2 5 (by omega), e3 2]; exact k9
  · rw [f1 215 rfl rfl, e2 6 (by omega)]; exact k10
  · rw [f1 125 rfl rfl, f1 126 rfl rfl, f1 127 rfl rfl, f1 128 rfl rfl, e1 7 (by omega) (by omega) (by omega) (by omega), e2 7 (by omega), e2 8 (by omega), e2 9 (by omega)]; exact k11
  · rw [f1 123 rfl rfl, f1 118 rfl rfl, f1 119 rfl rfl, f1 120 rfl rfl, f1 121 rfl rfl, f1 117 rfl rfl, e1 8 (by omega) (by omega) (by omega) (by omega), e1 9 (by omega) (by omega) (by omega) (by omega), e1 10 (by omega) (by omega) (by omega) (by omega), e1 11 (by omega) (by omega) (by omega) (by omega), e2 10 (by omega), e2 11 (by omega)]; exact k12
  · rw [f1 101 rfl rfl, f1 102 rfl rfl, f1 103 rfl rfl, e1 12 (by omega) (by omega) (by omega) (by omega), e1 13 (by omega) (by omega) (by omega) (by omega), e1 14 (by omega) (by omega) (by omega) (by omega)]; exact k13
  · rw [f1 87 rfl rfl, f1 88 rfl rfl, f1 89 rfl rfl, e1 19 (by omega) (by omega) (by omega) (by omega), e1 20 (by omega) (by omega) (by omega) (by omega), e1 21 (by omega) (by omega) (by omega) (by omega)]; exact k15
theorem rkp_14 (h : r_kp N H) {A B : List Nat} (hf : fq A B N M) (hA : krI.all (fun c => ([311, 312, 313, 314, 315] : List Nat).contains c || !A.contains c) = true) (hB : krL.all (fun c => ([] : List Nat).contains c || !B.contains c) = true) (h27 : M.1 232 27 = N.1 232 27) (h21 : M.1 232 21 = N.1 232 21) (h9 : ∀ f, f = 2 ∨ (122 ≤ f ∧ f ≤ 125) → M.2 232 f = N.2 232 f) (e1 : ∀ f, f ≠ 15 → f ≠ 16 → f ≠ 17 → f ≠ 18 → G.1 f = H.1 f) (e2 : ∀ f, f ≠ 12 → G.2.1 f = H.2.1 f) (e3 : ∀ f, G.2.2 f = H.2.2 f) (new : ∀ j, j < 40 → M.1 311 j = nI (G.1 15 j) ∧ (G.1 15 j = 1 → M.1 313 j = nI (G.1 16 j) ∧ M.1 314 j = nI (G.1 17 j) ∧ M.1 315 j = nI (G.1 18 j) ∧ M.1 312 j = G.2.1 12 j)) : r_kp M G := by
  have f1 : ∀ c, krI.contains c = true → ([311, 312, 313, 314, 315] : List Nat).contains c = false → M.1 c = N.1 c := fun c h1 h2 => hf.1 c (al_f hA h1 h2)
  have f2 : ∀ c, krL.contains c = true → ([] : List Nat).contains c = false → M.2 c = N.2 c := fun c h1 h2 => hf.2 c (al_f hB h1 h2)
  obtain ⟨k1, k2, k3, k4, k5, k6, k6b, k7, k8, k8b, k9, k10, k11, k12, k13, k14, k15⟩ := h
  refine ⟨?_, ?_, ?_, ?_, ?_, ?_, ?_, ?_, ?_, ?_, ?_, ?_, ?_, ?_, ?_, new, ?_⟩
  · rw [f1 233 rfl rfl, e1 0 (by omega) (by omega) (by omega) (by omega)]; exact k1
  · rw [f1 234 rfl rfl, e1 1 (by omega) (by omega) (by omega) (by omega)]; exact k2
  · rw [f1 244 rfl rfl, e1 2 (by omega) (by omega) (by omega) (by omega)]; exact k3
  · rw [f1 245 rfl rfl, e2 0 (by omega)]; exact k4
  · rw [f1 246 rfl rfl, e1 3 (by omega) (by omega) (by omega) (by omega)]; exact k5
  · rw [h27, e1 5 (by omega) (by omega) (by omega) (by omega)]; exact k6
  · rw [f1 252 rfl rfl, e1 4 (by omega) (by omega) (by omega) (by omega)]; exact k6b
  · rw [f1 247 rfl rfl, f1 248 rfl rfl, e1 6 (by omega) (by omega) (by omega) (by omega), e2 1 (by omega)]; exact k7
  · rw [f2 321 rfl rfl, f2 322 rfl rfl, f2 323 rfl rfl, e2 2 (by omega), e2 3 (by omega), e2 4 (by omega)]; exact k8
  · rw [f2 324 rfl rfl, f2 325 rfl rfl, e3 0, e3 1]; exact k8b
  · rw [h9 2 (by omega), h9 122 (by omega), h9 123 (by omega), h9 124 (by omega), h9 125 (by omega), e2 5 (by omega), e3 2]; exact k9
  · rw [h21, f1 249 rfl rfl, e2 6 (by omega)]; exact k10
  · rw [f1 250 rfl rfl, f1 306 rfl rfl, f1 307 rfl rfl, f2 305 rfl rfl, e1 7 (by omega) (by omega) (by omega) (by omega), e2 7 (by omega), e2 8 (by omega), e2 9 (by omega)]; exact k11
  · rw [f1 287 rfl rfl, f1 288 rfl rfl, f1 289 rfl rfl, f1 290 rfl rfl, f2 291 rfl rfl, f2 292 rfl rfl, e1 8 (by omega) (by omega) (by omega) (by omega), e1 9 (by omega) (by omega) (by omega) (by omega), e1 10 (by omega) (by omega) (by omega) (by omega), e1 11 (by omega) (by omega) (by omega) (by omega), e2 10 (by omega), e2 11 (by omega)]; exact k12
  · rw [f1 308 rfl rfl, f1 309 rfl rfl, f1 310 rfl rfl, e1 12 (by omega) (by omega) (by omega) (by omega), e1 13 (by omega) (by omega) (by omega) (by omega), e1 14 (by omega) (by omega) (by omega) (by omega)]; exact k13
  · rw [f1 282 rfl rfl, f1 283 rfl rfl, f1 284 rfl rfl, e1 19 (by omega) (by omega) (by omega) (by omega), e1 20 (by omega) (by omega) (by omega) (by omega), e1 21 (by omega) (by omega) (by omega) (by omega)]; exact k15
theorem ckp_15 (h : c_kp N b H) {A B : List Nat} (hf : fq A B N M) (hA : kcI.all (fun c => ([87, 88, 89] : List Nat).contains c || !A.contains c) = true) (hB : kcL.all (fun c => ([] : List Nat).contains c || !B.contains c) = true) (e1 : ∀ f, f ≠ 19 → f ≠ 20 → f ≠ 21 → G.1 f = H.1 f) (e2 : ∀ f, G.2.1 f = H.2.1 f) (e3 : ∀ f, G.2.2 f = H.2.2 f) (new : ∀ j, j < 8 → M.1 87 j = nI (G.1 19 j) ∧ (G.1 19 j = 1 → M.1 88 j = nI (G.1 20 j) ∧ M.1 89 j = nI (G.1 21 j))) : c_kp M b G := by
  have f1 : ∀ c, kcI.contains c = true → ([87, 88, 89] : List Nat).contains c = false → M.1 c = N.1 c := fun c h1 h2 => hf.1 c (al_f hA h1 h2)
  have f2 : ∀ c, kcL.contains c = true → ([] : List Nat).contains c = false → M.2 c = N.2 c := fun c h1 h2 => hf.2 c (al_f hB h1 h2)
  have l1 : M.1 (mz_lv b) = N.1 (mz_lv b) := by rcases lv_b b with w | w <;> rw [w] <;> exact f1 _ rfl rfl
  have l2 : M.1 (mz_lv b + 1) = N.1 (mz_lv b + 1) := by rcases lv_b b with w | w <;> rw [w] <;> exact f1 _ rfl rfl
  obtain ⟨k1, k2, k3, k4, k5, k6, k6b, k7, k8, k8b, k9, k10, k11, k12, k13, k14, k15⟩ := h
  refine ⟨?_, ?_, ?_, ?_, ?_, ?_, ?_, ?_, ?_, ?_, ?_, ?_, ?_, ?_, ?_, ?_, new⟩
  · rw [f1 3 rfl rfl, e1 0 (by omega) (by omega) (by omega)]; exact k1
  · rw [f1 37 rfl rfl, e1 1 (by omega) (by omega) (by omega)]; exact k2
  · rw [f1 40 rfl rfl, e1 2 (by omega) (by omega) (by omega)]; exact k3
  · rw [f1 66 rfl rfl, e2 0]; exact k4
  · rw [f1 67 rfl rfl, e1 3 (by omega) (by omega) (by omega)]; exact k5
  · rw [l1, e1 5 (by omega) (by omega) (by omega)]; exact k6
  · rw [l2, e1 5 (by omega) (by omega) (by omega), e1 4 (by omega) (by omega) (by omega)]; exact k6b
  · rw [f1 62 rfl rfl, f1 63 rfl rfl, e1 6 (by omega) (by omega) (by omega), e2 1]; exact k7
  · rw [f1 210 rfl rfl, f1 211 rfl rfl, f1 212 rfl rfl, e2 2, e2 3, e2 4]; exact k8
  · rw [f2 213 rfl rfl, f2 214 rfl rfl, e3 0, e3 1]; exact k8b
  · rw [f1 208 rfl rfl, f2 208 rfl rfl, e2 5, e3 2]; exact k9
  · rw [f1 215 rfl rfl, e2 6]; exact k10
  · rw [f1 125 rfl rfl, f1 126 rfl rfl, f1 127 rfl rfl, f1 128 rfl rfl, e1 7 (by omega) (by omega) (by omega), e2 7, e2 8, e2 9]; exact k11
  · rw [f1 123 rfl rfl, f1 118 rfl rfl, f1 119 rfl rfl, f1 120 rfl rfl, f1 121 rfl rfl, f1 117 rfl rfl, e1 8 (by omega) (by omega) (by omega), e1 9 (by omega) (by omega) (by omega), e1 10 (by omega) (by omega) (by omega), e1 11 (by omega) (by omega) (by omega), e2 10, e2 11]; exact k12
  · rw [f1 101 rfl rfl, f1 102 rfl rfl, f1 103 rfl rfl, e1 12 (by omega) (by omega) (by omega), e1 13 (by omega) (by omega) (by omega), e1 14 (by omega) (by omega) (by omega)]; exact k13
  · rw [f1 104 rfl rfl, f1 105 rfl rfl, f1 106 rfl rfl, f1 107 rfl rfl, f1 108 rfl rfl, e1 15 (by omega) (by omega) (by omega), e1 16 (by omega) (by omega) (by omega), e1 17 (by omega) (by omega) (by omega), e1 18 (by omega) (by omega) (by omega), e2 12]; exact k14
theorem rkp_15 (h : r_kp N H) {A B : List Nat} (hf : fq A B N M) (hA : krI.all (fun c => ([282, 283, 284] : List Nat).contains c || !A.contains c) = true) (hB : krL.all (fun c => ([] : List Nat).contains c || !B.contains c) = true) (h27 : M.1 232 27 = N.1 232 27) (h21 : M.1 232 21 = N.1 232 21) (h9 : ∀ f, f = 2 ∨ (122 ≤ f ∧ f ≤ 125) → M.2 232 f = N.2 232 f) (e1 : ∀ f, f ≠ 19 → f ≠ 20 → f ≠ 21 → G.1 f = H.1 f) (e2 : ∀ f, G.2.1 f = H.2.1 f) (e3 : ∀ f, G.2.2 f = H.2.2 f) (new : ∀ j, j < 8 → M.1 282 j = nI (G.1 19 j) ∧ (G.1 19 j = 1 → M.1 283 j = nI (G.1 20 j) ∧ M.1 284 j = nI (G.1 21 j))) : r_kp M G := by
  have f1 : ∀ c, krI.contains c = true → ([282, 283, 284] : List Nat).contains c = false → M.1 c = N.1 c := fun c h1 h2 => hf.1 c (al_f hA h1 h2)
  have f2 : ∀ c, krL.contains c = true → ([] : List Nat).contains c = false → M.2 c = N.2 c := fun c h1 h2 => hf.2 c (al_f hB h1 h2)
  obtain ⟨k1, k2, k3, k4, k5, k6, k6b, k7, k8, k8b, k9, k10, k11, k12, k13, k14, k15⟩ := h
  refine ⟨?_, ?_, ?_, ?_, ?_, ?_, ?_, ?_, ?_, ?_, ?_, ?_, ?_, ?_, ?_, ?_, new⟩
  · rw [f1 233 rfl rfl, e1 0 (by omega) (by omega) (by omega)]; exact k1
  · rw [f1 234 rfl rfl, e1 1 (by omega) (by omega) (by omega)]; exact k2
  · rw [f1 244 rfl rfl, e1 2 (by omega) (by omega) (by omega)]; exact k3
  · rw [f1 245 rfl rfl, e2 0]; exact k4
  · rw [f1 246 rfl rfl, e1 3 (by omega) (by omega) (by omega)]; exact k5
  · rw [h27, e1 5 (by omega) (by omega) (by omega)]; exact k6
  · rw [f1 252 rfl rfl, e1 4 (by omega) (by omega) (by omega)]; exact k6b
  · rw [f1 247 rfl rfl, f1 248 rfl rfl, e1 6 (by omega) (by omega) (by omega), e2 1]; exact k7
  · rw [f2 321 rfl rfl, f2 322 rfl rfl, f2 323 rfl rfl, e2 2, e2 3, e2 4]; exact k8
  · rw [f2 324 rfl rfl, f2 325 rfl rfl, e3 0, e3 1]; exact k8b
  · rw [h9 2 (by omega), h9 122 (by omega), h9 123 (by omega), h9 124 (by omega), h9 125 (by omega), e2 5, e3 2]; exact k9
  · rw [h21, f1 249 rfl rfl, e2 6]; exact k10
  · rw [f1 250 rfl rfl, f1 306 rfl rfl, f1 307 rfl rfl, f2 305 rfl rfl, e1 7 (by omega) (by omega) (by omega), e2 7, e2 8, e2 9]; exact k11
  · rw [f1 287 rfl rfl, f1 288 rfl rfl, f1 289 rfl rfl, f1 290 rfl rfl, f2 291 rfl rfl, f2 292 rfl rfl, e1 8 (by omega) (by omega) (by omega), e1 9 (by omega) (by omega) (by omega), e1 10 (by omega) (by omega) (by omega), e1 11 (by omega) (by omega) (by omega), e2 10, e2 11]; exact k12
  · rw [f1 308 rfl rfl, f1 309 rfl rfl, f1 310 rfl rfl, e1 12 (by omega) (by omega) (by omega), e1 13 (by omega) (by omega) (by omega), e1 14 (by omega) (by omega) (by omega)]; exact k13
  · rw [f1 311 rfl rfl, f1 312 rfl rfl, f1 313 rfl rfl, f1 314 rfl rfl, f1 315 rfl rfl, e1 15 (by omega) (by omega) (by omega), e1 16 (by omega) (by omega) (by omega), e1 17 (by omega) (by omega) (by omega), e1 18 (by omega) (by omega) (by omega), e2 12]; exact k14
theorem ckp_q (h : c_kp N b H) {A B : List Nat} (hf : fq A B N M) (hA : kcI.all (fun c => ([] : List Nat).contains c || !A.contains c) = true) (hB : kcL.all (fun c => ([] : List Nat).contains c || !B.contains c) = true) : c_kp M b H := by
  have f1 : ∀ c, kcI.contains c = true → ([] : List Nat).contains c = false → M.1 c = N.1 c := fun c h1 h2 => hf.1 c (al_f hA h1 h2)
  have f2 : ∀ c, kcL.contains c = true → ([] : List Nat).contains c = false → M.2 c = N.2 c := fun c h1 h2 => hf.2 c (al_f hB h1 h2)
  have l1 : M.1 (mz_lv b) = N.1 (mz_lv b) := by rcases lv_b b with w | w <;> rw [w] <;> exact f1 _ rfl rfl
  have l2 : M.1 (mz_lv b + 1) = N.1 (mz_lv b + 1) := by rcases lv_b b with w | w <;> rw [w] <;> exact f1 _ rfl rfl
  obtain ⟨k1, k2, k3, k4, k5, k6, k6b, k7, k8, k8b, k9, k10, k11, k12, k13, k14, k15⟩ := h
  refine ⟨?_, ?_, ?_, ?_, ?_, ?_, ?_, ?_, ?_, ?_, ?_, ?_, ?_, ?_, ?_, ?_, ?_⟩
  · rw [f1 3 rfl rfl]; exact k1
  · rw [f1 37 rfl rfl]; exact k2
  · rw [f1 40 rfl rfl]; exact k3
  · rw [f1 66 rfl rfl]; exact k4
  · rw [f1 67 rfl rfl]; exact k5
  · rw [l1]; exact k6
  · rw [l2]; exact k6b
  · rw [f1 62 rfl rfl, f1 63 rfl rfl]; exact k7
  · rw [f1 210 rfl rfl, f1 211 rfl rfl, f1 212 rfl rfl]; exact k8
  · rw [f2 213 rfl rfl, f2 214 rfl rfl]; exact k8b
  · rw [f1 208 rfl rfl, f2 208 rfl rfl]; exact k9
  · rw [f1 215 rfl rfl]; exact k10
  · rw [f1 125 rfl rfl, f1 126 rfl rfl, f1 127 rfl rfl, f1 128 rfl rfl]; exact k11
  · rw [f1 123 rfl rfl, f1 118 rfl rfl, f1 119 rfl rfl, f1 120 rfl rfl, f1 121 rfl rfl, f1 117 rfl rfl]; exact k12
  · rw [f1 101 rfl rfl, f1 102 rfl rfl, f1 103 rfl rfl]; exact k13
  · rw [f1 104 rfl rfl, f1 105 rfl rfl, f1 106 rfl rfl, f1 107 rfl rfl, f1 108 rfl rfl]; exact k14
  · rw [f1 87 rfl rfl, f1 88 rfl rfl, f1 89 rfl rfl]; exact k15
theorem rkp_q (h : r_kp N H) {A B : List Nat} (hf : fq A B N M) (hA : krI.all (fun c => ([] : List Nat).contains c || !A.contains c) = true) (hB : krL.all (fun c => ([] : List Nat).contains c || !B.contains c) = true) (h27 : M.1 232 27 = N.1 232 27) (h21 : M.1 232 21 = N.1 232 21) (h9 : ∀ f, f = 2 ∨ (122 ≤ f ∧ f ≤ 125) → M.2 232 f = N.2 232 f)  : r_kp M H := by
  have f1 : ∀ c, krI.contains c = true → ([] : List Nat).contains c = false → M.1 c = N.1 c := fun c h1 h2 => hf.1 c (al_f hA h1 h2)
  have f2 : ∀ c, krL.contains c = true → ([] : List Nat).contains c = false → M.2 c = N.2 c := fun c h1 h2 => hf.2 c (al_f hB h1 h2)
  obtain ⟨k1, k2, k3, k4, k5, k6, k6b, k7, k8, k8b, k9, k10, k11, k12, k13, k14, k15⟩ := h
  refine ⟨?_, ?_, ?_, ?_, ?_, ?_, ?_, ?_, ?_, ?_, ?_, ?_, ?_, ?_, ?_, ?_, ?_⟩
  · rw [f1 233 rfl rfl]; exact k1
  · rw [f1 234 rfl rfl]; exact k2
  · rw [f1 244 rfl rfl]; exact k3
  · rw [f1 245 rfl rfl]; exact k4
  · rw [f1 246 rfl rfl]; exact k5
  · rw [h27]; exact k6
  · rw [f1 252 rfl rfl]; exact k6b
  · rw [f1 247 rfl rfl, f1 248 rfl rfl]; exact k7
  · rw [f2 321 rfl rfl, f2 322 rfl rfl, f2 323 rfl rfl]; exact k8
  · rw [f2 324 rfl rfl, f2 325 rfl rfl]; exact k8b
  · rw [h9 2 (by omega), h9 122 (by omega), h9 123 (by omega), h9 124 (by omega), h9 125 (by omega)]; exact k9
  · rw [h21, f1 249 rfl rfl]; exact k10
  · rw [f1 250 rfl rfl, f1 306 rfl rfl, f1 307 rfl rfl, f2 305 rfl rfl]; exact k11
  · rw [f1 287 rfl rfl, f1 288 rfl rfl, f1 289 rfl rfl, f1 290 rfl rfl, f2 291 rfl rfl, f2 292 rfl rfl]; exact k12
  · rw [f1 308 rfl rfl, f1 309 rfl rfl, f1 310 rfl rfl]; exact k13
  · rw [f1 311 rfl rfl, f1 312 rfl rfl, f1 313 rfl rfl, f1 314 rfl rfl, f1 315 rfl rfl]; exact k14
  · rw [f1 282 rfl rfl, f1 283 rfl rfl, f1 284 rfl rfl]; exact k15
theorem ckp_B (h : c_kp N b H) {A B : List Nat} (hf : fq A B N M) (hA : kcI.all (fun c => ([210, 211, 212, 208] : List Nat).contains c || !A.contains c) = true) (hB : kcL.all (fun c => ([213, 214, 208] : List Nat).contains c || !B.contains c) = true) (e1 : ∀ f, G.1 f = H.1 f) (e2 : ∀ f, f ≠ 2 → f ≠ 3 → f ≠ 4 → f ≠ 5 → G.2.1 f = H.2.1 f) (e3 : ∀ f, f ≠ 0 → f ≠ 1 → f ≠ 2 → G.2.2 f = H.2.2 f) (n8 : ∀ j, j < 11 → M.1 210 j = G.2.1 2 j ∧ M.1 211 j = G.2.1 3 j ∧ M.1 212 j = G.2.1 4 j) (n8b : ∀ j, j < 10 → M.2 213 j = G.2.2 0 j ∧ M.2 214 j = G.2.2 1 j) (n9 : M.1 208 0 = G.2.1 5 0 ∧ M.2 208 1 = G.2.2 2 0 ∧ M.2 208 2 = G.2.2 2 1 ∧ M.1 208 3 = G.2.1 5 1 ∧ M.1 208 4 = G.2.1 5 2) : c_kp M b G := by
  have f1 : ∀ c, kcI.contains c = true → ([210, 211, 212, 208] : List Nat).contains c = false → M.1 c = N.1 c := fun c h1 h2 => hf.1 c (al_f hA h1 h2)
  have f2 : ∀ c, kcL.contains c = true → ([213, 214, 208] : List Nat).contains c = false → M.2 c = N.2 c := fun c h1 h2 => hf.2 c (al_f hB h1 h2)
  have l1 : M.1 (mz_lv b) = N.1 (mz_lv b) := by rcases lv_b b with w | w <;> rw [w] <;> exact f1 _ rfl rfl
  have l2 : M.1 (mz_lv b + 1) = N.1 (mz_lv b + 1) := by rcases lv_b b with w | w <;> rw [w] <;> exact f1 _ rfl rfl
  obtain ⟨k1, k2, k3, k4, k5, k6, k6b, k7, k8, k8b, k9, k10, k11, k12, k13, k14, k15⟩ := h
  refine ⟨?_, ?_, ?_, ?_, ?_, ?_, ?_, ?_, n8, n8b, n9, ?_, ?_, ?_, ?_, ?_, ?_⟩
  · rw [f1 3 rfl rfl, e1 0]; exact k1
  · rw [f1 37 rfl rfl, e1 1]; exact k2
  · rw [f1 40 rfl rfl, e1 2]; exact k3
  · rw [f1 66 rfl rfl, e2 0 (by omega) (by omega) (by omega) (by omega)]; exact k4
  · rw [f1 67 rfl rfl, e1 3]; exact k5
  · rw [l1, e1 5]; exact k6
  · rw [l2, e1 5, e1 4]; exact k6b
  · rw [f1 62 rfl rfl, f1 63 rfl rfl, e1 6, e2 1 (by omega) (by omega) (by omega) (by omega)]; exact k7
  · rw [f1 215 rfl rfl, e2 6 (by omega) (by omega) (by omega) (by omega)]; exact k10
  · rw [f1 125 rfl rfl, f1 126 rfl rfl, f1 127 rfl rfl, f1 128 rfl rfl, e1 7, e2 7 (by omega) (by omega) (by omega) (by omega), e2 8 (by omega) (by omega) (by omega) (by omega), e2 9 (by omega) (by omega) (by omega) (by omega)]; exact k11
  · rw [f1 123 rfl rfl, f1 118 rfl rfl, f1 119 rfl rfl, f1 120 rfl rfl, f1 121 rfl rfl, f1 117 rfl rfl, e1 8, e1 9, e1 10, e1 11, e2 10 (by omega) (by omega) (by omega) (by omega), e2 11 (by omega) (by omega) (by omega) (by omega)]; exact k12
  · rw [f1 101 rfl rfl, f1 102 rfl rfl, f1 103 rfl rfl, e1 12, e1 13, e1 14]; exact k13
  · rw [f1 104 rfl rfl, f1 105 rfl rfl, f1 106 rfl rfl, f1 107 rfl rfl, f1 108 rfl rfl, e1 15, e1 16, e1 17, e1 18, e2 12 (by omega) (by omega) (by omega) (by omega)]; exact k14
  · rw [f1 87 rfl rfl, f1 88 rfl rfl, f1 89 rfl rfl, e1 19, e1 20, e1 21]; exact k15
theorem rkp_B (h : r_kp N H) {A B : List Nat} (hf : fq A B N M) (hA : krI.all (fun c => ([] : List Nat).contains c || !A.contains c) = true) (hB : krL.all (fun c => ([321, 322, 323, 324, 325] : List Nat).contains c || !B.contains c) = true) (h27 : M.1 232 27 = N.1 232 27) (h21 : M.1 232 21 = N.1 232 21) (e1 : ∀ f, G.1 f = H.1 f) (e2 : ∀ f, f ≠ 2 → f ≠ 3 → f ≠ 4 → f ≠ 5 → G.2.1 f = H.2.1 f) (e3 : ∀ f, f ≠ 0 → f ≠ 1 → f ≠ 2 → G.2.2 f = H.2.2 f) (n8 : ∀ j, j < 11 → M.2 321 j = (G.2.1 2 j).toInt64 ∧ M.2 322 j = (G.2.1 3 j).toInt64 ∧ M.2 323 j = (G.2.1 4 j).toInt64) (n8b : ∀ j, j < 10 → M.2 324 j = G.2.2 0 j ∧ M.2 325 j = G.2.2 1 j) (n9 : M.2 232 2 = (G.2.1 5 0).toInt64 ∧ M.2 232 122 = G.2.2 2 0 ∧ M.2 232 123 = G.2.2 2 1 ∧ M.2 232 124 = (G.2.1 5 1).toInt64 ∧ M.2 232 125 = (G.2.1 5 2).toInt64) : r_kp M G := by
  have f1 : ∀ c, krI.contains c = true → ([] : List Nat).contains c = false → M.1 c = N.1 c := fun c h1 h2 => hf.1 c (al_f hA h1 h2)
  have f2 : ∀ c, krL.contains c = true → ([321, 322, 323, 324, 325] : List Nat).contains c = false → M.2 c = N.2 c := fun c h1 h2 => hf.2 c (al_f hB h1 h2)
  obtain ⟨k1, k2, k3, k4, k5, k6, k6b, k7, k8, k8b, k9, k10, k11, k12, k13, k14, k15⟩ := h
  refine ⟨?_, ?_, ?_, ?_, ?_, ?_, ?_, ?_, n8, n8b, n9, ?_, ?_, ?_, ?_, ?_, ?_⟩
  · rw [f1 233 rfl rfl, e1 0]; exact k1
  · rw [f1 234 rfl rfl, e1 1]; exact k2
  · rw [f1 244 rfl rfl, e1 2]; exact k3
  · rw [f1 245 rfl rfl, e2 0 (by omega) (by omega) (by omega) (by omega)]; exact k4
  · rw [f1 246 rfl rfl, e1 3]; exact k5
  · rw [h27, e1 5]; exact k6
  · rw [f1 252 rfl rfl, e1 4]; exact k6b
  · rw [f1 247 rfl rfl, f1 248 rfl rfl, e1 6, e2 1 (by omega) (by omega) (by omega) (by omega)]; exact k7
  · rw [h21, f1 249 rfl rfl, e2 6 (by omega) (by omega) (by omega) (by omega)]; exact k10
  · rw [f1 250 rfl rfl, f1 306 rfl rfl, f1 307 rfl rfl, f2 305 rfl rfl, e1 7, e2 7 (by omega) (by omega) (by omega) (by omega), e2 8 (by omega) (by omega) (by omega) (by omega), e2 9 (by omega) (by omega) (by omega) (by omega)]; exact k11
  · rw [f1 287 rfl rfl, f1 288 rfl rfl, f1 289 rfl rfl, f1 290 rfl rfl, f2 291 rfl rfl, f2 292 rfl rfl, e1 8, e1 9, e1 10, e1 11, e2 10 (by omega) (by omega) (by omega) (by omega), e2 11 (by omega) (by omega) (by omega) (by omega)]; exact k12
  · rw [f1 308 rfl rfl, f1 309 rfl rfl, f1 310 rfl rfl, e1 12, e1 13, e1 14]; exact k13
  · rw [f1 311 rfl rfl, f1 312 rfl rfl, f1 313 rfl rfl, f1 314 rfl rfl, f1 315 rfl rfl, e1 15, e1 16, e1 17, e1 18, e2 12 (by omega) (by omega) (by omega) (by omega)]; exact k14
  · rw [f1 282 rfl rfl, f1 283 rfl rfl, f1 284 rfl rfl, e1 19, e1 20, e1 21]; exact k15
end Kpt
