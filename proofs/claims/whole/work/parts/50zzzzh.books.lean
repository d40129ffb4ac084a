/-! PURE (50zzzzh): the books in a minute. -/
section Bo
variable {N1 N2 K1 K2 : mz_N} {b : Bool} {B : Nat} {s : st_S} {D H G : Kp} {x : CrS}
/-- what of the store's own stays when a step touches other cells -/
def stK (N1 N2 K1 K2 : mz_N) : Prop := (∀ c, c = 134 ∨ c = 221 ∨ c = 222 ∨ c = 223 ∨ c = 224 → K1.1 c = N1.1 c) ∧ K1.1 219 = N1.1 219 ∧ (∀ c, c = 329 ∨ c = 330 ∨ c = 331 → K2.1 c = N2.1 c) ∧ (∀ f, f = 133 ∨ f = 135 ∨ f = 136 ∨ f = 137 → K2.1 232 f = N2.1 232 f) ∧ K2.2 232 134 = N2.2 232 134
theorem stK_of {A1 B1 A2 B2 : List Nat} (f1 : fq A1 B1 N1 K1) (f2 : fq A2 B2 N2 K2) (h1 : ([134, 219, 221, 222, 223, 224] : List Nat).all (fun c => !A1.contains c) = true) (h2 : ([329, 330, 331] : List Nat).all (fun c => !A2.contains c) = true) (h3 : ∀ f, f = 133 ∨ f = 135 ∨ f = 136 ∨ f = 137 → K2.1 232 f = N2.1 232 f) (h4 : K2.2 232 134 = N2.2 232 134) : stK N1 N2 K1 K2 := by
  have q1 : ∀ c, ([134, 219, 221, 222, 223, 224] : List Nat).contains c = true → K1.1 c = N1.1 c := fun c hc => f1.1 c (by
    have := List.all_eq_true.mp h1 c (by simpa using hc)
    simpa using this)
  have q2 : ∀ c, ([329, 330, 331] : List Nat).contains c = true → K2.1 c = N2.1 c := fun c hc => f2.1 c (by
    have := List.all_eq_true.mp h2 c (by simpa using hc)
    simpa using this)
  refine ⟨fun c hc => q1 c ?_, q1 219 rfl, fun c hc => q2 c ?_, h3, h4⟩
  · rcases hc with w | w | w | w | w <;> rw [w] <;> rfl
  · rcases hc with w | w | w <;> rw [w] <;> rfl
theorem KS_B (h : KS B s D H N1 b N2) (hs : stK N1 N2 K1 K2) (e1 : G.1 = H.1) (hc : c_kp K1 b G) (hr : r_kp K2 G) : KS B s D G K1 b K2 := by
  obtain ⟨s1, s2, s3, s4, s5⟩ := hs
  refine ⟨h.ok, st_cF h.c (s1 221 (by omega)) (s1 222 (by omega)) (s1 223 (by omega)) (s1 224 (by omega)) (fun f _ _ => by rw [s2]), st_rF h.r (s3 329 (by omega)) (s3 330 (by omega)) (s3 331 (by omega)) s4 s5, hc, hr, ?_, zv_f h.zv (s1 134 (by omega))⟩
  have := h.hb
  unfold kpb at this ⊢
  rw [e1]
  exact this
theorem KS_q {A1 B1 A2 B2 : List Nat} (h : KS B s D H N1 b N2) (f1 : fq A1 B1 N1 K1) (f2 : fq A2 B2 N2 K2) (a1 : kcI.all (fun c => ([] : List Nat).contains c || !A1.contains c) = true) (a2 : kcL.all (fun c => ([] : List Nat).contains c || !B1.contains c) = true) (a3 : krI.all (fun c => ([] : List Nat).contains c || !A2.contains c) = true) (a4 : krL.all (fun c => ([] : List Nat).contains c || !B2.contains c) = true) (h1 : ([134, 219, 221, 222, 223, 224] : List Nat).all (fun c => !A1.contains c) = true) (h2 : ([329, 330, 331] : List Nat).all (fun c => !A2.contains c) = true) (i2 : ∀ f, f = 21 ∨ f = 27 ∨ f = 133 ∨ f = 135 ∨ f = 136 ∨ f = 137 → K2.1 232 f = N2.1 232 f) (l2 : ∀ f, f = 2 ∨ (122 ≤ f ∧ f ≤ 125) ∨ f = 134 → K2.2 232 f = N2.2 232 f) : KS B s D H K1 b K2 :=
  KS_B h (stK_of f1 f2 h1 h2 (fun f hf => i2 f (by omega)) (l2 134 (by omega))) rfl (ckp_q h.kc f1 a1 a2) (rkp_q h.kr f2 a3 a4 (i2 27 (by omega)) (i2 21 (by omega)) (fun f hf => l2 f (by omega)))
theorem crC_f {A1 B1 : List Nat} (h : crC N1 H x) (f : fq A1 B1 N1 K1) (ha : ([115, 122, 130, 131, 132, 133, 134, 136, 137, 139, 140, 141] : List Nat).all (fun c => !A1.contains c) = true) (e : G.1 8 = H.1 8) : crC K1 G x := by
  have q1 : ∀ c, ([115, 122, 130, 131, 132, 133, 134, 136, 137, 139, 140, 141] : List Nat).contains c = true → K1.1 c = N1.1 c := fun c hc => f.1 c (by
    have := List.all_eq_true.mp ha c (by simpa using hc)
    simpa using this)
  obtain ⟨c1, c2, c3, c4, c5, c6, c7⟩ := h
  refine ⟨?_, ?_, ?_, ?_, ?_, fun u hu => ?_, ?_⟩
  · rw [q1 122 rfl, e]; exact c1
  · rw [q1 115 rfl]; exact c2
  · rw [q1 115 rfl]; exact c3
  · rw [q1 130 rfl, q1 131 rfl, q1 132 rfl]; exact c4
  · rw [q1 133 rfl, q1 134 rfl]; exact c5
  · have e1 : K1.1 (136 + u) = N1.1 (136 + u) := by rcases (show u = 0 ∨ u = 1 by omega) with w | w <;> rw [w] <;> exact q1 _ rfl
    have e2 : K1.1 (139 + u) = N1.1 (139 + u) := by rcases (show u = 0 ∨ u = 1 by omega) with w | w <;> rw [w] <;> exact q1 _ rfl
    rw [e1, e2]; exact c6 u hu
  · rw [q1 141 rfl]; exact c7
theorem crR_f {A2 B2 : List Nat} (h : crR N2 H x) (f : fq A2 B2 N2 K2) (ha : ([293, 294, 296, 297, 302, 303] : List Nat).all (fun c => !A2.contains c) = true) (hb : ([295, 298, 304] : List Nat).all (fun c => !B2.contains c) = true) (i : K2.1 232 96 = N2.1 232 96) (l : K2.2 232 87 = N2.2 232 87) (e : G.1 8 = H.1 8) : crR K2 G x := by
  have q1 : ∀ c, ([293, 294, 296, 297, 302, 303] : List Nat).contains c = true → K2.1 c = N2.1 c := fun c hc => f.1 c (by
    have := List.all_eq_true.mp ha c (by simpa using hc)
    simpa using this)
  have q2 : ∀ c, ([295, 298, 304] : List Nat).contains c = true → K2.2 c = N2.2 c := fun c hc => f.2 c (by
    have := List.all_eq_true.mp hb c (by simpa using hc)
    simpa using this)
  obtain ⟨c1, c2, c3, c4, c5, c6, c7⟩ := h
  refine ⟨?_, ?_, ?_, ?_, ?_, ?_, ?_⟩
  · rw [q1 293 rfl, e]; exact c1
  · rw [l]; exact c2
  · rw [i]; exact c3
  · rw [q1 302 rfl, q1 303 rfl, q2 304 rfl]; exact c4
  · rw [q2 298 rfl]; exact c5
  · rw [q1 296 rfl, q1 297 rfl, q2 298 rfl]; exact c6
  · rw [q1 294 rfl, q2 295 rfl]; exact c7
end Bo
