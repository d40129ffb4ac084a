/-! PURE (50zzzzy): what lives beside; how a call ends. -/
def RsS : Type := (Nat → Nat → Nat) × (Nat → Nat → Nat) × (Int32) × (Nat) × (Nat → Nat) × (Bool) × (Nat → Nat) × (Nat) × (Nat) × (Nat → Nat) × (Nat) × (Nat → Nat)
abbrev RsS.dr (x : RsS) : Nat → Nat → Nat := x.1
abbrev RsS.bs (x : RsS) : Nat → Nat → Nat := x.2.1
abbrev RsS.ve (x : RsS) : Int32 := x.2.2.1
abbrev RsS.tl (x : RsS) : Nat := x.2.2.2.1
abbrev RsS.tx (x : RsS) : Nat → Nat := x.2.2.2.2.1
abbrev RsS.wr (x : RsS) : Bool := x.2.2.2.2.2.1
abbrev RsS.wh (x : RsS) : Nat → Nat := x.2.2.2.2.2.2.1
abbrev RsS.lg (x : RsS) : Nat := x.2.2.2.2.2.2.2.1
abbrev RsS.tn (x : RsS) : Nat := x.2.2.2.2.2.2.2.2.1
abbrev RsS.ta (x : RsS) : Nat → Nat := x.2.2.2.2.2.2.2.2.2.1
abbrev RsS.rn (x : RsS) : Nat := x.2.2.2.2.2.2.2.2.2.2.1
abbrev RsS.ra (x : RsS) : Nat → Nat := x.2.2.2.2.2.2.2.2.2.2.2
def RsR (H : Kp) (L : LvS) (R : RsS) (N1 N2 : mz_N) : Prop := (∀ d, d < 3 → ∀ i, i < 550 → N1.1 (5 + d) i = nI (R.dr d i) ∧ N1.1 (9 + d) i = nI (R.bs d i)) ∧ (∀ d, d < 3 → ∀ i, i < 550 → N2.1 233 (550 * (1 + d) + i) = nI (R.dr d i) ∧ N2.1 233 (550 * (4 + d) + i) = nI (R.bs d i)) ∧ (∀ d, d < 3 → ∀ i, i < 550 → R.dr d i < 4 ∧ R.bs d i < 4 ∧ (ge_sd (i % 110) < 4 → R.dr d i = 2 ∨ R.dr d i = 3)) ∧ (N1.1 2 3 = R.ve ∧ N2.1 232 4 = R.ve) ∧ (N1.1 41 1 = nI R.tl ∧ N2.1 232 25 = nI R.tl ∧ R.tl ≤ 196) ∧ (∀ i, i < R.tl → N1.1 42 i = nI (R.tx i) ∧ N2.1 251 i = nI (R.tx i) ∧ 32 ≤ R.tx i ∧ R.tx i ≤ 126) ∧ (N2.1 232 36 = mz_b01 R.wr ∧ (R.wr = true → N1.1 41 4 = N2.1 232 34 ∧ N1.1 41 5 = N2.1 232 35) ∧ (R.wr = false → N1.1 41 4 = -1 ∧ N1.1 41 5 = -1)) ∧ (∀ j, j < 40 → N1.1 109 j = nO 240 (R.wh j) ∧ N2.1 316 j = nO 240 (R.wh j)) ∧ (∀ j, j < 40 → H.1 15 j ≠ 1 → 240 ≤ R.wh j) ∧ (N1.1 100 10 = nI R.lg ∧ N2.1 232 112 = nI R.lg) ∧ (∀ i, i < 64 → i < R.lg → N1.1 111 i = (N2.2 317 i).toInt32 ∧ N1.1 112 i = N2.1 318 i ∧ N1.1 113 i = N2.1 319 i ∧ N1.1 114 i = N2.1 320 i) ∧ (N1.1 1 10 = nI R.tn ∧ N2.1 232 141 = nI R.tn ∧ R.tn ≤ 4056 ∧ ∀ i, i < R.tn → N1.1 228 i = nI (R.ta i) ∧ N2.1 334 i = by8 (R.ta i) ∧ R.ta i < 256) ∧ (N1.1 1 12 = nI R.rn ∧ N2.1 232 143 = nI R.rn ∧ R.rn ≤ 4100 ∧ ∀ i, i < R.rn → N1.1 229 i = nI (R.ra i) ∧ N2.1 335 i = by8 (R.ra i) ∧ R.ra i < 256) ∧ (L.S = (prs (H.1 4) (H.1 5 0)).2.2) ∧ (∀ j, H.1 19 j ≠ 1 → L.R.2 j = 0)
theorem RsR.dc {H : Kp} {L : LvS} {R : RsS} {N1 N2 : mz_N} (h : RsR H L R N1 N2) : ∀ d, d < 3 → ∀ i, i < 550 → N1.1 (5 + d) i = nI (R.dr d i) ∧ N1.1 (9 + d) i = nI (R.bs d i) := h.1
theorem RsR.rd {H : Kp} {L : LvS} {R : RsS} {N1 N2 : mz_N} (h : RsR H L R N1 N2) : ∀ d, d < 3 → ∀ i, i < 550 → N2.1 233 (550 * (1 + d) + i) = nI (R.dr d i) ∧ N2.1 233 (550 * (4 + d) + i) = nI (R.bs d i) := h.2.1
theorem RsR.db {H : Kp} {L : LvS} {R : RsS} {N1 N2 : mz_N} (h : RsR H L R N1 N2) : ∀ d, d < 3 → ∀ i, i < 550 → R.dr d i < 4 ∧ R.bs d i < 4 ∧ (ge_sd (i % 110) < 4 → R.dr d i = 2 ∨ R.dr d i = 3) := h.2.2.1
theorem RsR.ve {H : Kp} {L : LvS} {R : RsS} {N1 N2 : mz_N} (h : RsR H L R N1 N2) : N1.1 2 3 = R.ve ∧ N2.1 232 4 = R.ve := h.2.2.2.1
theorem RsR.tl {H : Kp} {L : LvS} {R : RsS} {N1 N2 : mz_N} (h : RsR H L R N1 N2) : N1.1 41 1 = nI R.tl ∧ N2.1 232 25 = nI R.tl ∧ R.tl ≤ 196 := h.2.2.2.2.1
theorem RsR.tx {H : Kp} {L : LvS} {R : RsS} {N1 N2 : mz_N} (h : RsR H L R N1 N2) : ∀ i, i < R.tl → N1.1 42 i = nI (R.tx i) ∧ N2.1 251 i = nI (R.tx i) ∧ 32 ≤ R.tx i ∧ R.tx i ≤ 126 := h.2.2.2.2.2.1
theorem RsR.fw {H : Kp} {L : LvS} {R : RsS} {N1 N2 : mz_N} (h : RsR H L R N1 N2) : N2.1 232 36 = mz_b01 R.wr ∧ (R.wr = true → N1.1 41 4 = N2.1 232 34 ∧ N1.1 41 5 = N2.1 232 35) ∧ (R.wr = false → N1.1 41 4 = -1 ∧ N1.1 41 5 = -1) := h.2.2.2.2.2.2.1
theorem RsR.wh {H : Kp} {L : LvS} {R : RsS} {N1 N2 : mz_N} (h : RsR H L R N1 N2) : ∀ j, j < 40 → N1.1 109 j = nO 240 (R.wh j) ∧ N2.1 316 j = nO 240 (R.wh j) := h.2.2.2.2.2.2.2.1
theorem RsR.wn {H : Kp} {L : LvS} {R : RsS} {N1 N2 : mz_N} (h : RsR H L R N1 N2) : ∀ j, j < 40 → H.1 15 j ≠ 1 → 240 ≤ R.wh j := h.2.2.2.2.2.2.2.2.1
theorem RsR.lg {H : Kp} {L : LvS} {R : RsS} {N1 N2 : mz_N} (h : RsR H L R N1 N2) : N1.1 100 10 = nI R.lg ∧ N2.1 232 112 = nI R.lg := h.2.2.2.2.2.2.2.2.2.1
theorem RsR.lo {H : Kp} {L : LvS} {R : RsS} {N1 N2 : mz_N} (h : RsR H L R N1 N2) : ∀ i, i < 64 → i < R.lg → N1.1 111 i = (N2.2 317 i).toInt32 ∧ N1.1 112 i = N2.1 318 i ∧ N1.1 113 i = N2.1 319 i ∧ N1.1 114 i = N2.1 320 i := h.2.2.2.2.2.2.2.2.2.2.1
theorem RsR.tp {H : Kp} {L : LvS} {R : RsS} {N1 N2 : mz_N} (h : RsR H L R N1 N2) : N1.1 1 10 = nI R.tn ∧ N2.1 232 141 = nI R.tn ∧ R.tn ≤ 4056 ∧ ∀ i, i < R.tn → N1.1 228 i = nI (R.ta i) ∧ N2.1 334 i = by8 (R.ta i) ∧ R.ta i < 256 := h.2.2.2.2.2.2.2.2.2.2.2.1
theorem RsR.re {H : Kp} {L : LvS} {R : RsS} {N1 N2 : mz_N} (h : RsR H L R N1 N2) : N1.1 1 12 = nI R.rn ∧ N2.1 232 143 = nI R.rn ∧ R.rn ≤ 4100 ∧ ∀ i, i < R.rn → N1.1 229 i = nI (R.ra i) ∧ N2.1 335 i = by8 (R.ra i) ∧ R.ra i < 256 := h.2.2.2.2.2.2.2.2.2.2.2.2.1
theorem RsR.sp {H : Kp} {L : LvS} {R : RsS} {N1 N2 : mz_N} (h : RsR H L R N1 N2) : L.S = (prs (H.1 4) (H.1 5 0)).2.2 := h.2.2.2.2.2.2.2.2.2.2.2.2.2.1
theorem RsR.pn {H : Kp} {L : LvS} {R : RsS} {N1 N2 : mz_N} (h : RsR H L R N1 N2) : ∀ j, H.1 19 j ≠ 1 → L.R.2 j = 0 := h.2.2.2.2.2.2.2.2.2.2.2.2.2.2
/-- cells of the rest -/
def rsA : List Nat := [5, 6, 7, 9, 10, 11, 42, 109, 111, 112, 113, 114, 228, 229]
def rsC : List Nat := [251, 316, 318, 319, 320, 334, 335]
def rsI : List Nat := [4, 25, 34, 35, 36, 112, 141, 143]
/-- the rest is left alone -/
def rsF (N1 N2 K1 K2 : mz_N) : Prop := (∀ c, rsA.contains c = true → K1.1 c = N1.1 c) ∧ (K1.1 2 3 = N1.1 2 3) ∧ (∀ f, f = 1 ∨ f = 4 ∨ f = 5 → K1.1 41 f = N1.1 41 f) ∧ (K1.1 100 10 = N1.1 100 10) ∧ (∀ f, f = 10 ∨ f = 12 → K1.1 1 f = N1.1 1 f) ∧ (∀ c, rsC.contains c = true → K2.1 c = N2.1 c) ∧ (K2.2 317 = N2.2 317) ∧ (∀ j, 550 ≤ j → K2.1 233 j = N2.1 233 j) ∧ (∀ f, rsI.contains f = true → K2.1 232 f = N2.1 232 f)
theorem rsF.a {N1 N2 K1 K2 : mz_N} (h : rsF N1 N2 K1 K2) : ∀ c, rsA.contains c = true → K1.1 c = N1.1 c := h.1
theorem rsF.v {N1 N2 K1 K2 : mz_N} (h : rsF N1 N2 K1 K2) : K1.1 2 3 = N1.1 2 3 := h.2.1
theorem rsF.t {N1 N2 K1 K2 : mz_N} (h : rsF N1 N2 K1 K2) : ∀ f, f = 1 ∨ f = 4 ∨ f = 5 → K1.1 41 f = N1.1 41 f := h.2.2.1
theorem rsF.g {N1 N2 K1 K2 : mz_N} (h : rsF N1 N2 K1 K2) : K1.1 100 10 = N1.1 100 10 := h.2.2.2.1
theorem rsF.k {N1 N2 K1 K2 : mz_N} (h : rsF N1 N2 K1 K2) : ∀ f, f = 10 ∨ f = 12 → K1.1 1 f = N1.1 1 f := h.2.2.2.2.1
theorem rsF.r {N1 N2 K1 K2 : mz_N} (h : rsF N1 N2 K1 K2) : ∀ c, rsC.contains c = true → K2.1 c = N2.1 c := h.2.2.2.2.2.1
theorem rsF.l {N1 N2 K1 K2 : mz_N} (h : rsF N1 N2 K1 K2) : K2.2 317 = N2.2 317 := h.2.2.2.2.2.2.1
theorem rsF.d {N1 N2 K1 K2 : mz_N} (h : rsF N1 N2 K1 K2) : ∀ j, 550 ≤ j → K2.1 233 j = N2.1 233 j := h.2.2.2.2.2.2.2.1
theorem rsF.f {N1 N2 K1 K2 : mz_N} (h : rsF N1 N2 K1 K2) : ∀ f, rsI.contains f = true → K2.1 232 f = N2.1 232 f := h.2.2.2.2.2.2.2.2
/-- each side leaves the other's cells alone -/
def oF (N1 N2 K1 K2 : mz_N) : Prop := (∀ c, 232 ≤ c → K1.1 c = N1.1 c ∧ K1.2 c = N1.2 c) ∧ ∀ c, c < 232 ∨ 342 ≤ c → K2.1 c = N2.1 c ∧ K2.2 c = N2.2 c
theorem oF_r (N1 N2 : mz_N) : oF N1 N2 N1 N2 := ⟨fun _ _ => ⟨rfl, rfl⟩, fun _ _ => ⟨rfl, rfl⟩⟩
theorem oF_t {N1 N2 M1 M2 K1 K2 : mz_N} (h1 : oF N1 N2 M1 M2) (h2 : oF M1 M2 K1 K2) : oF N1 N2 K1 K2 := ⟨fun c hc => ⟨(h2.1 c hc).1.trans (h1.1 c hc).1, (h2.1 c hc).2.trans (h1.1 c hc).2⟩, fun c hc => ⟨(h2.2 c hc).1.trans (h1.2 c hc).1, (h2.2 c hc).2.trans (h1.2 c hc).2⟩⟩
theorem ct_ge {A : List Nat} (h : A.all (fun c => decide (c < 232)) = true) {c : Nat} (hc : 232 ≤ c) : A.contains c = false := by
  cases e : A.contains c with
  | false => rfl
  | true =>
    have := of_decide_eq_true (List.all_eq_true.mp h c (by simpa using e))
    omega
theorem ct_in {A : List Nat} (h : A.all (fun c => decide (232 ≤ c ∧ c < 342)) = true) {c : Nat} (hc : c < 232 ∨ 342 ≤ c) : A.contains c = false := by
  cases e : A.contains c with
  | false => rfl
  | true =>
    have := of_decide_eq_true (List.all_eq_true.mp h c (by simpa using e))
    omega
theorem oF_q {N1 N2 K1 K2 : mz_N} {A B C D : List Nat} (h1 : fq A B N1 K1) (h2 : fq C D N2 K2) (a : A.all (fun c => decide (c < 232)) = true) (b : B.all (fun c => decide (c < 232)) = true) (c : C.all (fun c => decide (232 ≤ c ∧ c < 342)) = true) (d : D.all (fun c => decide (232 ≤ c ∧ c < 342)) = true) : oF N1 N2 K1 K2 :=
  ⟨fun z hz => ⟨h1.1 z (ct_ge a hz), h1.2 z (ct_ge b hz)⟩, fun z hz => ⟨h2.1 z (ct_in c hz), h2.2 z (ct_in d hz)⟩⟩
theorem rsF_r (N1 N2 : mz_N) : rsF N1 N2 N1 N2 := ⟨fun _ _ => rfl, rfl, fun _ _ => rfl, rfl, fun _ _ => rfl, fun _ _ => rfl, rfl, fun _ _ => rfl, fun _ _ => rfl⟩
theorem rsF_t {N1 N2 M1 M2 K1 K2 : mz_N} (h1 : rsF N1 N2 M1 M2) (h2 : rsF M1 M2 K1 K2) : rsF N1 N2 K1 K2 := ⟨fun c hc => (h2.a c hc).trans (h1.a c hc), h2.v.trans h1.v, fun f hf => (h2.t f hf).trans (h1.t f hf), h2.g.trans h1.g, fun f hf => (h2.k f hf).trans (h1.k f hf), fun c hc => (h2.r c hc).trans (h1.r c hc), h2.l.trans h1.l, fun j hj => (h2.d j hj).trans (h1.d j hj), fun f hf => (h2.f f hf).trans (h1.f f hf)⟩
theorem ct_nt {A X : List Nat} (h : X.all (fun c => !A.contains c) = true) {c : Nat} (hc : X.contains c = true) : A.contains c = false := by
  have := List.all_eq_true.mp h c (by simpa using hc)
  simpa using this
/-- by lists of cells that are touched -/
theorem rsF_q {N1 N2 K1 K2 : mz_N} {A B C D : List Nat} (h1 : fq A B N1 K1) (h2 : fq C D N2 K2) (a : (1 :: 2 :: 41 :: 100 :: rsA).all (fun c => !A.contains c) = true) (c : (233 :: rsC).all (fun c => !C.contains c) = true) (d : D.contains 317 = false) (i : ∀ f, rsI.contains f = true → K2.1 232 f = N2.1 232 f) : rsF N1 N2 K1 K2 := by
  have s1 : ∀ z, (1 :: 2 :: 41 :: 100 :: rsA).contains z = true → K1.1 z = N1.1 z := fun z hz => h1.1 z (ct_nt a hz)
  have s2 : ∀ z, (233 :: rsC).contains z = true → K2.1 z = N2.1 z := fun z hz => h2.1 z (ct_nt c hz)
  refine ⟨fun z hz => s1 z ?_, by rw [s1 2 rfl], fun f _ => by rw [s1 41 rfl], by rw [s1 100 rfl], fun f _ => by rw [s1 1 rfl], fun z hz => s2 z ?_, h2.2 317 d, fun j _ => by rw [s2 233 rfl], i⟩
  · have : z ∈ rsA := by simpa using hz
    simp [this]
  · have : z ∈ rsC := by simpa using hz
    simp [this]
theorem RsR_f {H G : Kp} {L L' : LvS} {R : RsS} {N1 N2 K1 K2 : mz_N} (h : RsR H L R N1 N2) (f : rsF N1 N2 K1 K2) (h15 : ∀ j, j < 40 → H.1 15 j = 1 → G.1 15 j = 1) (h4 : G.1 4 = H.1 4) (h5 : G.1 5 0 = H.1 5 0) (hs : L'.S = L.S) (hp : ∀ j, G.1 19 j ≠ 1 → L'.R.2 j = 0) : RsR G L' R K1 K2 := by
  obtain ⟨a1, a2, a3, a4, a5, a6, a7, a8, a9, a10, a11, a12, a13, a14, a15⟩ := h
  have d1 : ∀ d, d < 3 → K1.1 (5 + d) = N1.1 (5 + d) ∧ K1.1 (9 + d) = N1.1 (9 + d) := fun d hd => by
    rcases (show d = 0 ∨ d = 1 ∨ d = 2 by omega) with w | w | w <;> subst w <;> exact ⟨f.a _ rfl, f.a _ rfl⟩
  refine ⟨fun d hd i hi => ?_, fun d hd i hi => ?_, a3, ?_, ?_, ?_, ?_, ?_, fun j hj w => ?_, ?_, ?_, ?_, ?_, ?_, hp⟩
  · rw [(d1 d hd).1, (d1 d hd).2]; exact a1 d hd i hi
  · rw [f.d _ (by omega), f.d _ (by omega)]; exact a2 d hd i hi
  · rw [f.v, f.f 4 rfl]; exact a4
  · rw [f.t 1 (by omega), f.f 25 rfl]; exact a5
  · rw [f.a 42 rfl, f.r 251 rfl]; exact a6
  · rw [f.f 36 rfl, f.t 4 (by omega), f.t 5 (by omega), f.f 34 rfl, f.f 35 rfl]; exact a7
  · rw [f.a 109 rfl, f.r 316 rfl]; exact a8
  · exact a9 j hj (fun z => w (h15 j hj z))
  · rw [f.g, f.f 112 rfl]; exact a10
  · rw [f.a 111 rfl, f.a 112 rfl, f.a 113 rfl, f.a 114 rfl, f.l, f.r 318 rfl, f.r 319 rfl, f.r 320 rfl]; exact a11
  · rw [f.k 10 (by omega), f.f 141 rfl, f.a 228 rfl, f.r 334 rfl]; exact a12
  · rw [f.k 12 (by omega), f.f 143 rfl, f.a 229 rfl, f.r 335 rfl]; exact a13
  · rw [hs, h4, h5]; exact a14
/-- both are up and alike; both are down and alike -/
def Up (q B : Nat) (N1 : mz_N) (b : Bool) (N2 : mz_N) : Prop := ∃ q' B' s D H x L R, q' ≤ q ∧ B' ≤ B ∧ MR q' B' s D H x L N1 b N2 ∧ RsR H L R N1 N2 ∧ R.lg ≤ q ∧ 1 ≤ q'
def Dn (q B : Nat) (N1 N2 : mz_N) : Prop := ∃ D, Dwn B D N1 N2 ∧ Jd q D ∧ N1.2 56 15 = N2.2 232 1
def Sm (q B : Nat) (N1 : mz_N) (b : Bool) (N2 : mz_N) : Prop := Up q B N1 b N2 ∨ Dn q B N1 N2
/-- how a call ends: that asks, that changes something -/
def cal {α : Type} (q B : Nat) (b : Bool) (N1 N2 : mz_N) (c : Nat × α × mz_N) (r : α × mz_N) : Prop := c.1 ≤ 2 ∧ r.2.1 232 0 = nI c.1 ∧ (c.1 = 0 → r.1 = c.2.1) ∧ oF N1 N2 c.2.2 r.2 ∧ Sm q B c.2.2 b r.2
def caq {α : Type} (q B : Nat) (b : Bool) (N1 N2 : mz_N) (c : Nat × α) (r : α × mz_N) : Prop := c.1 ≤ 2 ∧ r.2.1 232 0 = nI c.1 ∧ (c.1 = 0 → r.1 = c.2) ∧ oF N1 N2 N1 r.2 ∧ Sm q B N1 b r.2
section Cq
variable {α : Type} {N1 N2 K1 K2 : mz_N} {b : Bool} {B q q' B' : Nat} {s : st_S} {D H : Kp} {x : CrS} {L : LvS} {R : RsS}
theorem Up_m (hq : q ≤ q') (hB : B ≤ B') (h : Up q B N1 b N2) : Up q' B' N1 b N2 := by
  obtain ⟨p, C, s, D, H, x, L, R, h1, h2, h3, h4, h5, h6⟩ := h
  exact ⟨p, C, s, D, H, x, L, R, by omega, by omega, h3, h4, by omega, h6⟩
theorem Dn_m (hq : q ≤ q') (hB : B ≤ B') (h : Dn q B N1 N2) : Dn q' B' N1 N2 := by
  obtain ⟨D, h1, h2, h3⟩ := h
  exact ⟨D, Dwn_m hB h1, Jd_m hq h2, h3⟩
theorem Sm_m (hq : q ≤ q') (hB : B ≤ B') (h : Sm q B N1 b N2) : Sm q' B' N1 b N2 := h.imp (Up_m hq hB) (Dn_m hq hB)
theorem oF_code {c : Int32} : oF N1 N2 N1 (mz_pI N2 232 0 c) := oF_q (A := []) (B := []) (C := [232]) (D := []) (fq_refl _ _ _) (fq_pI (fq_refl _ _ _) rfl) rfl rfl rfl rfl
theorem rsF_code {c : Int32} : rsF N1 N2 N1 (mz_pI N2 232 0 c) := rsF_q (A := []) (B := []) (C := [232]) (D := []) (fq_refl _ _ _) (fq_pI (fq_refl _ _ _) rfl) rfl rfl rfl (fun f hf => by
  rw [pI_s, sI_e, up_a, if_neg (fun z => by rw [z] at hf; cases hf)])
theorem Up_code {c : Int32} (h : Up q B N1 b N2) : Up q B N1 b (mz_pI N2 232 0 c) := by
  obtain ⟨p, C, s, D, H, x, L, R, h1, h2, h3, h4, h5, h6⟩ := h
  exact ⟨p, C, s, D, H, x, L, R, h1, h2, MR_code h3, RsR_f h4 rsF_code (fun _ _ z => z) rfl rfl rfl h4.pn, h5, h6⟩
theorem Dn_code {c : Int32} (h : Dn q B N1 N2) : Dn q B N1 (mz_pI N2 232 0 c) := by
  obtain ⟨D, ⟨d, kt, kb, h1, h2, h3, h4, h5, h6, h7, h8⟩, i2, i3⟩ := h
  have e : ∀ z, z ≠ 232 → (mz_pI N2 232 0 c).1 z = N2.1 z := fun z hz => by rw [pI_s, sI_n hz]
  refine ⟨D, ⟨d, kt, kb, h1, ?_, h3, ?_, h5, h6, ?_, h8⟩, i2, i3⟩
  · unfold r_dk; rw [e 329 (by decide)]; exact h2
  · rw [pI_s, sI_e, up_a, if_neg (by decide)]; exact h4
  · unfold dz; rw [e 308 (by decide), e 311 (by decide), e 282 (by decide), e 287 (by decide)]; exact h7
theorem Sm_code {c : Int32} (h : Sm q B N1 b N2) : Sm q B N1 b (mz_pI N2 232 0 c) := h.imp Up_code Dn_code
theorem code_0 {c : Int32} : (mz_pI N2 232 0 c).1 232 0 = c := by rw [pI_s, sI_e, up_a, if_pos rfl]
/-- a call that asks, both up or both down -/
theorem caq_q {c : Nat × α} {r : α × mz_N} (h : Sm q B N1 b N2) (hq : qok N2 c r) : caq q B b N1 N2 c r := by
  obtain ⟨h1, h2, h3⟩ := hq
  refine ⟨h1, by rw [h2]; exact code_0, h3, by rw [h2]; exact oF_code, by rw [h2]; exact Sm_code h⟩
/-- a call that is refused -/
theorem cal_no {c : Nat × α × mz_N} {r : α × mz_N} (h : Sm q B N1 b N2) (h1 : c.1 ≤ 2) (h2 : c.1 ≠ 0) (h3 : c.2.2 = N1) (h4 : r.2 = mz_pI N2 232 0 (nI c.1)) : cal q B b N1 N2 c r :=
  ⟨h1, by rw [h4]; exact code_0, fun z => absurd z h2, by rw [h3, h4]; exact oF_code, by rw [h3, h4]; exact Sm_code h⟩
theorem Sm_u (h : Up q B N1 b N2) : N1.1 219 7 = 0 ∧ N2.1 232 137 = 0 := by
  obtain ⟨p, C, s, D, H, x, L, R, h1, h2, h3, h4, h5, h6⟩ := h
  exact ⟨MR_u1 h3, MR_u2 h3⟩
theorem Sm_d (h : Dn q B N1 N2) : N1.1 219 7 = 1 ∧ N2.1 232 137 = 1 := by
  obtain ⟨D, ⟨d, kt, kb, h1, h2, h3, h4, h5, h6, h7⟩, i2, i3⟩ := h
  exact ⟨h3, h4⟩
theorem Dn_w (hj : Jd q D) (hd : Dwn B D K1 K2) (hs : K1.2 56 15 = K2.2 232 1) : Sm q B K1 b K2 := Or.inr ⟨D, hd, hj, hs⟩
end Cq
