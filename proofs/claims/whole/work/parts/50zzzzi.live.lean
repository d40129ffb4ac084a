/-! PURE (50zzzzi): what lives in both houses. -/
def LvS : Type := (Nat → Int) × (CiS) × (SuS) × (ClS) × (wtc) × (Nat → Nat) × (ptR) × (List (Nat × Nat)) × (Int64)
abbrev LvS.T (x : LvS) : Nat → Int := x.1
abbrev LvS.c (x : LvS) : CiS := x.2.1
abbrev LvS.u (x : LvS) : SuS := x.2.2.1
abbrev LvS.k (x : LvS) : ClS := x.2.2.2.1
abbrev LvS.w (x : LvS) : wtc := x.2.2.2.2.1
abbrev LvS.cr (x : LvS) : Nat → Nat := x.2.2.2.2.2.1
abbrev LvS.R (x : LvS) : ptR := x.2.2.2.2.2.2.1
abbrev LvS.S (x : LvS) : List (Nat × Nat) := x.2.2.2.2.2.2.2.1
abbrev LvS.sd (x : LvS) : Int64 := x.2.2.2.2.2.2.2.2
def LR (q : Nat) (e fl : Nat → Nat) (L : LvS) (N1 : mz_N) (b : Bool) (N2 : mz_N) : Prop := (plW N1 N2 e fl) ∧ (prR N1 b N2 L.S) ∧ (prB L.S) ∧ (tgR N1 N2 L.T) ∧ (tgB L.T) ∧ (ciR N1 N2 L.c) ∧ (ciB L.c) ∧ (suC N1 L.u) ∧ (suR N2 L.u) ∧ (suB q L.u) ∧ (clC N1 L.k) ∧ (clR N2 L.k) ∧ (clB q L.k) ∧ (waR N1 N2 L.w L.cr) ∧ (waB q L.w L.cr) ∧ (poR N1 N2 L.R) ∧ (∀ j, j < 8 → L.R.2 j ≤ 8 * q) ∧ (N1.2 56 15 = L.sd ∧ N2.2 232 1 = L.sd)
theorem LR.pl {q : Nat} {e fl : Nat → Nat} {L : LvS} {N1 : mz_N} {b : Bool} {N2 : mz_N} (h : LR q e fl L N1 b N2) : plW N1 N2 e fl := h.1
theorem LR.pr {q : Nat} {e fl : Nat → Nat} {L : LvS} {N1 : mz_N} {b : Bool} {N2 : mz_N} (h : LR q e fl L N1 b N2) : prR N1 b N2 L.S := h.2.1
theorem LR.prb {q : Nat} {e fl : Nat → Nat} {L : LvS} {N1 : mz_N} {b : Bool} {N2 : mz_N} (h : LR q e fl L N1 b N2) : prB L.S := h.2.2.1
theorem LR.tg {q : Nat} {e fl : Nat → Nat} {L : LvS} {N1 : mz_N} {b : Bool} {N2 : mz_N} (h : LR q e fl L N1 b N2) : tgR N1 N2 L.T := h.2.2.2.1
theorem LR.tgb {q : Nat} {e fl : Nat → Nat} {L : LvS} {N1 : mz_N} {b : Bool} {N2 : mz_N} (h : LR q e fl L N1 b N2) : tgB L.T := h.2.2.2.2.1
theorem LR.ci {q : Nat} {e fl : Nat → Nat} {L : LvS} {N1 : mz_N} {b : Bool} {N2 : mz_N} (h : LR q e fl L N1 b N2) : ciR N1 N2 L.c := h.2.2.2.2.2.1
theorem LR.cib {q : Nat} {e fl : Nat → Nat} {L : LvS} {N1 : mz_N} {b : Bool} {N2 : mz_N} (h : LR q e fl L N1 b N2) : ciB L.c := h.2.2.2.2.2.2.1
theorem LR.sc {q : Nat} {e fl : Nat → Nat} {L : LvS} {N1 : mz_N} {b : Bool} {N2 : mz_N} (h : LR q e fl L N1 b N2) : suC N1 L.u := h.2.2.2.2.2.2.2.1
theorem LR.sr {q : Nat} {e fl : Nat → Nat} {L : LvS} {N1 : mz_N} {b : Bool} {N2 : mz_N} (h : LR q e fl L N1 b N2) : suR N2 L.u := h.2.2.2.2.2.2.2.2.1
theorem LR.sb {q : Nat} {e fl : Nat → Nat} {L : LvS} {N1 : mz_N} {b : Bool} {N2 : mz_N} (h : LR q e fl L N1 b N2) : suB q L.u := h.2.2.2.2.2.2.2.2.2.1
theorem LR.kc {q : Nat} {e fl : Nat → Nat} {L : LvS} {N1 : mz_N} {b : Bool} {N2 : mz_N} (h : LR q e fl L N1 b N2) : clC N1 L.k := h.2.2.2.2.2.2.2.2.2.2.1
theorem LR.kr {q : Nat} {e fl : Nat → Nat} {L : LvS} {N1 : mz_N} {b : Bool} {N2 : mz_N} (h : LR q e fl L N1 b N2) : clR N2 L.k := h.2.2.2.2.2.2.2.2.2.2.2.1
theorem LR.kb {q : Nat} {e fl : Nat → Nat} {L : LvS} {N1 : mz_N} {b : Bool} {N2 : mz_N} (h : LR q e fl L N1 b N2) : clB q L.k := h.2.2.2.2.2.2.2.2.2.2.2.2.1
theorem LR.wa {q : Nat} {e fl : Nat → Nat} {L : LvS} {N1 : mz_N} {b : Bool} {N2 : mz_N} (h : LR q e fl L N1 b N2) : waR N1 N2 L.w L.cr := h.2.2.2.2.2.2.2.2.2.2.2.2.2.1
theorem LR.wab {q : Nat} {e fl : Nat → Nat} {L : LvS} {N1 : mz_N} {b : Bool} {N2 : mz_N} (h : LR q e fl L N1 b N2) : waB q L.w L.cr := h.2.2.2.2.2.2.2.2.2.2.2.2.2.2.1
theorem LR.po {q : Nat} {e fl : Nat → Nat} {L : LvS} {N1 : mz_N} {b : Bool} {N2 : mz_N} (h : LR q e fl L N1 b N2) : poR N1 N2 L.R := h.2.2.2.2.2.2.2.2.2.2.2.2.2.2.2.1
theorem LR.pob {q : Nat} {e fl : Nat → Nat} {L : LvS} {N1 : mz_N} {b : Bool} {N2 : mz_N} (h : LR q e fl L N1 b N2) : ∀ j, j < 8 → L.R.2 j ≤ 8 * q := h.2.2.2.2.2.2.2.2.2.2.2.2.2.2.2.2.1
theorem LR.sd {q : Nat} {e fl : Nat → Nat} {L : LvS} {N1 : mz_N} {b : Bool} {N2 : mz_N} (h : LR q e fl L N1 b N2) : N1.2 56 15 = L.sd ∧ N2.2 232 1 = L.sd := h.2.2.2.2.2.2.2.2.2.2.2.2.2.2.2.2.2
section Lf
variable {N1 N2 M1 M2 : mz_N} {b : Bool} {e fl : Nat → Nat} {q : Nat} {L : LvS} {T : Nat → Int} {c : CiS} {u : SuS} {k : ClS} {w : wtc} {cr : Nat → Nat} {R : ptR} {S : List (Nat × Nat)}
theorem tgR_f (h : tgR N1 N2 T) (h1 : M1.1 53 = N1.1 53) (h2 : M2.1 257 = N2.1 257) : tgR M1 M2 T := by unfold tgR; rw [h1, h2]; exact h
theorem ciR_f (h : ciR N1 N2 c) (h1 : ∀ z, 58 ≤ z → z ≤ 61 → M1.1 z = N1.1 z) (h2 : ∀ z, 272 ≤ z → z ≤ 275 → M2.1 z = N2.1 z) : ciR M1 M2 c := by
  unfold ciR
  rw [h1 58 (by omega) (by omega), h1 59 (by omega) (by omega), h1 60 (by omega) (by omega), h1 61 (by omega) (by omega), h2 272 (by omega) (by omega), h2 273 (by omega) (by omega), h2 274 (by omega) (by omega), h2 275 (by omega) (by omega)]
  exact h
theorem suC_f (h : suC N1 u) (h1 : ∀ f, f ≠ 6 → f ≠ 10 → M1.1 56 f = N1.1 56 f) : suC M1 u := by
  obtain ⟨a1, a2, a3, a4, a5, a6, a7, a8, a9, a10, a11⟩ := h
  exact ⟨by rw [h1 1 (by decide) (by decide)]; exact a1, by rw [h1 2 (by decide) (by decide)]; exact a2, by rw [h1 3 (by decide) (by decide)]; exact a3, by rw [h1 7 (by decide) (by decide)]; exact a4, by rw [h1 11 (by decide) (by decide)]; exact a5, by rw [h1 12 (by decide) (by decide)]; exact a6, by rw [h1 13 (by decide) (by decide)]; exact a7, by rw [h1 4 (by decide) (by decide)]; exact a8, by rw [h1 5 (by decide) (by decide)]; exact a9, by rw [h1 8 (by decide) (by decide)]; exact a10, by rw [h1 9 (by decide) (by decide)]; exact a11⟩
theorem suR_f (h : suR N2 u) (h1 : ∀ f, 52 ≤ f → f ≤ 65 → M2.1 232 f = N2.1 232 f) (h2 : M2.2 232 68 = N2.2 232 68) (h3 : M2.2 232 66 = N2.2 232 66) : suR M2 u := by
  obtain ⟨a1, a2, a3, a4, a5, a6, a7, a8, a9, a10, a11⟩ := h
  exact ⟨by rw [h1 54 (by decide) (by decide)]; exact a1, by rw [h1 53 (by decide) (by decide)]; exact a2, by rw [h1 55 (by decide) (by decide)]; exact a3, by rw [h1 61 (by decide) (by decide)]; exact a4, by rw [h1 62 (by decide) (by decide)]; exact a5, by rw [h2]; exact a6, by rw [h3]; exact a7, by rw [h1 52 (by decide) (by decide)]; exact a8, by rw [h1 65 (by decide) (by decide)]; exact a9, by rw [h1 63 (by decide) (by decide)]; exact a10, by rw [h1 64 (by decide) (by decide)]; exact a11⟩
theorem clC_f (h : clC N1 k) (h1 : ∀ z, 68 ≤ z → z ≤ 71 → M1.2 z = N1.2 z) (h2 : M1.1 72 = N1.1 72) (h3 : M1.1 73 = N1.1 73) (h4 : M1.1 65 8 = N1.1 65 8) : clC M1 k := by
  obtain ⟨a1, a2, a3, a4, a5, a6, a7⟩ := h
  exact ⟨by rw [h1 68 (by omega) (by omega)]; exact a1, by rw [h1 69 (by omega) (by omega)]; exact a2, by rw [h1 70 (by omega) (by omega)]; exact a3, by rw [h1 71 (by omega) (by omega)]; exact a4, by rw [h2]; exact a5, by rw [h3]; exact a6, by rw [h4]; exact a7⟩
theorem clR_f (h : clR N2 k) (h1 : ∀ z, 260 ≤ z → z ≤ 265 → M2.2 z = N2.2 z) : clR M2 k := by
  obtain ⟨a1, a2, a3, a4, a5, a6⟩ := h
  exact ⟨by rw [h1 260 (by omega) (by omega)]; exact a1, by rw [h1 261 (by omega) (by omega)]; exact a2, by rw [h1 262 (by omega) (by omega)]; exact a3, by rw [h1 265 (by omega) (by omega)]; exact a4, by rw [h1 263 (by omega) (by omega)]; exact a5, by rw [h1 264 (by omega) (by omega)]; exact a6⟩
theorem waR_f (h : waR N1 N2 w cr) (h1 : ∀ z, z = 82 ∨ z = 83 ∨ z = 85 ∨ z = 86 → M1.1 z = N1.1 z) (h2 : M1.1 81 3 = N1.1 81 3) (h3 : ∀ z, 278 ≤ z → z ≤ 280 → M2.1 z = N2.1 z) (h4 : M2.2 281 = N2.2 281) (h5 : M2.1 232 72 = N2.1 232 72) : waR M1 M2 w cr := by
  obtain ⟨⟨a1, a2, a3⟩, ⟨b1', b2, b3⟩, c1⟩ := h
  refine ⟨⟨?_, ?_, ?_⟩, ⟨?_, ?_, ?_⟩, ?_⟩
  · rw [h1 83 (by omega)]; exact a1
  · rw [h1 85 (by omega), h1 86 (by omega)]; exact a2
  · rw [h2]; exact a3
  · rw [h3 279 (by omega) (by omega)]; exact b1'
  · rw [h3 280 (by omega) (by omega), h4]; exact b2
  · rw [h5]; exact b3
  · rw [h1 82 (by omega), h3 278 (by omega) (by omega)]; exact c1
theorem poR_f (h : poR N1 N2 R) (h1 : ∀ z, 91 ≤ z → z ≤ 98 → M1.2 z = N1.2 z) (h2 : M1.1 99 = N1.1 99) (h3 : M2.2 286 = N2.2 286) (h4 : M2.1 285 = N2.1 285) : poR M1 M2 R := by
  obtain ⟨⟨a1, a2⟩, b1', b2⟩ := h
  refine ⟨⟨fun j hj p hp hp2 => ?_, ?_⟩, ?_, ?_⟩
  · rw [h1 (91 + j) (by omega) (by omega)]; exact a1 j hj p hp hp2
  · rw [h2]; exact a2
  · rw [h3]; exact b1'
  · rw [h4]; exact b2
theorem prR_f (h : prR N1 b N2 S) (h1 : ∀ z, 43 ≤ z → z ≤ 51 → M1.1 z = N1.1 z) (h2 : M2.1 232 28 = N2.1 232 28) (h3 : ∀ z, 253 ≤ z → z ≤ 256 → M2.1 z = N2.1 z) : prR M1 b M2 S := by
  have lb := lv_b b
  obtain ⟨a1, a2, a3, a4, a5⟩ := h
  refine ⟨?_, ?_, ?_, ?_, ?_⟩
  · rw [h1 (mz_lv b) (by omega) (by omega)]; exact a1
  · rw [h1 (mz_lv b) (by omega) (by omega)]; exact a2
  · rw [h1 (mz_lv b + 2) (by omega) (by omega), h1 (mz_lv b + 3) (by omega) (by omega)]; exact a3
  · rw [h2]; exact a4
  · rw [h3 253 (by omega) (by omega), h3 254 (by omega) (by omega), h3 255 (by omega) (by omega), h3 256 (by omega) (by omega)]; exact a5
theorem plW_f (h : plW N1 N2 e fl) (h1 : ∀ z, plA.contains z = true → M1.1 z = N1.1 z) (h2 : ∀ z, plR.contains z = true → M2.1 z = N2.1 z) (h3 : M2.1 232 7 = N2.1 232 7) : plW M1 M2 e fl := ⟨pl_cg h1 h.1, rpl_cg h3 h2 h.2⟩
/-- cells that care, wear and the store leave alone -/
theorem LR_cr (h : LR q e fl L N1 b N2) (F : crF N1 M1) (G : crG N2 M2) : LR q e fl L M1 b M2 := by
  have c1 : ∀ z, z < 115 → M1.1 z = N1.1 z := fun z hz => F.i z (by
    have : ∀ y, y < 115 → cCr.contains y = false := by decide +kernel
    exact this z hz)
  have l1 : ∀ z, M1.2 z = N1.2 z := fun z => by rw [F.l]
  have c2 : ∀ z, 233 ≤ z → z ≤ 286 → M2.1 z = N2.1 z := fun z h1 h2 => G.i z (by
    have : ∀ y, y < 287 → 233 ≤ y → rCr.contains y = false := by decide +kernel
    exact this z (by omega) h1)
  have l2 : ∀ z, 233 ≤ z → z ≤ 286 → M2.2 z = N2.2 z := fun z h1 h2 => G.l z (by
    have : ∀ y, y < 287 → 233 ≤ y → rCl.contains y = false := by decide +kernel
    exact this z (by omega) h1)
  have i2 : ∀ f, f < 96 → M2.1 232 f = N2.1 232 f := fun f hf => G.f f (by omega) (by omega) (by omega) (by omega) (by omega) (by omega)
  have j2 : ∀ f, f < 87 → M2.2 232 f = N2.2 232 f := fun f hf => G.g f (by omega) (by omega) (by omega)
  obtain ⟨p1, p2, p3, p4, p5, p6, p7, p8, p9, p10, p11, p12, p13, p14, p15, p16, p17, p18⟩ := h
  refine ⟨plW_f p1 (fun z hz => c1 z ?_) (fun z hz => ?_) (i2 7 (by omega)), prR_f p2 (fun z h1 h2 => c1 z (by omega)) (i2 28 (by omega)) (fun z h1 h2 => c2 z (by omega) (by omega)), p3, tgR_f p4 (c1 53 (by omega)) (c2 257 (by omega) (by omega)), p5, ciR_f p6 (fun z h1 h2 => c1 z (by omega)) (fun z h1 h2 => c2 z (by omega) (by omega)), p7, suC_f p8 (fun f _ _ => by rw [c1 56 (by omega)]), suR_f p9 (fun f h1 h2 => i2 f (by omega)) (j2 68 (by omega)) (j2 66 (by omega)), p10, clC_f p11 (fun z _ _ => l1 z) (c1 72 (by omega)) (c1 73 (by omega)) (by rw [c1 65 (by omega)]), clR_f p12 (fun z h1 h2 => l2 z (by omega) (by omega)), p13, waR_f p14 (fun z hz => c1 z (by omega)) (by rw [c1 81 (by omega)]) (fun z h1 h2 => c2 z (by omega) (by omega)) (l2 281 (by omega) (by omega)) (i2 72 (by omega)), p15, poR_f p16 (fun z _ _ => l1 z) (c1 99 (by omega)) (l2 286 (by omega) (by omega)) (c2 285 (by omega) (by omega)), p17, by rw [l1 56]; exact p18.1, by rw [j2 1 (by omega)]; exact p18.2⟩
  · have : ∀ y, plA.contains y = true → y < 115 := fun y hy => by
      have h1 := List.all_eq_true.mp (show plA.all (fun y => decide (y < 115)) = true from rfl) y (by simpa using hy)
      exact of_decide_eq_true h1
    exact this z hz
  · have : ∀ y, plR.contains y = true → 233 ≤ y ∧ y ≤ 286 := fun y hy => by
      have h1 := List.all_eq_true.mp (show plR.all (fun y => decide (233 ≤ y ∧ y ≤ 286)) = true from rfl) y (by simpa using hy)
      exact of_decide_eq_true h1
    exact c2 z (this z hz).1 (this z hz).2
end Lf
