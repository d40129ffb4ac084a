/-! PURE (50zzzzf): air and fire, both sides together. -/
theorem sp1_2 {c : Nat} {x : (Nat → Nat) × Nat} : (sp1 c x).2 ≤ x.2 := by
  unfold sp1
  split
  · exact Nat.sub_le _ _
  · exact Nat.le_refl _
theorem spk_2 {e : Nat → Nat} {k : Nat} {x : (Nat → Nat) × Nat} : ∀ t, (spk e k t x).2 ≤ x.2 := by
  intro t
  induction t with
  | zero => rw [spk_0]; exact Nat.le_refl _
  | succ t ih =>
    rw [spk_s]
    split
    · exact Nat.le_trans sp1_2 ih
    · exact ih
theorem spA_2 {e : Nat → Nat} {w : Nat → Int64} {x : (Nat → Nat) × Nat} : ∀ t, (spA e w t x).2 ≤ x.2 := by
  intro t
  induction t with
  | zero => rw [spA_0]; exact Nat.le_refl _
  | succ t ih =>
    rw [spA_s]
    split
    · exact Nat.le_trans (spk_2 240) ih
    · exact ih
theorem frX_2 {e F : Nat → Nat} {s : Nat → Int64} {lv sp : Bool} {vn tk : Nat} : (frX e F s lv vn sp tk).2 ≤ tk := by
  unfold frX
  split
  · exact spA_2 (pl_n e)
  · exact Nat.le_refl _
theorem mou_b {dm : Bool} {w d : Int64} {mo : Nat} (h : mo ≤ 1000) : mou dm w d mo ≤ 1000 := by
  unfold mou
  split
  · split
    · exact Nat.min_le_left _ _
    · omega
  · exact h
section Ai
variable {N1 N2 : mz_N} {e fl P hw : Nat → Nat} {T : Nat → Int} {u : SuS} {k : ClS} {q hr : Nat} {lv : Bool} {X : Nat → Int64}
theorem air_ok (hB : plB e fl) (hpl : plW N1 N2 e fl) (h33 : ∀ i, i < 550 → N2.1 233 i = nI (e i)) (hT : tgR N1 N2 T) (hTB : tgB T) (hk : clC N1 k) (hk2 : clR N2 k) (hmo : ∀ c, c < 240 → k.mo c ≤ 1000) (hhr : hr < 24) (hP : ∀ j, j < 240 → N1.1 40 j = nI (P j) ∧ N2.1 244 j = nI (P j)) (hPb : ∀ j, P j ≤ 20) (hh : ∀ j, j < 10 → N1.1 64 j = nI (hw j) ∧ N2.1 277 j = nI (hw j) ∧ hw j ≤ 4) (l1 : N1.1 56 6 = mz_b01 lv) (l2 : N2.1 276 10 = mz_b01 lv) (hX : ∀ i, i < pl_n e → N1.2 75 i = wmv e X i ∧ N2.2 268 i = X i) :
    cp_244_0 (nI hr) N1 ∧ cp_531_0 (nI hr) N2 ∧ ∃ (vv : Nat) (k' : ClS), vv ≤ 90 ∧ clC (cf_244_0 (nI hr) N1) k' ∧ clR (cf_531_0 (nI hr) N2) k' ∧ k'.h = k.h ∧ k'.sm = k.sm ∧ k'.fl = k.fl ∧ (∀ c, k'.sa c = spd e (arT e fl (fun j => 20 * pnt e fl P hr j) vv k.sa) c) ∧ (∀ c, c < 240 → k'.mo c ≤ 1000) ∧ fq [72] [69, 70, 74] N1 (cf_244_0 (nI hr) N1) ∧ fq [238] [261, 262, 263, 271] N2 (cf_531_0 (nI hr) N2) := by
  obtain ⟨vn, v9, ve⟩ := vn_of hTB
  have v1 : N1.1 53 13 = nI vn := (hT 13 (by omega)).1.trans ve
  have v2 : N2.1 257 13 = nI vn := (hT 13 (by omega)).2.trans ve
  obtain ⟨a1, K1, a2, a3, a4, a5, a6⟩ := air_c (N := N1) (e := e) (fl := fl) (P := P) (hw := hw) (hr := hr) (vn := vn) (lv := lv) (vv := if lv = true then 10 * vn else 0) (W := wmv e X) (mo := k.mo) hB.n hpl.1 (fun j hj => (hP j hj).1) hPb (fun j hj => (hh j hj).1) (fun j hj => by have := (hh j hj).2.2; omega) hhr v1 (by omega) l1 rfl (fun i hi => (hX i hi).1) (fun c hc => ⟨hk.mo c hc, hmo c hc⟩)
  obtain ⟨r1, K2, r2, r3, r4, r5, r6⟩ := air_r (N := N2) (e := e) (fl := fl) (P := P) (hw := hw) (hr := hr) (vn := vn) (lv := lv) (vv := if lv = true then 10 * vn else 0) (X := X) (mo := k.mo) hB.n (fun i hi => ⟨h33 i hi, hB.e4 i hi⟩) hpl.2 hB.bd l2 v2 (by omega) rfl (fun j hj => (hP j hj).2) hPb (fun j hj => (hh j hj).2.1) (fun j hj => by have := (hh j hj).2.2; omega) hhr (fun i hi => (hX i hi).2) (fun c hc => ⟨hk2.mo c hc, hmo c hc⟩)
  have hv : (if lv = true then 10 * vn else 0) ≤ 90 := by split <;> omega
  generalize (if lv = true then 10 * vn else 0) = vv at *
  rw [arT_cg hk.sa] at a4
  rw [arT_cg hk.mi] at a5
  rw [arT_cg hk2.sa] at r4
  rw [arT_cg hk2.mi] at r5
  rw [a2, r2]
  obtain ⟨sa, hsa⟩ : ∃ f, f = spd e (arT e fl (fun j => 20 * pnt e fl P hr j) vv k.sa) := ⟨_, rfl⟩
  obtain ⟨mi, hmi⟩ : ∃ f, f = spd e (arT e fl (fun j => 5 * pnt e fl P hr j + 2 * hw j) vv k.mi) := ⟨_, rfl⟩
  rw [← hsa] at a4 r4
  rw [← hmi] at a5 r5
  obtain ⟨mo, hmo2⟩ : ∃ f : Nat → Nat, ∀ c, f c = mou (pl_dm e c) (wmv e X (pl_lab e c)) (mi c) (k.mo c) := ⟨fun c => mou (pl_dm e c) (wmv e X (pl_lab e c)) (mi c) (k.mo c), fun _ => rfl⟩
  refine ⟨a1, r1, vv, (k.h, sa, mi, k.sm, mo, k.fl), hv, ⟨?_, a4, a5, ?_, fun c hc => ?_, ?_, ?_⟩, ⟨?_, r4, r5, ?_, fun c hc => ?_, ?_⟩, rfl, rfl, rfl, fun c => congrFun hsa c, fun c hc => ?_, a3, r3⟩
  · rw [a3.2 68 rfl]; exact hk.h
  · rw [a3.2 71 rfl]; exact hk.sm
  · rw [a6 c hc, a5 c hc, ← hmo2]
  · rw [a3.1 73 rfl]; exact hk.fl
  · rw [a3.1 65 rfl]; exact hk.fi
  · rw [r3.2 260 rfl]; exact hk2.h
  · rw [r3.2 265 rfl]; exact hk2.sm
  · rw [r6 c hc, r5 c hc, ← hmo2]
  · rw [r3.2 264 rfl]; exact hk2.fl
  · show mo c ≤ 1000
    rw [hmo2]; exact mou_b (hmo c hc)
/-- the fire of a minute -/
noncomputable def fiK (e : Nat → Nat) (k : ClS) (lv : Bool) (vn : Nat) (sp : Bool) (tk : Nat) : ClS := (gH k.fl k.h, k.sa, k.mi, frS e k.fl k.sm lv vn, k.mo, (frX e k.fl k.sm lv vn sp tk).1)
def suT (u : SuS) (tk : Nat) : SuS := (u.ch, u.fu, u.wo, tk, u.st, u.co, u.bo, u.mn, u.en, u.wa, u.ra)
theorem fire_ok {p : Nat} (hB : plB e fl) (hpl : plW N1 N2 e fl) (h3 : ∀ i, i < 550 → N1.1 3 i = nI (e i)) (h33 : ∀ i, i < 550 → N2.1 233 i = nI (e i)) (hT : tgR N1 N2 T) (hTB : tgB T) (hu : suC N1 u) (hu2 : suR N2 u) (huB : suB p u) (hk : clC N1 k) (hk2 : clR N2 k) (hfb : ∀ c, c < 240 → k.fl c ≤ 100) (hsb : smb k.sm (200 * q)) (hq : q < 2 ^ 29) (l1 : N1.1 56 6 = mz_b01 lv) (l2 : N2.1 276 10 = mz_b01 lv) :
    mz_z01 (N1.1 65 8) ∧ (mz_fZ N1 65 8 = true → cp_247_0 N1) ∧ cp_533_0 N2 ∧ ∃ k' u' K1, (if mz_fZ N1 65 8 = true then cf_247_0 N1 else N1) = K1 ∧ clC K1 k' ∧ clR (cf_533_0 N2) k' ∧ suC K1 u' ∧ suR (cf_533_0 N2) u' ∧ suB p u' ∧ (∀ c, c < 240 → k'.fl c ≤ 100) ∧ smb k'.sm (200 * (q + 1)) ∧ (∀ c, c < 240 → k'.h c = gH k.fl k.h c) ∧ k'.sa = k.sa ∧ k'.mi = k.mi ∧ k'.mo = k.mo ∧ fq [56, 65, 73, 80] [68, 71, 79] N1 K1 ∧ fq [232] [260, 264, 265, 266, 267, 340] N2 (cf_533_0 N2) ∧ (∀ j, j ≠ 7 → K1.1 56 j = N1.1 56 j) ∧ ∀ j, j ≠ 61 → (cf_533_0 N2).1 232 j = N2.1 232 j := by
  obtain ⟨vn, v9, ve⟩ := vn_of hTB
  have v1 : N1.1 53 13 = nI vn := (hT 13 (by omega)).1.trans ve
  have v2 : N2.1 257 13 = nI vn := (hT 13 (by omega)).2.trans ve
  have xs : decide (N1.1 53 15 = 1) = decide (N2.1 257 15 = 1) := by rw [(hT 15 (by omega)).1, (hT 15 (by omega)).2]
  obtain ⟨r1, K2, r2, r3, r4, r5, r6, r7, r8⟩ := fire_r (N := N2) (e := e) (fl := fl) (F := k.fl) (lv := lv) (vn := vn) (sp := decide (N1.1 53 15 = 1)) (tk := u.tk) hB.n (fun i hi => ⟨h33 i hi, hB.e4 i hi⟩) hpl.2 (fun c hc => ⟨hk2.fl c hc, hfb c hc⟩) l2 v2 (by omega) xs hu2.tk huB.tk
  rw [frX_cg hk2.sm] at r4 r7
  have r5' : ∀ c, c < 240 → K2.2 265 c = frS e k.fl k.sm lv vn c := fun c hc => (r5 c hc).trans (frS_cg hk2.sm c hc)
  have r6' : ∀ c, c < 240 → K2.2 260 c = gH k.fl k.h c := fun c hc => (r6 c hc).trans (gH_cg hk2.h c hc)
  obtain ⟨fi, f1, f2⟩ := hk.fi
  have sb := frS_b (e := e) (F := k.fl) (s := k.sm) (lv := lv) (vn := vn) (B := 200 * q) (by omega) hsb hfb (by omega)
  have t2 := frX_2 (e := e) (F := k.fl) (s := k.sm) (lv := lv) (sp := decide (N1.1 53 15 = 1)) (vn := vn) (tk := u.tk)
  have tb := huB.tk
  have RR : ∀ {F' : Nat → Nat}, (∀ c, c < 240 → (frX e k.fl k.sm lv vn (decide (N1.1 53 15 = 1)) u.tk).1 c = F' c) → clR K2 (gH k.fl k.h, k.sa, k.mi, frS e k.fl k.sm lv vn, k.mo, F') := fun {F'} hF => ⟨r6', by rw [r3.2 261 rfl]; exact hk2.sa, by rw [r3.2 262 rfl]; exact hk2.mi, r5', by rw [r3.2 263 rfl]; exact hk2.mo, fun c hc => by rw [r4 c hc, hF c hc]⟩
  have SR : suR K2 (suT u (frX e k.fl k.sm lv vn (decide (N1.1 53 15 = 1)) u.tk).2) := ⟨by rw [r8 54 (by decide)]; exact hu2.ch, by rw [r8 53 (by decide)]; exact hu2.fu, by rw [r8 55 (by decide)]; exact hu2.wo, r7, by rw [r8 62 (by decide)]; exact hu2.st, by rw [r3.2 232 rfl]; exact hu2.co, by rw [r3.2 232 rfl]; exact hu2.bo, by rw [r8 52 (by decide)]; exact hu2.mn, by rw [r8 65 (by decide)]; exact hu2.en, by rw [r8 63 (by decide)]; exact hu2.wa, by rw [r8 64 (by decide)]; exact hu2.ra⟩
  have SB : suB p (suT u (frX e k.fl k.sm lv vn (decide (N1.1 53 15 = 1)) u.tk).2) := ⟨huB.ch, huB.fu, huB.wo, Nat.le_trans t2 tb, huB.st, huB.co, huB.bo⟩
  have sb' : smb (frS e k.fl k.sm lv vn) (200 * (q + 1)) := by rw [show 200 * (q + 1) = 200 * q + 200 by omega]; exact sb
  rw [r2]
  have ez : mz_fZ N1 65 8 = fi := by show decide (N1.1 65 8 = 1) = fi; rw [f1, d_b01]
  rw [ez]
  cases fi with
  | true =>
    obtain ⟨a1, K1, a2, a3, a4, a5, a6, a7, a8, a9⟩ := burn_c (N := N1) (e := e) (fl := fl) (F := k.fl) (lv := lv) (vn := vn) (sp := decide (N1.1 53 15 = 1)) (tk := u.tk) hB.n hpl.1 (fun i hi => ⟨h3 i hi, hB.e4 i hi⟩) f1 (fun c hc => ⟨hk.fl c hc, hfb c hc⟩) l1 v1 (by omega) rfl hu.tk huB.tk
    rw [frX_cg hk.sm] at a4 a7
    have a5' : ∀ c, c < 240 → K1.2 71 c = frS e k.fl k.sm lv vn c := fun c hc => (a5 c hc).trans (frS_cg hk.sm c hc)
    have a6' : ∀ c, c < 240 → K1.2 68 c = gH k.fl k.h c := fun c hc => (a6 c hc).trans (gH_cg hk.h c hc)
    rw [frX_cg hk.sm, anl_cg 240 (fun c hc => ⟨rfl, frS_cg hk.sm c hc⟩)] at a8
    rw [if_pos rfl, a2]
    refine ⟨by rw [f1]; exact z01_b01 _, fun _ => a1, r1, fiK e k lv vn (decide (N1.1 53 15 = 1)) u.tk, suT u (frX e k.fl k.sm lv vn (decide (N1.1 53 15 = 1)) u.tk).2, K1, rfl, ⟨a6', by rw [a3.2 69 rfl]; exact hk.sa, by rw [a3.2 70 rfl]; exact hk.mi, a5', by rw [a3.1 72 rfl]; exact hk.mo, fun c hc => (a4 c hc).1, _, a8, fun z c hc => ?_⟩, RR (fun c hc => rfl), ⟨?_, ?_, ?_, a7.1, ?_, ?_, ?_, ?_, ?_, ?_, ?_⟩, SR, SB, fun c hc => (a4 c hc).2, sb', fun c hc => rfl, rfl, rfl, rfl, a3, r3, a7.2, r8⟩
    · obtain ⟨y1, y2⟩ := anl_f 240 z c hc
      exact ⟨y1, smb_0 sb hc y2⟩
    · rw [a7.2 1 (by decide)]; exact hu.ch
    · rw [a7.2 2 (by decide)]; exact hu.fu
    · rw [a7.2 3 (by decide)]; exact hu.wo
    · rw [a7.2 11 (by decide)]; exact hu.st
    · rw [a7.2 12 (by decide)]; exact hu.co
    · rw [a7.2 13 (by decide)]; exact hu.bo
    · rw [a7.2 4 (by decide)]; exact hu.mn
    · rw [a7.2 5 (by decide)]; exact hu.en
    · rw [a7.2 8 (by decide)]; exact hu.wa
    · rw [a7.2 9 (by decide)]; exact hu.ra
  | false =>
    have f0 := f2 rfl
    obtain ⟨i1, i2, i3, i4⟩ := idle (e := e) (F := k.fl) (s := k.sm) (h := k.h) (lv := lv) (vn := vn) (sp := decide (N1.1 53 15 = 1)) (tk := u.tk) (fun c hc => (f0 c hc).1) (fun c hc => (f0 c hc).2)
    rw [if_neg (fun z => by cases z)]
    have eu : suT u (frX e k.fl k.sm lv vn (decide (N1.1 53 15 = 1)) u.tk).2 = suT u u.tk := by rw [i2]
    rw [eu] at SR SB
    refine ⟨by rw [f1]; exact z01_b01 _, (fun z => by cases z), r1, (gH k.fl k.h, k.sa, k.mi, frS e k.fl k.sm lv vn, k.mo, fun _ => 0), suT u u.tk, N1, rfl, ⟨fun c hc => ?_, hk.sa, hk.mi, fun c hc => ?_, hk.mo, fun c hc => ?_, false, f1, fun _ c hc => ⟨rfl, i3 c hc⟩⟩, RR i1, ⟨hu.ch, hu.fu, hu.wo, hu.tk, hu.st, hu.co, hu.bo, hu.mn, hu.en, hu.wa, hu.ra⟩, SR, SB, fun c hc => Nat.zero_le _, sb', fun c hc => rfl, rfl, rfl, rfl, fq_refl _ _ _, r3, fun _ _ => rfl, r8⟩
    · rw [hk.h c hc]; exact (i4 c hc).symm
    · rw [hk.sm c hc, (f0 c hc).2]; exact (i3 c hc).symm
    · rw [hk.fl c hc, (f0 c hc).1]
end Ai
