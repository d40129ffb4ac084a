/-! PURE (50zzzzq): the minute, both sides together. -/
def mnA : List Nat := [53, 54, 56, 58, 59, 60, 61, 64, 65, 72, 73, 80, 81, 82, 83, 85, 86, 99, 115, 117, 118, 119, 120, 121, 122, 123, 126, 127, 128, 130, 131, 132, 133, 134, 208, 210, 211, 212, 219, 221, 222, 223, 224, 225, 226, 227]
def mnB : List Nat := [68, 69, 70, 71, 74, 75, 76, 77, 78, 79, 91, 92, 93, 94, 95, 96, 97, 98, 208, 213, 214, 216, 217, 218]
def mnC : List Nat := [232, 238, 257, 272, 273, 274, 275, 276, 277, 278, 279, 280, 285, 287, 288, 289, 290, 293, 296, 297, 302, 303, 306, 307, 329, 330, 331, 332, 333, 341]
def mnD : List Nat := [232, 258, 259, 260, 261, 262, 263, 264, 265, 266, 267, 268, 269, 270, 271, 281, 286, 291, 292, 298, 304, 305, 321, 322, 323, 324, 325, 326, 327, 328, 340]
def mnI : List Nat := [53, 54, 55, 61, 62, 63, 64, 65, 67, 72, 96, 133, 135, 136, 137, 139]
/-- what a minute leaves alone -/
def mnF (N1 N2 K1 K2 : mz_N) : Prop := (fq mnA mnB N1 K1) ∧ (fq mnC mnD N2 K2) ∧ (∀ f, mnI.contains f = false → K2.1 232 f = N2.1 232 f) ∧ (K2.2 232 1 = N2.2 232 1)
theorem mnF.c {N1 N2 K1 K2 : mz_N} (h : mnF N1 N2 K1 K2) : fq mnA mnB N1 K1 := h.1
theorem mnF.r {N1 N2 K1 K2 : mz_N} (h : mnF N1 N2 K1 K2) : fq mnC mnD N2 K2 := h.2.1
theorem mnF.i {N1 N2 K1 K2 : mz_N} (h : mnF N1 N2 K1 K2) : ∀ f, mnI.contains f = false → K2.1 232 f = N2.1 232 f := h.2.2.1
theorem mnF.s {N1 N2 K1 K2 : mz_N} (h : mnF N1 N2 K1 K2) : K2.2 232 1 = N2.2 232 1 := h.2.2.2
theorem mnF_r (N1 N2 : mz_N) : mnF N1 N2 N1 N2 := ⟨fq_refl _ _ _, fq_refl _ _ _, fun _ _ => rfl, rfl⟩
theorem mnF_t {N1 N2 M1 M2 K1 K2 : mz_N} (h1 : mnF N1 N2 M1 M2) (h2 : mnF M1 M2 K1 K2) : mnF N1 N2 K1 K2 := ⟨fq_trans h1.c h2.c, fq_trans h1.r h2.r, fun f hf => (h2.i f hf).trans (h1.i f hf), h2.s.trans h1.s⟩
theorem mnF_cr {N1 N2 K1 K2 : mz_N} (h1 : crF N1 K1) (h2 : crG N2 K2) : mnF N1 N2 K1 K2 := by
  refine ⟨⟨fun c hc => h1.i c (ct_sub rfl hc), fun c _ => by rw [h1.l]⟩, ⟨fun c hc => h2.i c (ct_sub rfl hc), fun c hc => h2.l c (ct_sub rfl hc)⟩, fun f hf => ?_, h2.g 1 (by decide) (by decide) (by decide)⟩
  have z : ∀ y, mnI.contains y = true → f ≠ y := fun y hy e => by rw [← e, hf] at hy; cases hy
  exact h2.f f (z 96 rfl) (z 133 rfl) (z 135 rfl) (z 136 rfl) (z 137 rfl) (z 139 rfl)
theorem mnF_y {N1 N2 K1 K2 : mz_N} (h1 : cyF N1 K1) (h2 : ryF N2 K2) : mnF N1 N2 K1 K2 := mnF_cr (crF_y h1) (crG_y h2)
theorem mnF_md {N1 N2 K1 K2 : mz_N} (h : mdF N1 N2 K1 K2) : mnF N1 N2 K1 K2 := by
  refine ⟨fq_sub h.c rfl rfl, fq_sub h.r rfl rfl, fun f hf => ?_, h.l 1 (by decide) (by decide) (by decide)⟩
  have z : ∀ y, mnI.contains y = true → f ≠ y := fun y hy e => by rw [← e, hf] at hy; cases hy
  exact h.i f (z 53 rfl) (z 54 rfl) (z 55 rfl) (z 61 rfl) (z 62 rfl) (z 63 rfl) (z 64 rfl) (z 65 rfl) (z 67 rfl)
section Mn
variable {N1 N2 : mz_N} {b : Bool} {B q tm : Nat} {s : st_S} {D H : Kp} {x : CrS} {L : LvS}
theorem irem_z {t d : Nat} (ht : t < 2 ^ 31) (h0 : 0 < d) (hd : d < 2 ^ 31) : mz_irem (nI t) (nI d) = 0 ↔ t % d = 0 := by
  have := Nat.mod_lt t h0
  rw [irem_n ht h0 hd, nI_eq0 (by omega)]
theorem lrem_z {t d : Nat} (ht : t < 2 ^ 31) (h0 : 0 < d) (hd : d < 2 ^ 31) : mz_lrem (lN t) (lN d) = 0 ↔ t % d = 0 := by
  have := Nat.mod_lt t h0
  rw [lrem_n (by omega) h0 (by omega), show (0 : Int64) = lN 0 from rfl, lN_e (by omega) (by omega)]
/-- how bills and the day leave the kept things -/
def enH (H G : Kp) : Prop := (G.1 = H.1) ∧ (∀ f, f ≠ 2 → f ≠ 3 → f ≠ 4 → f ≠ 5 → G.2.1 f = H.2.1 f) ∧ (G.2.1 5 0 = H.2.1 5 0) ∧ (G.2.1 5 2 = H.2.1 5 2 ∨ G.2.1 5 2 = 0)
theorem enH.a {H G : Kp} (h : enH H G) : G.1 = H.1 := h.1
theorem enH.i {H G : Kp} (h : enH H G) : ∀ f, f ≠ 2 → f ≠ 3 → f ≠ 4 → f ≠ 5 → G.2.1 f = H.2.1 f := h.2.1
theorem enH.t {H G : Kp} (h : enH H G) : G.2.1 5 0 = H.2.1 5 0 := h.2.2.1
theorem enH.c {H G : Kp} (h : enH H G) : G.2.1 5 2 = H.2.1 5 2 ∨ G.2.1 5 2 = 0 := h.2.2.2
theorem day2_ok (hB : B + 1 < 2 ^ 30) (h : CS B s D H x N1 b N2) (hL : LR q (H.1 0) (H.1 1) L N1 b N2) (ht : H.2.1 5 0 = nI tm) (ht2 : tm ≤ 2000001) :
    cp_268_58 N1 b ∧ cp_507_100 N2 ∧ ∃ w K1 K2, cf_268_58 N1 b = (w, K1) ∧ cf_507_100 N2 = (w, K2) ∧ mnF N1 N2 K1 K2 ∧ (w = true → ∃ B' s' D', B' ≤ B + 1 ∧ CS B' s' D' H x K1 b K2 ∧ LR q (H.1 0) (H.1 1) L K1 b K2 ∧ (D' = D ∨ D' = DG (gkl (dM 3)) D H (dM 3).length)) ∧ (w = false → Dwn (B + 1) D K1 K2) := by
  have k9 := h.ks.kc.2.2.2.2.2.2.2.2.2.2.1
  have r9 := h.ks.kr.2.2.2.2.2.2.2.2.2.2.1
  have e1 : N1.1 208 0 = nI tm := k9.1.trans ht
  have e2 : N2.2 232 2 = lN tm := by rw [r9.1, ht, nI_L (by omega)]
  have z1 : mz_irem (N1.1 208 0) 240 = 0 ↔ tm % 240 = 0 := by rw [e1]; exact irem_z (d := 240) (by omega) (by omega) (by omega)
  have z2 : mz_lrem (N2.2 232 2) 240 = 0 ↔ tm % 240 = 0 := by rw [e2]; exact lrem_z (d := 240) (by omega) (by omega) (by omega)
  rw [cp_268_58, cf_268_58, cp_507_100, cf_507_100]
  by_cases w : tm % 240 = 0
  · obtain ⟨p1, p2, w', K1, K2, o1, o2, o3, o4, o5, o6⟩ := day_ok hB h.ks
    rw [if_pos (z1.mpr w), if_pos (z2.mpr w), o1, o2]
    refine ⟨⟨fun _ => p1, fun y => absurd (z1.mpr w) y⟩, ⟨fun _ => p2, fun y => absurd (z2.mpr w) y⟩, w', K1, K2, ?_, rfl, mnF_y o3 o4, fun hw => ?_, o6⟩
    · cases w' with
      | true => rw [if_pos rfl]
      | false => rw [if_neg (fun y => by cases y)]
    · obtain ⟨s', k1⟩ := o5 hw
      exact ⟨B + 1, s', _, Nat.le_refl _, ⟨k1, crc_y o3 h.cc, crr_y o4 h.cr⟩, LR_cr hL (crF_y o3) (crG_y o4), Or.inr rfl⟩
  · rw [if_neg (fun y => w (z1.mp y)), if_neg (fun y => w (z2.mp y))]
    exact ⟨⟨fun y => absurd (z1.mp y) w, fun _ => trivial⟩, ⟨fun y => absurd (z2.mp y) w, fun _ => trivial⟩, true, N1, N2, rfl, rfl, mnF_r _ _, fun _ => ⟨B, s, D, by omega, h, hL, Or.inl rfl⟩, fun y => by cases y⟩
theorem month_ok (hB : B + 1 < 2 ^ 30) (h : CS B s D H x N1 b N2) (hL : LR q (H.1 0) (H.1 1) L N1 b N2) (hK : KB q H) (hq : q < 2 ^ 15) (ht : H.2.1 5 0 = nI tm) (ht2 : tm ≤ 2000001) :
    cp_268_30 N1 b ∧ cp_507_83 N2 ∧ ∃ w K1 K2, cf_268_30 N1 b = (w, K1) ∧ cf_507_83 N2 = (w, K2) ∧ mnF N1 N2 K1 K2 ∧ (w = true → ∃ B' s' D' G, B' ≤ B + 1 ∧ CS B' s' D' G x K1 b K2 ∧ LR q (H.1 0) (H.1 1) L K1 b K2 ∧ KB q G ∧ enH H G ∧ (D' = D ∨ D' = DG (gkl (dM 3)) D G (dM 3).length)) ∧ (w = false → Dwn (B + 1) D K1 K2) := by
  have k9 := h.ks.kc.2.2.2.2.2.2.2.2.2.2.1
  have r9 := h.ks.kr.2.2.2.2.2.2.2.2.2.2.1
  have e1 : N1.1 208 0 = nI tm := k9.1.trans ht
  have e2 : N2.2 232 2 = lN tm := by rw [r9.1, ht, nI_L (by omega)]
  have z1 : mz_irem (N1.1 208 0) 2400 = 0 ↔ tm % 2400 = 0 := by rw [e1]; exact irem_z (d := 2400) (by omega) (by omega) (by omega)
  have z2 : mz_lrem (N2.2 232 2) 2400 = 0 ↔ tm % 2400 = 0 := by rw [e2]; exact lrem_z (d := 2400) (by omega) (by omega) (by omega)
  rw [cp_268_30, cf_268_30, cp_507_83, cf_507_83]
  by_cases w : tm % 2400 = 0
  · obtain ⟨p1, p2, G, g1, g2, g3, g4, g5, g6, g7, g8, g9, g10, g11⟩ := bill_ok h hL hK hq
    have g2' : LR q (G.1 0) (G.1 1) L (cf_272_0 N1) b (cf_541_0 N2) := by rw [g4]; exact g2
    obtain ⟨q1, q2, w', K1, K2, o1, o2, o3, o4, o5⟩ := day2_ok (tm := tm) hB g1 g2' (by rw [g6]; exact ht) ht2
    rw [if_pos (z1.mpr w), if_pos (z2.mpr w)]
    have F : mnF N1 N2 (cf_272_0 N1) (cf_541_0 N2) := ⟨fq_sub g8 rfl rfl, fq_sub g9 rfl rfl, fun f _ => by rw [g9.1 232 rfl], g11 1 (by decide) (by decide) (by decide) (by decide)⟩
    refine ⟨⟨fun _ => ⟨p1, q1⟩, fun y => absurd (z1.mpr w) y⟩, ⟨fun _ => ⟨p2, q2⟩, fun y => absurd (z2.mpr w) y⟩, w', K1, K2, o1, o2, mnF_t F o3, fun hw => ?_, o5⟩
    obtain ⟨B', s', D', i1, i2, i3, i4⟩ := o4 hw
    exact ⟨B', s', D', G, i1, i2, by rw [← g4]; exact i3, g3, ⟨g4, g5, g6, Or.inr g7⟩, i4⟩
  · obtain ⟨q1, q2, w', K1, K2, o1, o2, o3, o4, o5⟩ := day2_ok (tm := tm) hB h hL ht ht2
    rw [if_neg (fun y => w (z1.mp y)), if_neg (fun y => w (z2.mp y))]
    refine ⟨⟨fun y => absurd (z1.mp y) w, fun _ => q1⟩, ⟨fun y => absurd (z2.mp y) w, fun _ => q2⟩, w', K1, K2, o1, o2, o3, fun hw => ?_, o5⟩
    obtain ⟨B', s', D', i1, i2, i3, i4⟩ := o4 hw
    exact ⟨B', s', D', H, i1, i2, i3, hK, ⟨rfl, fun _ _ _ _ _ => rfl, rfl, Or.inl rfl⟩, i4⟩
theorem end_ok {p : Nat} (hB : B + 1 < 2 ^ 30) (h : CS B s D H x N1 b N2) (hL : LR q (H.1 0) (H.1 1) L N1 b N2) (hK : KB q H) (hp : plB (H.1 0) (H.1 1)) (hq : q < 2 ^ 15) (hR : ∀ j, j < 8 → L.R.2 j ≤ 8 * p) (hpq : p + 1 ≤ q) (ht : H.2.1 5 0 = nI tm) (ht2 : tm < 2000000) :
    cp_268_0 N1 b ∧ (mz_lrem ((mz_pL N2 232 2 (N2.2 232 2 + 1)).2 232 2) 10 = 0 → cp_507_79 (mz_pL N2 232 2 (N2.2 232 2 + 1))) ∧ (¬ mz_lrem ((mz_pL N2 232 2 (N2.2 232 2 + 1)).2 232 2) 10 = 0 → cp_507_83 (mz_pL N2 232 2 (N2.2 232 2 + 1))) ∧ ∃ w K1 K2, cf_268_0 N1 b = (w, K1) ∧ (if mz_lrem ((mz_pL N2 232 2 (N2.2 232 2 + 1)).2 232 2) 10 = 0 then cf_507_79 (mz_pL N2 232 2 (N2.2 232 2 + 1)) else cf_507_83 (mz_pL N2 232 2 (N2.2 232 2 + 1))) = (w, K2) ∧ mnF N1 N2 K1 K2 ∧ (w = true → ∃ B' s' D' G L', B' ≤ B + 1 ∧ CS B' s' D' G x K1 b K2 ∧ LR q (H.1 0) (H.1 1) L' K1 b K2 ∧ KB q G ∧ enH (kI H 5 0 (nI (tm + 1))) G ∧ (D' = D ∨ D' = DG (gkl (dM 3)) D G (dM 3).length) ∧ L'.S = L.S ∧ LsF H L L') ∧ (w = false → Dwn (B + 1) D K1 K2) := by
  obtain ⟨t1, t2, t3⟩ := time_ok (tm := tm) h ht (by omega)
  have F1 : fq [208] [] N1 (mz_pI N1 208 0 (N1.1 208 0 + 1)) := fq_pI (fq_refl _ _ _) rfl
  have F2 : fq [] [232] N2 (mz_pL N2 232 2 (N2.2 232 2 + 1)) := fq_pL (fq_refl _ _ _) rfl
  have a2 : ∀ f, f ≠ 2 → (mz_pL N2 232 2 (N2.2 232 2 + 1)).2 232 f = N2.2 232 f := fun f hf => by rw [pL_s, sL_e, upL_a, if_neg hf]
  have hL1 : LR q (H.1 0) (H.1 1) L (mz_pI N1 208 0 (N1.1 208 0 + 1)) b (mz_pL N2 232 2 (N2.2 232 2 + 1)) := by
    refine LR_x hL (fun z hz => F1.1 z ?_) (fun z _ => F1.2 z rfl) (fun z _ _ => F2.1 z rfl) (fun z h1 h2 => F2.2 z ?_) (fun f _ => by rw [F2.1 232 rfl]) (fun f hf => a2 f (by omega))
    · have k : z ≠ 208 := by omega
      simp [k]
    · have k : z ≠ 232 := by omega
      simp [k]
  have hK1 : KB q (kI H 5 0 (nI (tm + 1))) := by
    obtain ⟨e1, e2, e3, e4, e5, e6, e7, e8, e9, e10, e11, e12, e13, e14, e15, e16, e17⟩ := hK
    exact ⟨e1, e2, e3, e4, e5, e6, e7, e8, e9, ⟨tm + 1, by omega, rfl⟩, e11, e12, e13, e14, e15, e16, e17⟩
  have M0 : mnF N1 N2 (mz_pI N1 208 0 (N1.1 208 0 + 1)) (mz_pL N2 232 2 (N2.2 232 2 + 1)) := ⟨fq_sub F1 rfl rfl, fq_sub F2 rfl rfl, fun f _ => by rw [F2.1 232 rfl], a2 1 (by decide)⟩
  have z1 : mz_irem ((mz_pI N1 208 0 (N1.1 208 0 + 1)).1 208 0) 10 = 0 ↔ (tm + 1) % 10 = 0 := by rw [t2]; exact irem_z (d := 10) (by omega) (by omega) (by omega)
  have z2 : mz_lrem ((mz_pL N2 232 2 (N2.2 232 2 + 1)).2 232 2) 10 = 0 ↔ (tm + 1) % 10 = 0 := by rw [t3]; exact lrem_z (d := 10) (by omega) (by omega) (by omega)
  rw [cp_268_0, cf_268_0]
  generalize mz_pI N1 208 0 (N1.1 208 0 + 1) = M1 at *
  generalize mz_pL N2 232 2 (N2.2 232 2 + 1) = M2 at *
  by_cases w : (tm + 1) % 10 = 0
  · obtain ⟨p1, p2, L', q1, q2, q3, q4, q5, q6⟩ := pts_ok (p := p) t1 hL1 hK1 hp hq hR hpq
    obtain ⟨y1, y2, w', K1, K2, o1, o2, o3, o4, o5⟩ := month_ok (tm := tm + 1) hB q1 q2 hK1 hq rfl (by omega)
    rw [if_pos (z1.mpr w), if_pos (z2.mpr w)]
    have M3 : mnF M1 M2 (cf_269_0 M1) (cf_539_0 M2) := ⟨fq_sub q3 rfl rfl, fq_sub q4 rfl rfl, fun f _ => by rw [q4.1 232 rfl], by rw [q4.2 232 rfl]⟩
    refine ⟨⟨fun _ => ⟨p1, y1⟩, fun z => absurd (z1.mpr w) z⟩, fun _ => ⟨p2, y2⟩, fun z => absurd (z2.mpr w) z, w', K1, K2, o1, o2, mnF_t M0 (mnF_t M3 o3), fun hw => ?_, o5⟩
    obtain ⟨B', s', D', G, i1, i2, i3, i4, i5, i6⟩ := o4 hw
    exact ⟨B', s', D', G, L', i1, i2, i3, i4, i5, i6, q5, q6⟩
  · obtain ⟨y1, y2, w', K1, K2, o1, o2, o3, o4, o5⟩ := month_ok (tm := tm + 1) hB t1 hL1 hK1 hq rfl (by omega)
    rw [if_neg (fun z => w (z1.mp z)), if_neg (fun z => w (z2.mp z))]
    refine ⟨⟨fun z => absurd (z1.mp z) w, fun _ => y1⟩, fun z => absurd (z2.mp z) w, fun _ => y2, w', K1, K2, o1, o2, mnF_t M0 o3, fun hw => ?_, o5⟩
    obtain ⟨B', s', D', G, i1, i2, i3, i4, i5, i6⟩ := o4 hw
    exact ⟨B', s', D', G, L, i1, i2, i3, i4, i5, i6, rfl, rfl, fun _ _ => rfl⟩
end Mn
