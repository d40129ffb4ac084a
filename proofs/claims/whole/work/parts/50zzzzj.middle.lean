/-! PURE (50zzzzj): a minute between care and wear, both sides together. -/
def KB (q : Nat) (H : Kp) : Prop := (∀ j, H.1 2 j ≤ 20) ∧ (∀ j, j < 11 → H.1 6 j ≤ 9) ∧ (∀ j, j < 11 → ∃ r, 1 ≤ r ∧ r ≤ 500 ∧ H.2.1 1 j = nI r) ∧ (∀ j, j < 24 → ∃ v : Int, -400 ≤ v ∧ v ≤ 500 ∧ H.2.1 0 j = iI v) ∧ (∃ r, r ≤ 20000 ∧ H.2.1 6 0 = nI r) ∧ (∀ j, 1 ≤ j → j < 4 → ∃ r, r ≤ 1000 ∧ H.2.1 6 j = nI r) ∧ (∀ j, j < 11 → ∃ m, m ≤ 100000000 + 15000 * q ∧ H.2.1 2 j = nI m) ∧ (∀ j, j < 11 → ∃ m, m ≤ 100000000 + 2000 * q ∧ H.2.1 3 j = nI m) ∧ (∀ j, j < 11 → ∃ m, m ≤ 100000000 + 10 * q ∧ H.2.1 4 j = nI m) ∧ (∃ t, t ≤ 2000000 ∧ H.2.1 5 0 = nI t) ∧ (∃ g, g ≤ 100000000 + 23000 * q ∧ H.2.1 5 1 = nI g) ∧ (∃ g, g ≤ 100000000 + 10000 * q ∧ H.2.1 5 2 = nI g) ∧ (∀ v, v < 3 → ∃ w, w ≤ 100000000 + q ∧ H.2.1 8 v = nI w) ∧ (∀ j, j < 8 → H.1 19 j = 1 → ptok (H.1 20 j) (H.1 21 j)) ∧ (∀ j, j < 16 → H.1 8 j = 1 → ∃ n, n ≤ 1000000000 + 4 * q ∧ H.2.1 11 j = nI n) ∧ (∀ j, j < 16 → H.1 8 j = 1 → H.1 9 j < 5 ∧ H.1 10 j < 48 ∧ H.1 11 j ≤ 3) ∧ (∀ j, j < 16 → H.1 8 j = 1 → ∃ t, t ≤ 2000000 ∧ H.2.1 10 j = nI t)
theorem KB.pp {q : Nat} {H : Kp} (h : KB q H) : ∀ j, H.1 2 j ≤ 20 := h.1
theorem KB.rk {q : Nat} {H : Kp} (h : KB q H) : ∀ j, j < 11 → H.1 6 j ≤ 9 := h.2.1
theorem KB.rt {q : Nat} {H : Kp} (h : KB q H) : ∀ j, j < 11 → ∃ r, 1 ≤ r ∧ r ≤ 500 ∧ H.2.1 1 j = nI r := h.2.2.1
theorem KB.we {q : Nat} {H : Kp} (h : KB q H) : ∀ j, j < 24 → ∃ v : Int, -400 ≤ v ∧ v ≤ 500 ∧ H.2.1 0 j = iI v := h.2.2.2.1
theorem KB.cap {q : Nat} {H : Kp} (h : KB q H) : ∃ r, r ≤ 20000 ∧ H.2.1 6 0 = nI r := h.2.2.2.2.1
theorem KB.pr {q : Nat} {H : Kp} (h : KB q H) : ∀ j, 1 ≤ j → j < 4 → ∃ r, r ≤ 1000 ∧ H.2.1 6 j = nI r := h.2.2.2.2.2.1
theorem KB.m0 {q : Nat} {H : Kp} (h : KB q H) : ∀ j, j < 11 → ∃ m, m ≤ 100000000 + 15000 * q ∧ H.2.1 2 j = nI m := h.2.2.2.2.2.2.1
theorem KB.m1 {q : Nat} {H : Kp} (h : KB q H) : ∀ j, j < 11 → ∃ m, m ≤ 100000000 + 2000 * q ∧ H.2.1 3 j = nI m := h.2.2.2.2.2.2.2.1
theorem KB.m2 {q : Nat} {H : Kp} (h : KB q H) : ∀ j, j < 11 → ∃ m, m ≤ 100000000 + 10 * q ∧ H.2.1 4 j = nI m := h.2.2.2.2.2.2.2.2.1
theorem KB.tm {q : Nat} {H : Kp} (h : KB q H) : ∃ t, t ≤ 2000000 ∧ H.2.1 5 0 = nI t := h.2.2.2.2.2.2.2.2.2.1
theorem KB.gs {q : Nat} {H : Kp} (h : KB q H) : ∃ g, g ≤ 100000000 + 23000 * q ∧ H.2.1 5 1 = nI g := h.2.2.2.2.2.2.2.2.2.2.1
theorem KB.cr {q : Nat} {H : Kp} (h : KB q H) : ∃ g, g ≤ 100000000 + 10000 * q ∧ H.2.1 5 2 = nI g := h.2.2.2.2.2.2.2.2.2.2.2.1
theorem KB.wr {q : Nat} {H : Kp} (h : KB q H) : ∀ v, v < 3 → ∃ w, w ≤ 100000000 + q ∧ H.2.1 8 v = nI w := h.2.2.2.2.2.2.2.2.2.2.2.2.1
theorem KB.pt {q : Nat} {H : Kp} (h : KB q H) : ∀ j, j < 8 → H.1 19 j = 1 → ptok (H.1 20 j) (H.1 21 j) := h.2.2.2.2.2.2.2.2.2.2.2.2.2.1
theorem KB.tn {q : Nat} {H : Kp} (h : KB q H) : ∀ j, j < 16 → H.1 8 j = 1 → ∃ n, n ≤ 1000000000 + 4 * q ∧ H.2.1 11 j = nI n := h.2.2.2.2.2.2.2.2.2.2.2.2.2.2.1
theorem KB.tf {q : Nat} {H : Kp} (h : KB q H) : ∀ j, j < 16 → H.1 8 j = 1 → H.1 9 j < 5 ∧ H.1 10 j < 48 ∧ H.1 11 j ≤ 3 := h.2.2.2.2.2.2.2.2.2.2.2.2.2.2.2.1
theorem KB.tt {q : Nat} {H : Kp} (h : KB q H) : ∀ j, j < 16 → H.1 8 j = 1 → ∃ t, t ≤ 2000000 ∧ H.2.1 10 j = nI t := h.2.2.2.2.2.2.2.2.2.2.2.2.2.2.2.2
theorem KB_m {q q' : Nat} {H : Kp} (hq : q ≤ q') (h : KB q H) : KB q' H := by
  obtain ⟨a1, a2, a3, a4, a5, a6, a7, a8, a9, a10, a11, a12, a13, a14, a15, a16, a17⟩ := h
  refine ⟨a1, a2, a3, a4, a5, a6, fun j hj => ?_, fun j hj => ?_, fun j hj => ?_, a10, ?_, ?_, fun v hv => ?_, a14, fun j hj h8 => ?_, a16, a17⟩
  · obtain ⟨m, h1, h2⟩ := a7 j hj; exact ⟨m, by omega, h2⟩
  · obtain ⟨m, h1, h2⟩ := a8 j hj; exact ⟨m, by omega, h2⟩
  · obtain ⟨m, h1, h2⟩ := a9 j hj; exact ⟨m, by omega, h2⟩
  · obtain ⟨m, h1, h2⟩ := a11; exact ⟨m, by omega, h2⟩
  · obtain ⟨m, h1, h2⟩ := a12; exact ⟨m, by omega, h2⟩
  · obtain ⟨m, h1, h2⟩ := a13 v hv; exact ⟨m, by omega, h2⟩
  · obtain ⟨m, h1, h2⟩ := a15 j hj h8; exact ⟨m, by omega, h2⟩
/-- the books of a minute: three tables of meters, the gas -/
def mtH (H : Kp) (g2 g3 g4 : Nat → Int32) (gs : Int32) : Kp := (H.1, up (up (up (up H.2.1 2 g2) 3 g3) 4 g4) 5 (up (H.2.1 5) 1 gs), H.2.2)
theorem mtH_2 {H : Kp} {g2 g3 g4 : Nat → Int32} {gs : Int32} : ∀ f, f ≠ 2 → f ≠ 3 → f ≠ 4 → f ≠ 5 → (mtH H g2 g3 g4 gs).2.1 f = H.2.1 f := fun f h2 h3 h4 h5 => by
  show up (up (up (up H.2.1 2 g2) 3 g3) 4 g4) 5 _ f = _
  rw [up_d, if_neg h5, up_d, if_neg h4, up_d, if_neg h3, up_d, if_neg h2]
theorem plW_q {N1 N2 M1 M2 : mz_N} {e fl : Nat → Nat} {A1 B1 A2 B2 : List Nat} (h : plW N1 N2 e fl) (f1 : fq A1 B1 N1 M1) (f2 : fq A2 B2 N2 M2) (h1 : plA.all (fun c => !A1.contains c) = true) (h2 : plR.all (fun c => !A2.contains c) = true) (h3 : M2.1 232 7 = N2.1 232 7) : plW M1 M2 e fl :=
  ⟨pl_fq f1 h1 h.1, rpl_cg h3 (fun c hc => f2.1 c (by
    have := List.all_eq_true.mp h2 c (by simpa using hc)
    simpa using this)) h.2⟩
theorem nat_tab {f : Nat → Int32} {n C : Nat} (hC : C < 2 ^ 31) (h : ∀ j, j < n → ∃ m, m ≤ C ∧ f j = nI m) : ∃ g : Nat → Nat, ∀ j, j < n → f j = nI (g j) ∧ g j ≤ C := by
  refine ⟨fun j => (f j).toNatClampNeg, fun j hj => ?_⟩
  obtain ⟨m, h1, h2⟩ := h j hj
  show f j = nI (f j).toNatClampNeg ∧ (f j).toNatClampNeg ≤ C
  rw [h2, nI_clamp (by omega)]
  exact ⟨rfl, h1⟩
theorem gH_b {F : Nat → Nat} {h : Nat → Int64} {q z : Nat} (hq : q < 2 ^ 15) (h1 : -(195000 + 100000 * (q : Int)) ≤ (h z).toInt ∧ (h z).toInt ≤ 195000 + 100000 * (q : Int)) (h3 : F z ≤ 100) : -(100000 + 100000 * ((q + 1 : Nat) : Int)) ≤ (gH F h z).toInt ∧ (gH F h z).toInt ≤ 100000 + 100000 * ((q + 1 : Nat) : Int) := by
  unfold gH
  split
  · rw [Int64.toInt_add, lN_j (by omega), Int.bmod_eq_of_le (by omega) (by omega)]
    omega
  · omega
theorem gs_b {a c q : Nat} (h1 : a ≤ 100000000 + 23000 * q) (h2 : c ≤ 22001) : a + c ≤ 100000000 + 23000 * (q + 1) := by omega
section Md
variable {N1 N2 : mz_N} {b : Bool} {B q tm hr : Nat} {s : st_S} {D H : Kp} {x : CrS} {L : LvS}
/-- cells that a minute's middle touches -/
def mdA : List Nat := [53, 54, 56, 58, 59, 60, 61, 64, 65, 72, 73, 80, 208, 210, 211, 212]
def mdB : List Nat := [68, 69, 70, 71, 74, 75, 76, 77, 78, 79]
def mdC : List Nat := [232, 238, 257, 272, 273, 274, 275, 276, 277]
def mdD : List Nat := [232, 258, 259, 260, 261, 262, 263, 264, 265, 266, 267, 268, 269, 270, 271, 321, 322, 323, 328, 340]
def mdF (N1 N2 K1 K2 : mz_N) : Prop := (fq mdA mdB N1 K1) ∧ (fq mdC mdD N2 K2) ∧ (∀ f, f ≠ 3 → K1.1 208 f = N1.1 208 f) ∧ (∀ f, f ≠ 53 → f ≠ 54 → f ≠ 55 → f ≠ 61 → f ≠ 62 → f ≠ 63 → f ≠ 64 → f ≠ 65 → f ≠ 67 → K2.1 232 f = N2.1 232 f) ∧ (∀ f, f ≠ 66 → f ≠ 68 → f ≠ 124 → K2.2 232 f = N2.2 232 f)
theorem mdF.c {N1 N2 K1 K2 : mz_N} (h : mdF N1 N2 K1 K2) : fq mdA mdB N1 K1 := h.1
theorem mdF.r {N1 N2 K1 K2 : mz_N} (h : mdF N1 N2 K1 K2) : fq mdC mdD N2 K2 := h.2.1
theorem mdF.bo {N1 N2 K1 K2 : mz_N} (h : mdF N1 N2 K1 K2) : ∀ f, f ≠ 3 → K1.1 208 f = N1.1 208 f := h.2.2.1
theorem mdF.i {N1 N2 K1 K2 : mz_N} (h : mdF N1 N2 K1 K2) : ∀ f, f ≠ 53 → f ≠ 54 → f ≠ 55 → f ≠ 61 → f ≠ 62 → f ≠ 63 → f ≠ 64 → f ≠ 65 → f ≠ 67 → K2.1 232 f = N2.1 232 f := h.2.2.2.1
theorem mdF.l {N1 N2 K1 K2 : mz_N} (h : mdF N1 N2 K1 K2) : ∀ f, f ≠ 66 → f ≠ 68 → f ≠ 124 → K2.2 232 f = N2.2 232 f := h.2.2.2.2
theorem mid_ok (hq : q < 2 ^ 15) (hc : CS B s D H x N1 b N2) (hL : LR q (H.1 0) (H.1 1) L N1 b N2) (hK : KB q H) (hp : plB (H.1 0) (H.1 1)) (htm : H.2.1 5 0 = nI tm) (htm2 : tm < 2 ^ 31) (hhr : hr < 24)
    (hbw : ∀ j, j < pl_n (H.1 0) → bn (wrm (H.1 0) L.k.h j).toInt) (hbs : ∀ j, j < pl_n (H.1 0) → bn (stq (H.1 0) L.k.sa j).toInt)
    (hHB : ∀ (Ld : Nat → Nat) (ou : Int64) (G : Nat → Int32) (on : Bool) (st cap : Nat), (∀ j, j < 11 → Ld j ≤ 2000) → -400 ≤ ou.toInt → ou.toInt ≤ 500 → cap ≤ 20000 → st ≤ 20000 → ∀ z, z < 240 → -(195000 + 100000 * (q : Int)) ≤ (spd (H.1 0) (ht2 (H.1 0) (H.1 1) (het (H.1 0) (H.1 1) (ts (H.1 0) L.k.h) (wmv (H.1 0) (ts (H.1 0) L.k.h)) ou (fun d => H.1 3 (24 * d + hr) / 10) (fun j => 8 * pnt (H.1 0) (H.1 1) (H.1 2) hr j + 3 * Ld j)) G on st cap) z).toInt ∧ (spd (H.1 0) (ht2 (H.1 0) (H.1 1) (het (H.1 0) (H.1 1) (ts (H.1 0) L.k.h) (wmv (H.1 0) (ts (H.1 0) L.k.h)) ou (fun d => H.1 3 (24 * d + hr) / 10) (fun j => 8 * pnt (H.1 0) (H.1 1) (H.1 2) hr j + 3 * Ld j)) G on st cap) z).toInt ≤ 195000 + 100000 * (q : Int))
    (hSB : ∀ vv, vv ≤ 90 → smb (spd (H.1 0) (arT (H.1 0) (H.1 1) (fun j => 20 * pnt (H.1 0) (H.1 1) (H.1 2) hr j) vv L.k.sa)) (5000 * (q + 1))) :
    ∃ P1 P2 Q1 Q2 W1 W2 E1 E2 A1 A2 K1 K2,
      (cp_208_0 (nI hr) N1 b ∧ cf_208_0 (nI hr) N1 b = P1 ∧ cp_219_0 (nI hr) P1 ∧ cf_219_0 (nI hr) P1 = Q1 ∧ cp_229_0 (nI hr) Q1 ∧ cf_229_0 (nI hr) Q1 = W1 ∧ cp_233_0 (nI hr) W1 ∧ cf_233_0 (nI hr) W1 = E1 ∧ cp_244_0 (nI hr) E1 ∧ cf_244_0 (nI hr) E1 = A1 ∧ mz_z01 (A1.1 65 8) ∧ (mz_fZ A1 65 8 = true → cp_247_0 A1) ∧ (if mz_fZ A1 65 8 = true then cf_247_0 A1 else A1) = K1) ∧
      (cp_511_0 (nI hr) N2 ∧ cf_511_0 (nI hr) N2 = P2 ∧ cp_518_0 (nI hr) P2 ∧ cf_518_0 (nI hr) P2 = Q2 ∧ cp_522_0 (nI hr) Q2 ∧ cf_522_0 (nI hr) Q2 = W2 ∧ cp_524_0 (nI hr) W2 ∧ cf_524_0 (nI hr) W2 = E2 ∧ cp_531_0 (nI hr) E2 ∧ cf_531_0 (nI hr) E2 = A2 ∧ cp_533_0 A2 ∧ cf_533_0 A2 = K2) ∧
      mdF N1 N2 K1 K2 ∧ ∃ (L' : LvS) (g2 g3 g4 : Nat → Int32) (gs : Int32) (dry : Bool), LR (q + 1) (H.1 0) (H.1 1) L' K1 b K2 ∧ CS B s D (mtH H g2 g3 g4 gs) x K1 b K2 ∧ KB (q + 1) (mtH H g2 g3 g4 gs) ∧ K1.1 56 10 = mz_b01 dry ∧ K2.1 232 67 = mz_b01 dry ∧ L'.w = L.w ∧ L'.cr = L.cr ∧ L'.R = L.R ∧ L'.S = L.S ∧ L'.sd = L.sd := by
  obtain ⟨hks, hcc, hcr⟩ := hc
  obtain ⟨k1, k2, k3, k4, k5, k6, k6b, k7, k8, k8b, k9, k10, k11, k12, k13, k14, k15⟩ := hks.kc
  obtain ⟨r1, r2, r3, r4, r5, r6, r6b, r7, r8, r8b, r9, r10, r11, r12, r13, r14, r15⟩ := hks.kr
  have hbb := hks.hb
  obtain ⟨we, w0, w1, w2⟩ := hK.we hr hhr
  obtain ⟨cap, c0, c1⟩ := hK.cap
  obtain ⟨gs, g0, g1⟩ := hK.gs
  have eT1 : N1.1 208 0 = nI tm := k9.1.trans htm
  have eT2 : N2.2 232 2 = lN tm := by rw [r9.1, htm, nI_L htm2]
  have fit : ∀ v, ∃ ft, nI (H.1 7 v) = nI (b1 (!ft)) := fun v => by
    have : H.1 7 v ≤ 1 := hbb.2.2.2.2.2.2.2.2.1 v
    rcases (show H.1 7 v = 0 ∨ H.1 7 v = 1 by omega) with w | w
    · exact ⟨true, by rw [w]; rfl⟩
    · exact ⟨false, by rw [w]; rfl⟩
  obtain ⟨ft0, ft0e⟩ := fit 0
  obtain ⟨ft1, ft1e⟩ := fit 1
  obtain ⟨ft2, ft2e⟩ := fit 2
  -- the program
  obtain ⟨pP1, pP2, T', tB, tR, fP, gP⟩ := prog_ok hp hL.pl hL.pr hL.prb hL.tg hL.tgb hL.sc hL.sr hL.sb hL.ci hL.cib hL.kc hL.kr hhr ((k4 hr hhr).trans w2) ((r4 hr hhr).trans w2) ⟨by omega, by omega⟩ eT1 eT2 htm2 hbw hbs
  generalize hP1 : cf_208_0 (nI hr) N1 b = P1 at tR fP
  generalize hP2 : cf_511_0 (nI hr) N2 = P2 at tR gP
  have FP : fq mdA mdB N1 P1 := fq_sub fP rfl rfl
  have GP : fq mdC mdD N2 P2 := fq_sub gP rfl rfl
  have iP : ∀ f, P2.1 232 f = N2.1 232 f := fun f => by rw [gP.1 232 rfl]
  have lP : ∀ f, P2.2 232 f = N2.2 232 f := fun f => by rw [gP.2 232 rfl]
  have hPl : ∀ {M1 M2 : mz_N}, fq mdA mdB N1 M1 → fq mdC mdD N2 M2 → M2.1 232 7 = N2.1 232 7 → plW M1 M2 (H.1 0) (H.1 1) := fun f g h7 => plW_q hL.pl f g rfl rfl h7
  have hPp : ∀ {M1 M2 : mz_N}, fq mdA mdB N1 M1 → fq mdC mdD N2 M2 → ∀ j, j < 240 → M1.1 40 j = nI (H.1 2 j) ∧ M2.1 244 j = nI (H.1 2 j) := fun f g j hj => ⟨by rw [f.1 40 rfl]; exact k3 j hj, by rw [g.1 244 rfl]; exact r3 j hj⟩
  have hF1 : ∀ {M1 : mz_N}, fq mdA mdB N1 M1 → ∀ v, v < 3 → M1.1 128 v = nI (H.1 7 v) := fun f v hv => by rw [f.1 128 rfl]; exact (k11 v hv).2.2.2
  have hF2 : ∀ {M2 : mz_N}, fq mdC mdD N2 M2 → ∀ v, v < 3 → M2.1 307 v = nI (H.1 7 v) := fun f v hv => by rw [f.1 307 rfl]; exact (r11 v hv).2.2.2
  -- power
  have suP1 : suC P1 L.u := suC_f hL.sc (fun f _ _ => by rw [fP.1 56 rfl])
  have suP2 : suR P2 L.u := suR_f hL.sr (fun f _ _ => iP f) (lP 68) (lP 66)
  have ciP : ciR P1 P2 L.c := ciR_f hL.ci (fun z h1 h2 => by rcases (show z = 58 ∨ z = 59 ∨ z = 60 ∨ z = 61 by omega) with w | w | w | w <;> rw [w] <;> exact fP.1 _ rfl) (fun z h1 h2 => by rcases (show z = 272 ∨ z = 273 ∨ z = 274 ∨ z = 275 by omega) with w | w | w | w <;> rw [w] <;> exact gP.1 _ rfl)
  have hrt : ∃ rt : Nat → Nat, ∀ j, j < 11 → H.2.1 1 j = nI (rt j) ∧ 1 ≤ rt j ∧ rt j ≤ 500 := by
    refine ⟨fun j => (H.2.1 1 j).toNatClampNeg, fun j hj => ?_⟩
    obtain ⟨r, y1, y2, y3⟩ := hK.rt j hj
    show H.2.1 1 j = nI (H.2.1 1 j).toNatClampNeg ∧ 1 ≤ (H.2.1 1 j).toNatClampNeg ∧ (H.2.1 1 j).toNatClampNeg ≤ 500
    rw [y3, nI_clamp (by omega)]
    exact ⟨rfl, y1, y2⟩
  obtain ⟨rt, hrt⟩ := hrt
  obtain ⟨pQ1, pQ2, c', u1, lv, cQ, cB, sQ1, sQ2, sQB, sQo, lQ1, lQ2, mQ, fQ, gQ, iQ1, iQ2⟩ := pow_ok (N1 := P1) (N2 := P2) (q := q) (P := H.1 2) (rk := H.1 6) (rt := rt) (fit := ft2) hp (hPl FP GP (iP 7)) tR tB suP1 suP2 hL.sb (by omega) ciP hL.cib hhr (hPp FP GP) hK.pp (fun j hj => ⟨by rw [fP.1 63 rfl]; exact (k7 j hj).2, by rw [gP.1 248 rfl]; exact (r7 j hj).2, hK.rk j hj⟩) (fun j hj => ⟨by rw [fP.1 62 rfl]; exact (k7 j hj).1.trans (hrt j hj).1, by rw [gP.1 247 rfl]; exact (r7 j hj).1.trans (hrt j hj).1, (hrt j hj).2⟩) ((hF1 FP 2 (by omega)).trans ft2e) ((hF2 GP 2 (by omega)).trans ft2e)
  generalize hQ1 : cf_219_0 (nI hr) P1 = Q1 at cQ sQ1 lQ1 mQ fQ iQ1
  generalize hQ2 : cf_518_0 (nI hr) P2 = Q2 at cQ sQ2 lQ2 mQ gQ iQ2
  have FQ : fq mdA mdB N1 Q1 := fq_trans FP (fq_sub fQ rfl rfl)
  have GQ : fq mdC mdD N2 Q2 := fq_trans GP (fq_sub gQ rfl rfl)
  have iQ : ∀ f, f ≠ 53 → f ≠ 54 → f ≠ 55 → f ≠ 65 → Q2.1 232 f = N2.1 232 f := fun f a1 a2 a3 a4 => (iQ2 f a1 a2 a3 a4).trans (iP f)
  have lQ : ∀ f, Q2.2 232 f = N2.2 232 f := fun f => by rw [gQ.2 232 rfl]; exact lP f
  have tQ : tgR Q1 Q2 T' := tgR_f tR (fQ.1 53 rfl) (gQ.1 257 rfl)
  -- water
  obtain ⟨pW1, pW2, u2, hw, tkn, dry, sW1, sW2, sWB, dW1, dW2, hwW, mW, lW1, fW, gW, iW1, iW2, lW2⟩ := wat_ok (N1 := Q1) (N2 := Q2) (q := q) (P := H.1 2) (fit := ft1) (tm := tm) (sd := L.sd) (lv := lv) hp (hPl FQ GQ (iQ 7 (by decide) (by decide) (by decide) (by decide))) tQ sQ1 sQ2 sQB sQo (by omega) hhr (hPp FQ GQ) hK.pp (by rw [fQ.1 208 rfl, fP.1 208 rfl]; exact eT1) (by rw [lQ]; exact eT2) htm2 lQ1 lQ2 ((hF1 FQ 1 (by omega)).trans ft1e) ((hF2 GQ 1 (by omega)).trans ft1e) (by rw [fQ.2 56 rfl, fP.2 56 rfl]; exact hL.sd.1) (by rw [lQ]; exact hL.sd.2)
  generalize hW1 : cf_229_0 (nI hr) Q1 = W1 at sW1 dW1 hwW mW lW1 fW iW1
  generalize hW2 : cf_522_0 (nI hr) Q2 = W2 at sW2 dW2 hwW mW gW iW2 lW2
  have FW : fq mdA mdB N1 W1 := fq_trans FQ (fq_sub fW rfl rfl)
  have GW : fq mdC mdD N2 W2 := fq_trans GQ (fq_sub gW rfl rfl)
  have iW : ∀ f, f ≠ 53 → f ≠ 54 → f ≠ 55 → f ≠ 61 → f ≠ 62 → f ≠ 63 → f ≠ 64 → f ≠ 65 → f ≠ 67 → W2.1 232 f = N2.1 232 f := fun f a1 a2 a3 a4 a5 a6 a7 a8 a9 => (iW2 f a4 a5 a6 a7 a9).trans (iQ f a1 a2 a3 a8)
  have lW : ∀ f, f ≠ 68 → W2.2 232 f = N2.2 232 f := fun f hf => (lW2 f hf).trans (lQ f)
  have tW : tgR W1 W2 T' := tgR_f tQ (fW.1 53 rfl) (gW.1 257 rfl)
  have cW : ciR W1 W2 c' := ciR_f cQ (fun z h1 h2 => by rcases (show z = 58 ∨ z = 59 ∨ z = 60 ∨ z = 61 by omega) with w | w | w | w <;> rw [w] <;> exact fW.1 _ rfl) (fun z h1 h2 => by rcases (show z = 272 ∨ z = 273 ∨ z = 274 ∨ z = 275 by omega) with w | w | w | w <;> rw [w] <;> exact gW.1 _ rfl)
  have kW1 : clC W1 L.k := clC_f hL.kc (fun z h1 h2 => by rcases (show z = 68 ∨ z = 69 ∨ z = 70 ∨ z = 71 by omega) with w | w | w | w <;> rw [w] <;> rw [fW.2 _ rfl, fQ.2 _ rfl, fP.2 _ rfl]) (by rw [fW.1 72 rfl, fQ.1 72 rfl, fP.1 72 rfl]) (by rw [fW.1 73 rfl, fQ.1 73 rfl, fP.1 73 rfl]) (by rw [fW.1 65 rfl, fQ.1 65 rfl, fP.1 65 rfl])
  have kW2 : clR W2 L.k := clR_f hL.kr (fun z h1 h2 => by rcases (show z = 260 ∨ z = 261 ∨ z = 262 ∨ z = 263 ∨ z = 264 ∨ z = 265 by omega) with w | w | w | w | w | w <;> rw [w] <;> rw [gW.2 _ rfl, gQ.2 _ rfl, gP.2 _ rfl])
  have l2W : W2.1 276 10 = mz_b01 lv := by rw [gW.1 276 rfl]; exact lQ2
  -- heat
  obtain ⟨mt, hmt⟩ := nat_tab (C := 100000000 + 15000 * q) (by omega) hK.m0
  have ouR : (W1.1 66 hr).toInt64 = iL we ∧ (W2.1 245 hr).toInt64 = iL we := by
    rw [FW.1 66 rfl, GW.1 245 rfl, k4 hr hhr, r4 hr hhr, w2, iI_L (by omega)]
    exact ⟨rfl, rfl⟩
  obtain ⟨pE1, pE2, u3, X, mx, gx, on, G, st, xE, stE, sE1, sE2, sEB, kE1, kE2, xEW, mE, gE1, gE2, gEb, iE1, bE1, iE2, lE2, fE, gE⟩ := warm_ok (N1 := W1) (N2 := W2) (q := q) (P := H.1 2) (sn := H.1 3) (mt := mt) (cap := cap) (gs := gs) (fit := ft0) (lv := lv) (ou := iL we) hp (hPl FW GW (iW 7 (by decide) (by decide) (by decide) (by decide) (by decide) (by decide) (by decide) (by decide) (by decide))) (fun i hi => by rw [GW.1 233 rfl]; exact r1 i hi) (fun i hi => by rw [GW.1 234 rfl]; exact r2 i hi) tW tB sW1 sW2 sWB cW cB kW1 kW2 hhr (hPp FW GW) hK.pp (fun j hj => ⟨by rw [FW.1 67 rfl]; exact k5 j hj, by rw [GW.1 246 rfl]; exact r5 j hj⟩) hbb.2.2.2.1 ouR.1 ouR.2 (by rw [FW.1 215 rfl]; exact (k10 0 (by omega)).trans c1) (by rw [iW 21 (by decide) (by decide) (by decide) (by decide) (by decide) (by decide) (by decide) (by decide) (by decide)]; exact r10.1.trans c1) c0 (fun j hj => ⟨by rw [fW.1 210 rfl, fQ.1 210 rfl, fP.1 210 rfl]; exact (k8 j hj).1.trans (hmt j hj).1, by rw [gW.2 321 rfl, gQ.2 321 rfl, gP.2 321 rfl, (r8 j hj).1, (hmt j hj).1, nI_L (by have := (hmt j hj).2; omega)], by have := (hmt j hj).2; omega⟩) (by rw [fW.1 208 rfl, fQ.1 208 rfl, fP.1 208 rfl]; exact k9.2.2.2.1.trans g1) (by rw [lW 124 (by decide), r9.2.2.2.1, g1, nI_L (by omega)]) lW1 l2W ((hF1 FW 0 (by omega)).trans ft0e) ((hF2 GW 0 (by omega)).trans ft0e)
  generalize hE1 : cf_233_0 (nI hr) W1 = E1 at sE1 kE1 xEW mE gE1 iE1 bE1 fE
  generalize hE2 : cf_524_0 (nI hr) W2 = E2 at sE2 kE2 xEW mE gE2 iE2 lE2 gE
  have FE : fq mdA mdB N1 E1 := fq_trans FW (fq_sub fE rfl rfl)
  have GE : fq mdC mdD N2 E2 := fq_trans GW (fq_sub gE rfl rfl)
  have iE : ∀ f, f ≠ 53 → f ≠ 54 → f ≠ 55 → f ≠ 61 → f ≠ 62 → f ≠ 63 → f ≠ 64 → f ≠ 65 → f ≠ 67 → E2.1 232 f = N2.1 232 f := fun f a1 a2 a3 a4 a5 a6 a7 a8 a9 => (iE2 f a5).trans (iW f a1 a2 a3 a4 a5 a6 a7 a8 a9)
  have lE : ∀ f, f ≠ 66 → f ≠ 68 → f ≠ 124 → E2.2 232 f = N2.2 232 f := fun f a1 a2 a3 => (lE2 f a1 a3).trans (lW f a2)
  have bE : ∀ f, f ≠ 3 → E1.1 208 f = N1.1 208 f := fun f hf => (bE1 f hf).trans (by rw [fW.1 208 rfl, fQ.1 208 rfl, fP.1 208 rfl])
  have tE : tgR E1 E2 T' := tgR_f tW (fE.1 53 rfl) (gE.1 257 rfl)
  have hHb : ∀ z, z < 240 → -(195000 + 100000 * (q : Int)) ≤ (spd (H.1 0) X z).toInt ∧ (spd (H.1 0) X z).toInt ≤ 195000 + 100000 * (q : Int) := by
    rw [xE]
    exact hHB c'.1 (iL we) G on st cap (fun j hj => (cB j hj).1) (by rw [iL_t (by omega)]; omega) (by rw [iL_t (by omega)]; omega) c0 stE
  clear xE
  generalize hsp : (fun z => spd (H.1 0) X z) = hh at kE1 kE2
  have hHb2 : ∀ z, z < 240 → -(195000 + 100000 * (q : Int)) ≤ (hh z).toInt ∧ (hh z).toInt ≤ 195000 + 100000 * (q : Int) := by rw [← hsp]; exact hHb
  clear hHb hsp
  -- air
  obtain ⟨pA1, pA2, vv, kA, vvb, kA1, kA2, eh, es, ef, esa, emo, fA, gA⟩ := air_ok (N1 := E1) (N2 := E2) (P := H.1 2) (hw := hw) (lv := lv) (X := X) hp (hPl FE GE (iE 7 (by decide) (by decide) (by decide) (by decide) (by decide) (by decide) (by decide) (by decide) (by decide))) (fun i hi => by rw [GE.1 233 rfl]; exact r1 i hi) tE tB kE1 kE2 hL.kb.mo hhr (hPp FE GE) hK.pp (fun j hj => ⟨by rw [fE.1 64 rfl]; exact (hwW j hj).1, by rw [gE.1 277 rfl]; exact (hwW j hj).2.1, (hwW j hj).2.2⟩) (by rw [iE1 6 (by decide) (by decide)]; exact lW1) (by rw [gE.1 276 rfl]; exact l2W) xEW
  generalize hA1 : cf_244_0 (nI hr) E1 = A1 at kA1 fA
  generalize hA2 : cf_531_0 (nI hr) E2 = A2 at kA2 gA
  have FA : fq mdA mdB N1 A1 := fq_trans FE (fq_sub fA rfl rfl)
  have GA : fq mdC mdD N2 A2 := fq_trans GE (fq_sub gA rfl rfl)
  have tA : tgR A1 A2 T' := tgR_f tE (fA.1 53 rfl) (gA.1 257 rfl)
  have sA1 : suC A1 u3 := suC_f sE1 (fun f _ _ => by rw [fA.1 56 rfl])
  have sA2 : suR A2 u3 := suR_f sE2 (fun f _ _ => by rw [gA.1 232 rfl]) (by rw [gA.2 232 rfl]) (by rw [gA.2 232 rfl])
  -- fire
  obtain ⟨zF, pF1, pF2, kF, u4, K1, hK1, kF1, kF2, sF1, sF2, sFB, fFb, smF, hF, saF, miF, moF, fF, gF', iF1, iF2⟩ := fire_ok (N1 := A1) (N2 := A2) (q := q) (lv := lv) hp (hPl FA GA (by rw [gA.1 232 rfl]; exact iE 7 (by decide) (by decide) (by decide) (by decide) (by decide) (by decide) (by decide) (by decide) (by decide))) (fun i hi => by rw [FA.1 3 rfl]; exact k1 i hi) (fun i hi => by rw [GA.1 233 rfl]; exact r1 i hi) tA tB sA1 sA2 sEB kA1 kA2 (by rw [ef]; exact hL.kb.fl) (by rw [es]; exact hL.kb.sm) (by omega) (by rw [fA.1 56 rfl, iE1 6 (by decide) (by decide)]; exact lW1) (by rw [gA.1 276 rfl, gE.1 276 rfl]; exact l2W)
  generalize hK2 : cf_533_0 A2 = K2 at kF2 sF2 gF' iF2
  have FK : fq mdA mdB N1 K1 := fq_trans FA (fq_sub fF rfl rfl)
  have GK : fq mdC mdD N2 K2 := fq_trans GA (fq_sub gF' rfl rfl)
  have iK : ∀ f, f ≠ 53 → f ≠ 54 → f ≠ 55 → f ≠ 61 → f ≠ 62 → f ≠ 63 → f ≠ 64 → f ≠ 65 → f ≠ 67 → K2.1 232 f = N2.1 232 f := fun f a1 a2 a3 a4 a5 a6 a7 a8 a9 => (iF2 f a4).trans (by rw [gA.1 232 rfl]; exact iE f a1 a2 a3 a4 a5 a6 a7 a8 a9)
  have lK : ∀ f, f ≠ 66 → f ≠ 68 → f ≠ 124 → K2.2 232 f = N2.2 232 f := fun f a1 a2 a3 => by rw [gF'.2 232 rfl, gA.2 232 rfl]; exact lE f a1 a2 a3
  have bK : ∀ f, f ≠ 3 → K1.1 208 f = N1.1 208 f := fun f hf => by rw [fF.1 208 rfl, fA.1 208 rfl]; exact bE f hf
  have tK : tgR K1 K2 T' := tgR_f tA (fF.1 53 rfl) (gF'.1 257 rfl)
  have cK : ciR K1 K2 c' := ciR_f cW (fun z h1 h2 => by rcases (show z = 58 ∨ z = 59 ∨ z = 60 ∨ z = 61 by omega) with w | w | w | w <;> rw [w] <;> rw [fF.1 _ rfl, fA.1 _ rfl, fE.1 _ rfl]) (fun z h1 h2 => by rcases (show z = 272 ∨ z = 273 ∨ z = 274 ∨ z = 275 by omega) with w | w | w | w <;> rw [w] <;> rw [gF'.1 _ rfl, gA.1 _ rfl, gE.1 _ rfl])
  -- meters, gas
  obtain ⟨m1, hm1⟩ := nat_tab (C := 100000000 + 2000 * q) (by omega) hK.m1
  obtain ⟨m2, hm2⟩ := nat_tab (C := 100000000 + 10 * q) (by omega) hK.m2
  have M0 : ∀ j, j < 11 → K1.1 210 j = nI (mt j + mx j) ∧ K2.2 321 j = lN (mt j + mx j) := fun j hj => ⟨by rw [fF.1 210 rfl, fA.1 210 rfl]; exact (mE j hj).1, by rw [gF'.2 321 rfl, gA.2 321 rfl]; exact (mE j hj).2.1⟩
  have M1 : ∀ j, j < 11 → K1.1 211 j = nI (m1 j + c'.1 j) ∧ K2.2 322 j = lN (m1 j + c'.1 j) := fun j hj => by
    have hb1 := (hm1 j hj).2
    refine ⟨?_, ?_⟩
    · rw [fF.1 211 rfl, fA.1 211 rfl, fE.1 211 rfl, fW.1 211 rfl, (mQ j hj).1, fP.1 211 rfl, (k8 j hj).2.1, (hm1 j hj).1, nI_add]
    · rw [gF'.2 322 rfl, gA.2 322 rfl, gE.2 322 rfl, gW.2 322 rfl, (mQ j hj).2, gP.2 322 rfl, (r8 j hj).2.1, (hm1 j hj).1, nI_L (by omega), lN_add]
  have M2 : ∀ j, j < 11 → K1.1 212 j = nI (m2 j + tkn j) ∧ K2.2 323 j = lN (m2 j + tkn j) := fun j hj => by
    have hb1 := (hm2 j hj).2
    refine ⟨?_, ?_⟩
    · rw [fF.1 212 rfl, fA.1 212 rfl, fE.1 212 rfl, (mW j hj).1, fQ.1 212 rfl, fP.1 212 rfl, (k8 j hj).2.2, (hm2 j hj).1, nI_add]
    · rw [gF'.2 323 rfl, gA.2 323 rfl, gE.2 323 rfl, (mW j hj).2.1, gQ.2 323 rfl, gP.2 323 rfl, (r8 j hj).2.2, (hm2 j hj).1, nI_L (by omega), lN_add]
  have Gs1 : K1.1 208 3 = nI (gs + gx) := by rw [fF.1 208 rfl, fA.1 208 rfl]; exact gE1
  have Gs2 : K2.2 232 124 = lN (gs + gx) := by rw [gF'.2 232 rfl, gA.2 232 rfl]; exact gE2
  have m0b : ∀ j, j < 11 → mt j + mx j ≤ 100000000 + 15000 * (q + 1) := fun j hj => by have h1 := (hmt j hj).2; have h2 := (mE j hj).2.2; omega
  have m1b : ∀ j, j < 11 → m1 j + c'.1 j ≤ 100000000 + 2000 * (q + 1) := fun j hj => by have h1 := (hm1 j hj).2; have h2 := (cB j hj).1; omega
  have m2b : ∀ j, j < 11 → m2 j + tkn j ≤ 100000000 + 10 * (q + 1) := fun j hj => by have h1 := (hm2 j hj).2; have h2 := (mW j hj).2.2.1; omega
  refine ⟨P1, P2, Q1, Q2, W1, W2, E1, E2, A1, A2, K1, K2, ⟨pP1, rfl, pQ1, hQ1, pW1, hW1, pE1, hE1, pA1, hA1, zF, pF1, hK1⟩, ⟨pP2, rfl, pQ2, hQ2, pW2, hW2, pE2, hE2, pA2, hA2, pF2, hK2⟩, ⟨FK, GK, bK, iK, lK⟩, (T', c', u4, kF, L.w, L.cr, L.R, L.S, L.sd), K1.1 210, K1.1 211, K1.1 212, K1.1 208 3, dry, ?_, ⟨?_, ?_, ?_⟩, ?_, ?_, ?_, rfl, rfl, rfl, rfl, rfl⟩
  · have z1 : ∀ z, z < 52 → 43 ≤ z → mdA.contains z = false := by decide
    have z2 : ∀ z, z < 257 → 253 ≤ z → mdC.contains z = false := by decide +kernel
    refine ⟨hPl FK GK (iK 7 (by decide) (by decide) (by decide) (by decide) (by decide) (by decide) (by decide) (by decide) (by decide)), prR_f hL.pr (fun z h1 h2 => FK.1 z (z1 z (by omega) h1)) (iK 28 (by decide) (by decide) (by decide) (by decide) (by decide) (by decide) (by decide) (by decide) (by decide)) (fun z h1 h2 => GK.1 z (z2 z (by omega) h1)), hL.prb, tK, tB, cK, cB, sF1, sF2, sFB, kF1, kF2, ⟨fun z hz => ?_, ?_, smF, ?_, fFb⟩, waR_f hL.wa (fun z hz => ?_) (by rw [FK.1 81 rfl]) (fun z h1 h2 => ?_) (GK.2 281 rfl) (iK 72 (by decide) (by decide) (by decide) (by decide) (by decide) (by decide) (by decide) (by decide) (by decide)), ⟨?_, fun j hj => ?_⟩, poR_f hL.po (fun z h1 h2 => ?_) (FK.1 99 rfl) (GK.2 286 rfl) (GK.1 285 rfl), fun j hj => ?_, by rw [FK.2 56 rfl]; exact hL.sd.1, by rw [lK 1 (by decide) (by decide) (by decide)]; exact hL.sd.2⟩
    · have h1 := hHb2 z hz
      have h2 : kA.h z = hh z := by rw [eh]
      have h3 := hL.kb.fl z hz
      have h4 : kA.fl z = L.k.fl z := by rw [ef]
      show -(100000 + 100000 * ((q + 1 : Nat) : Int)) ≤ (kF.h z).toInt ∧ (kF.h z).toInt ≤ 100000 + 100000 * ((q + 1 : Nat) : Int)
      rw [hF z hz]
      exact gH_b hq (by rw [h2]; exact h1) (by rw [h4]; exact h3)
    · show smb kF.sa (5000 * (q + 1))
      rw [saF]
      intro z hz
      rw [esa z]
      exact hSB vv vvb z hz
    · show ∀ z, z < 240 → kF.mo z ≤ 1000
      rw [moF]; exact emo
    · rcases hz with w | w | w | w <;> rw [w] <;> exact FK.1 _ rfl
    · rcases (show z = 278 ∨ z = 279 ∨ z = 280 by omega) with w | w | w <;> rw [w] <;> exact GK.1 _ rfl
    · have := hL.wab.1; show L.w.2.2.2 ≤ 18 * (q + 1); omega
    · have := hL.wab.2 j hj; show L.cr j ≤ q + 1; omega
    · rcases (show z = 91 ∨ z = 92 ∨ z = 93 ∨ z = 94 ∨ z = 95 ∨ z = 96 ∨ z = 97 ∨ z = 98 by omega) with w | w | w | w | w | w | w | w <;> rw [w] <;> exact FK.2 _ rfl
    · have := hL.pob j hj; show L.R.2 j ≤ 8 * (q + 1); omega
  · refine KS_B hks (stK_of FK GK rfl rfl (fun f hf => iK f (by omega) (by omega) (by omega) (by omega) (by omega) (by omega) (by omega) (by omega) (by omega)) (lK 134 (by decide) (by decide) (by decide))) rfl ?_ ?_
    · refine ckp_B hks.kc FK rfl rfl (fun _ => rfl) mtH_2 (fun _ _ _ _ => rfl) (fun j hj => ⟨rfl, rfl, rfl⟩) ?_ ?_
      · rw [FK.2 213 rfl, FK.2 214 rfl]; exact k8b
      · rw [bK 0 (by decide), bK 4 (by decide), FK.2 208 rfl]
        exact ⟨k9.1, k9.2.1, k9.2.2.1, rfl, k9.2.2.2.2⟩
    · refine rkp_B hks.kr GK rfl rfl (iK 27 (by decide) (by decide) (by decide) (by decide) (by decide) (by decide) (by decide) (by decide) (by decide)) (iK 21 (by decide) (by decide) (by decide) (by decide) (by decide) (by decide) (by decide) (by decide) (by decide)) (fun _ => rfl) mtH_2 (fun _ _ _ _ => rfl) (fun j hj => ?_) ?_ ?_
      · show _ = (K1.1 210 j).toInt64 ∧ _ = (K1.1 211 j).toInt64 ∧ _ = (K1.1 212 j).toInt64
        have a0 := m0b j hj
        have a1 := m1b j hj
        have a2 := m2b j hj
        rw [(M0 j hj).1, (M0 j hj).2, (M1 j hj).1, (M1 j hj).2, (M2 j hj).1, (M2 j hj).2, nI_L (by omega), nI_L (by omega), nI_L (by omega)]
        exact ⟨rfl, rfl, rfl⟩
      · rw [GK.2 324 rfl, GK.2 325 rfl]; exact r8b
      · rw [lK 2 (by decide) (by decide) (by decide), lK 122 (by decide) (by decide) (by decide), lK 123 (by decide) (by decide) (by decide), lK 125 (by decide) (by decide) (by decide)]
        refine ⟨r9.1, r9.2.1, r9.2.2.1, ?_, r9.2.2.2.2⟩
        show _ = (K1.1 208 3).toInt64
        rw [Gs1, Gs2, nI_L (by omega)]
  · exact crC_f hcc FK rfl rfl
  · exact crR_f hcr GK rfl rfl (iK 96 (by decide) (by decide) (by decide) (by decide) (by decide) (by decide) (by decide) (by decide) (by decide)) (lK 87 (by decide) (by decide) (by decide)) rfl
  · have hKm := KB_m (show q ≤ q + 1 by omega) hK
    obtain ⟨a1, a2, a3, a4, a5, a6, a7, a8, a9, a10, a11, a12, a13, a14, a15, a16, a17⟩ := hKm
    have b0 : ∀ j, j < 11 → ∃ m, m ≤ 100000000 + 15000 * (q + 1) ∧ K1.1 210 j = nI m := fun j hj => ⟨_, m0b j hj, (M0 j hj).1⟩
    have b1' : ∀ j, j < 11 → ∃ m, m ≤ 100000000 + 2000 * (q + 1) ∧ K1.1 211 j = nI m := fun j hj => ⟨_, m1b j hj, (M1 j hj).1⟩
    have b2 : ∀ j, j < 11 → ∃ m, m ≤ 100000000 + 10 * (q + 1) ∧ K1.1 212 j = nI m := fun j hj => ⟨_, m2b j hj, (M2 j hj).1⟩
    have b3 : ∃ g, g ≤ 100000000 + 23000 * (q + 1) ∧ K1.1 208 3 = nI g := ⟨gs + gx, gs_b g0 gEb, Gs1⟩
    exact ⟨a1, a2, a3, a4, a5, a6, b0, b1', b2, a10, b3, a12, a13, a14, a15, a16, a17⟩
  · rw [iF1 10 (by decide), fA.1 56 rfl, iE1 10 (by decide) (by decide)]; exact dW1
  · rw [iF2 67 (by decide), gA.1 232 rfl, iE2 67 (by decide)]; exact dW2
end Md
