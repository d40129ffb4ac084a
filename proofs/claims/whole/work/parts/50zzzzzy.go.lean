/-! PURE (50zzzzzy): going through a door. -/
def goX (N1 N2 : mz_N) (k j st ed w : Nat) (lb : Nat → Nat) : Prop := (k < 40) ∧ (j < 20) ∧ (st < 5) ∧ (ed < 110) ∧ (mz_gI N1 109 (nI k) = nO 240 w) ∧ (mz_gI N1 102 (nI j) = nI st) ∧ (mz_gI N1 103 (nI j) = nI ed) ∧ (∀ c, c < 240 → N1.1 15 c = nI (lb c)) ∧ (mz_gI N2 316 (nI k) = nO 240 w) ∧ (mz_gI N2 309 (nI j) = nI st) ∧ (mz_gI N2 310 (nI j) = nI ed) ∧ (∀ c, c < 240 → N2.1 235 c = nI (lb c)) ∧ (∀ c, c < 240 → lb c < 240)
theorem goX.hk {N1 N2 : mz_N} {k j st ed w : Nat} {lb : Nat → Nat} (h : goX N1 N2 k j st ed w lb) : k < 40 := h.1
theorem goX.hj {N1 N2 : mz_N} {k j st ed w : Nat} {lb : Nat → Nat} (h : goX N1 N2 k j st ed w lb) : j < 20 := h.2.1
theorem goX.hs {N1 N2 : mz_N} {k j st ed w : Nat} {lb : Nat → Nat} (h : goX N1 N2 k j st ed w lb) : st < 5 := h.2.2.1
theorem goX.he {N1 N2 : mz_N} {k j st ed w : Nat} {lb : Nat → Nat} (h : goX N1 N2 k j st ed w lb) : ed < 110 := h.2.2.2.1
theorem goX.c1 {N1 N2 : mz_N} {k j st ed w : Nat} {lb : Nat → Nat} (h : goX N1 N2 k j st ed w lb) : mz_gI N1 109 (nI k) = nO 240 w := h.2.2.2.2.1
theorem goX.c2 {N1 N2 : mz_N} {k j st ed w : Nat} {lb : Nat → Nat} (h : goX N1 N2 k j st ed w lb) : mz_gI N1 102 (nI j) = nI st := h.2.2.2.2.2.1
theorem goX.c3 {N1 N2 : mz_N} {k j st ed w : Nat} {lb : Nat → Nat} (h : goX N1 N2 k j st ed w lb) : mz_gI N1 103 (nI j) = nI ed := h.2.2.2.2.2.2.1
theorem goX.c4 {N1 N2 : mz_N} {k j st ed w : Nat} {lb : Nat → Nat} (h : goX N1 N2 k j st ed w lb) : ∀ c, c < 240 → N1.1 15 c = nI (lb c) := h.2.2.2.2.2.2.2.1
theorem goX.r1 {N1 N2 : mz_N} {k j st ed w : Nat} {lb : Nat → Nat} (h : goX N1 N2 k j st ed w lb) : mz_gI N2 316 (nI k) = nO 240 w := h.2.2.2.2.2.2.2.2.1
theorem goX.r2 {N1 N2 : mz_N} {k j st ed w : Nat} {lb : Nat → Nat} (h : goX N1 N2 k j st ed w lb) : mz_gI N2 309 (nI j) = nI st := h.2.2.2.2.2.2.2.2.2.1
theorem goX.r3 {N1 N2 : mz_N} {k j st ed w : Nat} {lb : Nat → Nat} (h : goX N1 N2 k j st ed w lb) : mz_gI N2 310 (nI j) = nI ed := h.2.2.2.2.2.2.2.2.2.2.1
theorem goX.r4 {N1 N2 : mz_N} {k j st ed w : Nat} {lb : Nat → Nat} (h : goX N1 N2 k j st ed w lb) : ∀ c, c < 240 → N2.1 235 c = nI (lb c) := h.2.2.2.2.2.2.2.2.2.2.2.1
theorem goX.b {N1 N2 : mz_N} {k j st ed w : Nat} {lb : Nat → Nat} (h : goX N1 N2 k j st ed w lb) : ∀ c, c < 240 → lb c < 240 := h.2.2.2.2.2.2.2.2.2.2.2.2
def nfc (st f : Nat) : Nat := if f < 48 then 48 * st + f else 240
def mt (lb : Nat → Nat) (x y : Nat) : Bool := if x < 240 then (if y < 240 then decide (lb x = lb y) else false) else decide (¬ y < 240)
/-- where a step ends -/
def gto (lb : Nat → Nat) (st ed w : Nat) : Nat := if mt lb w (nfc st (ge_bf ed)) = true then nfc st (ge_bh ed) else nfc st (ge_bf ed)
section Go
variable {N N1 N2 M1 M2 : mz_N} {b : Bool} {B q k j st ed w : Nat} {s : st_S} {D H G : Kp} {x : CrS} {L L' : LvS} {R : RsS} {v v1 v2 : Int32} {lb : Nat → Nat}
theorem nf_in {f : Nat} (hs : st < 5) (h : f < 48) : nfc st f < 240 ∧ nfc st f = 48 * st + f := by unfold nfc; rw [if_pos h]; exact ⟨by omega, rfl⟩
theorem nf_out {f : Nat} (h : ¬ f < 48) : nfc st f = 240 := if_neg h
theorem mt_oo {x y : Nat} (hx : ¬ x < 240) (hy : ¬ y < 240) : mt lb x y = true := by unfold mt; rw [if_neg hx]; exact decide_eq_true hy
theorem mt_oi {x y : Nat} (hx : ¬ x < 240) (hy : y < 240) : mt lb x y = false := by unfold mt; rw [if_neg hx]; exact decide_eq_false (fun z => z hy)
theorem mt_io {x y : Nat} (hx : x < 240) (hy : ¬ y < 240) : mt lb x y = false := by unfold mt; rw [if_pos hx, if_neg hy]
theorem mt_ii {x y : Nat} (hx : x < 240) (hy : y < 240) : mt lb x y = decide (lb x = lb y) := by unfold mt; rw [if_pos hx, if_pos hy]
theorem near_c (h : goX N1 N2 k j st ed w lb) : cp_309_0 (nI j) N1 ∧ cf_309_0 (nI j) N1 = nO 240 (nfc st (ge_bf ed)) ∧ cp_311_0 (nI j) N1 ∧ cf_311_0 (nI j) N1 = nO 240 (nfc st (ge_bh ed)) := by
  obtain ⟨e1, e2, _, _, _, _⟩ := ge_e ed h.he
  have ib := ib_n h.hj (show 20 < 2 ^ 31 by omega)
  have hs := h.hs
  have m1 : ∀ f, (nO 48 f = -1) = (¬ f < 48) := fun f => propext (nO_m1 (by omega))
  have k1 : ∀ f, (if nO 48 f = -1 then -1 else nI st * 48 + nO 48 f) = nO 240 (nfc st f) := fun f => by
    simp only [m1]
    by_cases z : f < 48
    · rw [if_neg (fun y => y z), nO_lt z, (nf_in hs z).2, nO_lt (by omega), show (48 : Int32) = nI 48 from rfl, pk_mul, nI_add, Nat.mul_comm]
    · rw [if_pos z, nf_out z, nO_ge (by omega)]
  refine ⟨⟨ib, fun _ => trivial, fun _ => ib⟩, ?_, ⟨ib, fun _ => trivial, fun _ => ib⟩, ?_⟩
  · rw [cf_309_0, h.c3, h.c2, e1]; exact k1 _
  · rw [cf_311_0, h.c3, h.c2, e2]; exact k1 _
theorem meets_c (h : goX N1 N2 k j st ed w lb) {x y : Nat} : cp_310_0 (nO 240 x) (nO 240 y) N1 ∧ cf_310_0 (nO 240 x) (nO 240 y) N1 = mt lb x y := by
  have m1 : ∀ f, (nO 240 f = -1) = (¬ f < 240) := fun f => propext (nO_m1 (by omega))
  rw [cp_310_0, cf_310_0, cf_310_10]
  simp only [m1]
  by_cases hx : x < 240
  · by_cases hy : y < 240
    · have g1 : mz_gI N1 15 (nO 240 x) = nI (lb x) := by rw [nO_lt hx, gI_a, nI_clamp (by omega)]; exact h.c4 x hx
      have g2 : mz_gI N1 15 (nO 240 y) = nI (lb y) := by rw [nO_lt hy, gI_a, nI_clamp (by omega)]; exact h.c4 y hy
      have b1' := h.b x hx
      have b2 := h.b y hy
      have qq : (nI (lb x) = nI (lb y)) = (lb x = lb y) := propext (nI_eq (by omega) (by omega))
      rw [if_neg (fun z => z hx), if_neg (fun z => z hy), g1, g2, mt_ii hx hy, nO_lt hx, nO_lt hy]
      refine ⟨⟨fun _ => trivial, fun _ => ⟨fun _ => trivial, fun _ => ⟨ib_n hx (by omega), ib_n hy (by omega)⟩⟩⟩, ?_⟩
      simp only [qq]
      by_cases z : lb x = lb y
      · rw [if_pos z, decide_eq_true z]
      · rw [if_neg z, decide_eq_false z]
    · rw [if_neg (fun z => z hx), if_pos hy, mt_io hx hy, nO_lt hx, nO_ge hy]
      exact ⟨⟨fun _ => trivial, fun _ => ⟨fun _ => trivial, fun z => absurd hy z⟩⟩, if_neg (nI_neg2 (by omega)).1⟩
  · rw [if_pos hx, nO_ge hx]
    by_cases hy : y < 240
    · rw [mt_oi hx hy, nO_lt hy]
      exact ⟨⟨fun _ => trivial, fun z => absurd hx z⟩, if_neg (fun z => (nI_neg2 (by omega)).1 z.symm)⟩
    · rw [mt_oo hx hy, nO_ge hy]
      exact ⟨⟨fun _ => trivial, fun z => absurd hx z⟩, if_pos rfl⟩
theorem isAt_r (h : goX N1 N2 k j st ed w lb) : cp_580_0 (nI k) (nI j) N2 ∧ cf_580_0 (nI k) (nI j) N2 = (mt lb w (nfc st (ge_bf ed)) || mt lb w (nfc st (ge_bh ed))) := by
  obtain ⟨_, _, e3, e4, _, _⟩ := ge_e ed h.he
  have gb := (ge_b ed h.he)
  have ibj := ib_n h.hj (show 20 < 2 ^ 31 by omega)
  have ibk := ib_n h.hk (show 40 < 2 ^ 31 by omega)
  have hs := h.hs
  have n48 : ∀ f, (nO 48 f < 0) = (¬ f < 48) := fun f => propext (nO_neg (by omega))
  have n240 : (nO 240 w < 0) = (¬ w < 240) := propext (nO_neg (by omega))
  have x2 : 48 * nI st = nI (48 * st) := by rw [show (48 : Int32) = nI 48 from rfl, pk_mul]
  have K87 : ∀ f, w < 240 → cp_580_87 (nO 48 f) (nI (48 * st)) (nI (lb w)) N2 ∧ cf_580_87 (nO 48 f) (nI (48 * st)) (nI (lb w)) N2 = mt lb w (nfc st f) := fun f hw => by
    rw [cp_580_87, cf_580_87]
    simp only [n48]
    by_cases z : f < 48
    · obtain ⟨i1, i2⟩ := nf_in (st := st) hs z
      rw [if_neg (fun y => y z), nO_lt z, nI_add, mt_ii hw i1]
      have g : mz_gI N2 235 (nI (48 * st + f)) = nI (lb (48 * st + f)) := by rw [gI_a, nI_clamp (by omega)]; exact h.r4 _ (by omega)
      have b1' := h.b w hw
      have b2 := h.b (48 * st + f) (by omega)
      have qq : (nI (lb (48 * st + f)) = nI (lb w)) = (lb (48 * st + f) = lb w) := propext (nI_eq (by omega) (by omega))
      rw [g, i2]
      refine ⟨⟨fun y => absurd z y, fun _ => ib_n (by omega) (by omega)⟩, ?_⟩
      simp only [qq]
      by_cases y : lb (48 * st + f) = lb w
      · rw [if_pos y, decide_eq_true y.symm]
      · rw [if_neg y, decide_eq_false (fun t => y t.symm)]
    · rw [if_pos z, nf_out z, mt_io hw (by omega)]
      exact ⟨⟨fun _ => trivial, fun y => absurd z y⟩, rfl⟩
  rw [cp_580_0, cf_580_0, h.r1, h.r3, h.r2, e3, e4]
  simp only [n48, n240, x2]
  by_cases hw : w < 240
  · have g0 : mz_gI N2 235 (nO 240 w) = nI (lb w) := by rw [nO_lt hw, gI_a, nI_clamp (by omega)]; exact h.r4 w hw
    rw [if_neg (fun y => y hw), g0]
    by_cases za : ge_bf ed < 48
    · obtain ⟨i1, i2⟩ := nf_in (st := st) hs za
      have g : mz_gI N2 235 (nI (48 * st) + nO 48 (ge_bf ed)) = nI (lb (48 * st + ge_bf ed)) := by rw [nO_lt za, nI_add, gI_a, nI_clamp (by omega)]; exact h.r4 _ (by omega)
      have b1' := h.b w hw
      have b2 := h.b (48 * st + ge_bf ed) (by omega)
      have qq : (nI (lb (48 * st + ge_bf ed)) = nI (lb w)) = (lb (48 * st + ge_bf ed) = lb w) := propext (nI_eq (by omega) (by omega))
      have ia : mz_ib (nI (48 * st) + nO 48 (ge_bf ed)) 240 := by rw [nO_lt za, nI_add]; exact ib_n (by omega) (by omega)
      rw [if_neg (fun y => y za), g, mt_ii hw i1, i2]
      simp only [qq]
      refine ⟨⟨ibj, ibj, ibj, ibk, fun y => absurd hw y, fun _ => ⟨ibk, by rw [nO_lt hw]; exact ib_n hw (by omega), fun y => absurd za y, fun _ => ⟨ia, fun _ => trivial, fun _ => (K87 _ hw).1⟩⟩⟩, ?_⟩
      by_cases y : lb (48 * st + ge_bf ed) = lb w
      · rw [if_pos y, decide_eq_true y.symm]; rfl
      · rw [if_neg y, decide_eq_false (fun t => y t.symm), (K87 _ hw).2]; rfl
    · rw [if_pos za, (K87 _ hw).2, nf_out za, mt_io hw (show ¬ 240 < 240 by omega)]
      exact ⟨⟨ibj, ibj, ibj, ibk, fun y => absurd hw y, fun _ => ⟨ibk, by rw [nO_lt hw]; exact ib_n hw (by omega), fun _ => (K87 _ hw).1, fun y => absurd za y⟩⟩, rfl⟩
  · rw [if_pos hw]
    refine ⟨⟨ibj, ibj, ibj, ibk, fun _ => trivial, fun y => absurd hw y⟩, ?_⟩
    by_cases za : ge_bf ed < 48
    · rw [if_neg (fun y => y za), mt_oi hw (nf_in hs za).1]
      by_cases zc : ge_bh ed < 48
      · rw [if_neg (fun y => y zc), mt_oi hw (nf_in hs zc).1]; rfl
      · rw [if_pos zc, mt_oo hw (by rw [nf_out zc]; omega)]; rfl
    · rw [if_pos za, mt_oo hw (by rw [nf_out za]; omega)]; rfl
theorem pass_r (h : goX N1 N2 k j st ed w lb) (ha : (mt lb w (nfc st (ge_bf ed)) || mt lb w (nfc st (ge_bh ed))) = true) : cp_582_0 (nI k) (nI j) N2 ∧ cf_582_0 (nI k) (nI j) N2 = mz_wI N2 316 (nI k) (nO 240 (gto lb st ed w)) := by
  obtain ⟨_, _, e3, e4, _, _⟩ := ge_e ed h.he
  have gb := ge_b ed h.he
  have ibj := ib_n h.hj (show 20 < 2 ^ 31 by omega)
  have ibk := ib_n h.hk (show 40 < 2 ^ 31 by omega)
  have hs := h.hs
  have n48 : ∀ f, (nO 48 f < 0) = (¬ f < 48) := fun f => propext (nO_neg (by omega))
  have n240 : (nO 240 w < 0) = (¬ w < 240) := propext (nO_neg (by omega))
  have x2 : 48 * nI st = nI (48 * st) := by rw [show (48 : Int32) = nI 48 from rfl, pk_mul]
  have nfx : ∀ f, f < 48 → nI (48 * st) + nO 48 f = nO 240 (nfc st f) := fun f z => by rw [nO_lt z, nI_add, (nf_in hs z).2, nO_lt (by omega)]
  have no0 : nO 240 240 = -1 := nO_ge (by omega)
  have C41 : ∀ a c, cp_582_41 (nI k) a c (nI (48 * st)) N2 := fun a c => ⟨ibk, fun _ => ⟨fun _ => ibk, fun _ => ibk⟩, fun _ => ibk⟩
  rw [cp_582_0, cf_582_0, h.r3, h.r2, e3, e4, x2]
  simp only [n48]
  by_cases za : ge_bf ed < 48
  · by_cases zc : ge_bh ed < 48
    · obtain ⟨i1, i2⟩ := nf_in (st := st) hs za
      obtain ⟨j1, j2⟩ := nf_in (st := st) hs zc
      have hw : w < 240 := Decidable.byContradiction (fun hw => by rw [mt_oi hw i1, mt_oi hw j1] at ha; cases ha)
      rw [mt_ii hw i1, mt_ii hw j1, i2, j2] at ha
      have g0 : mz_gI N2 235 (nO 240 w) = nI (lb w) := by rw [nO_lt hw, gI_a, nI_clamp (by omega)]; exact h.r4 w hw
      have ga : mz_gI N2 235 (nI (48 * st) + nO 48 (ge_bf ed)) = nI (lb (48 * st + ge_bf ed)) := by rw [nO_lt za, nI_add, gI_a, nI_clamp (by omega)]; exact h.r4 _ (by omega)
      have gc : mz_gI N2 235 (nI (48 * st) + nO 48 (ge_bh ed)) = nI (lb (48 * st + ge_bh ed)) := by rw [nO_lt zc, nI_add, gI_a, nI_clamp (by omega)]; exact h.r4 _ (by omega)
      have b0 := h.b w hw
      have b1' := h.b (48 * st + ge_bf ed) (by omega)
      have b2 := h.b (48 * st + ge_bh ed) (by omega)
      have qa : (nI (lb (48 * st + ge_bf ed)) = nI (lb w)) = (lb (48 * st + ge_bf ed) = lb w) := propext (nI_eq (by omega) (by omega))
      have qc : (nI (lb (48 * st + ge_bh ed)) = nI (lb w)) = (lb (48 * st + ge_bh ed) = lb w) := propext (nI_eq (by omega) (by omega))
      have ia : mz_ib (nI (48 * st) + nO 48 (ge_bf ed)) 240 := by rw [nO_lt za, nI_add]; exact ib_n (by omega) (by omega)
      have ic : mz_ib (nI (48 * st) + nO 48 (ge_bh ed)) 240 := by rw [nO_lt zc, nI_add]; exact ib_n (by omega) (by omega)
      have iw : mz_ib (nO 240 w) 240 := by rw [nO_lt hw]; exact ib_n hw (by omega)
      rw [if_neg (fun y => y za), if_neg (fun y => y zc), h.r1, g0, ga, gc]
      simp only [qa, qc]
      refine ⟨⟨ibj, ibj, ibj, fun y => absurd za y, fun _ => ⟨fun y => absurd zc y, fun _ => ⟨ibk, iw, ic, fun _ => ⟨ia, fun _ => ibk, fun _ => ibk⟩, fun _ => ibk⟩⟩⟩, ?_⟩
      unfold gto
      rw [mt_ii hw i1, i2]
      by_cases ya : lb (48 * st + ge_bf ed) = lb w
      · rw [decide_eq_true ya.symm, if_pos rfl, if_pos ya]
        have : cf_582_130 (nI k) (nO 48 (ge_bh ed)) (nI (48 * st)) N2 = mz_wI N2 316 (nI k) (nO 240 (nfc st (ge_bh ed))) := by rw [cf_582_130, cf_582_135, nfx _ zc]
        rw [this]; split <;> rfl
      · have yc : lb (48 * st + ge_bh ed) = lb w := by
          rw [decide_eq_false (fun t => ya t.symm)] at ha
          have ha' : decide (lb w = lb (48 * st + ge_bh ed)) = true := ha
          exact (of_decide_eq_true ha').symm
        rw [decide_eq_false (fun t => ya t.symm), if_neg (show ¬ (false = true) from fun z => by cases z), if_pos yc, if_neg ya, cf_582_135, nfx _ za, i2]
    · obtain ⟨i1, i2⟩ := nf_in (st := st) hs za
      rw [if_neg (fun y => y za), if_pos zc]
      refine ⟨⟨ibj, ibj, ibj, fun y => absurd za y, fun _ => ⟨fun _ => C41 _ _, fun y => absurd zc y⟩⟩, ?_⟩
      rw [cf_582_41, h.r1]
      simp only [n240, n48]
      unfold gto
      by_cases hw : w < 240
      · rw [if_neg (fun y => y hw)]
        rw [nf_out zc, mt_io hw (show ¬ 240 < 240 by omega), Bool.or_false] at ha
        rw [ha, if_pos rfl, nf_out zc, no0, cf_582_72]
      · rw [if_pos hw, if_neg (fun y => y za), mt_oi hw i1, if_neg (show ¬ (false = true) from fun z => by cases z), cf_582_67, cf_582_72, nfx _ za]
  · have zc : ge_bh ed < 48 := by
      by_cases y : ge_sd ed = 4
      · exact absurd (gb.1 y).1 za
      · rcases gb.2 y with t | t
        · exact t.2
        · exact absurd t.1 za
    obtain ⟨j1, j2⟩ := nf_in (st := st) hs zc
    rw [if_pos za]
    refine ⟨⟨ibj, ibj, ibj, fun _ => C41 _ _, fun y => absurd za y⟩, ?_⟩
    rw [cf_582_41, h.r1]
    simp only [n240, n48]
    unfold gto
    by_cases hw : w < 240
    · rw [if_neg (fun y => y hw), nf_out za, mt_io hw (show ¬ 240 < 240 by omega), if_neg (show ¬ (false = true) from fun z => by cases z), no0, cf_582_72]
    · rw [if_pos hw, if_pos za, nf_out za, mt_oo hw (show ¬ 240 < 240 by omega), if_pos rfl, cf_582_67, cf_582_72, nfx _ zc]
theorem stpd_c (h : goX N1 N2 k j st ed w lb) : cp_313_0 (nI k) (nI j) N1 ∧ cf_313_0 (nI k) (nI j) N1 = mz_wI N1 109 (nI k) (nO 240 (gto lb st ed w)) := by
  obtain ⟨a1, a2, a3, a4⟩ := near_c h
  have ibk := ib_n h.hk (show 40 < 2 ^ 31 by omega)
  obtain ⟨m1, m2⟩ := meets_c h (x := w) (y := nfc st (ge_bf ed))
  rw [cp_313_0, cf_313_0, h.c1, a2, a4, m2]
  refine ⟨⟨ibk, a1, m1, fun _ => ⟨a3, ibk⟩, fun _ => ⟨a1, ibk⟩⟩, ?_⟩
  unfold gto
  cases mt lb w (nfc st (ge_bf ed)) with
  | true => rw [if_pos rfl, if_pos rfl, cf_313_36]
  | false => rw [if_neg (fun z => by cases z), if_neg (fun z => by cases z), cf_313_36]
end Go
