/-! PURE (50zzzd): fire and smoke; flames in the class. -/
def gF (F : Nat → Nat) (c : Nat) : Nat := if 0 < F c then min 100 (F c + 10) else F c
def gS (F : Nat → Nat) (s : Nat → Int64) (c : Nat) : Int64 := if 0 < F c then s c + lN (2 * F c) else s c
def gH (F : Nat → Nat) (h : Nat → Int64) (c : Nat) : Int64 := if 0 < F c then h c + lN (50 * F c) else h c
/-- the cell beside c -/
def nbc (c d : Nat) : Nat := 48 * (c / 48) + ge_nb (c % 48) d
def edc (c d : Nat) : Nat := 110 * (c / 48) + ge_ed (c % 48) d
def lg1 (e : Nat → Nat) (c d : Nat) (f : Nat → Nat) : Nat → Nat := if ge_nb (c % 48) d < 48 ∧ e (edc c d) = 0 ∧ f (nbc c d) = 0 then up f (nbc c d) 10 else f
def lg (e F0 : Nat → Nat) (t : Nat) (f : Nat → Nat) : Nat → Nat := it (fun c f => if F0 c = 100 then it (lg1 e c) 4 f else f) t f
noncomputable def drq (s0 : Nat → Int64) (i : Nat) : Int64 := (s0 (ge_ca i) - s0 (ge_cb i)) / 4
noncomputable def dr1 (e : Nat → Nat) (s0 : Nat → Int64) (i : Nat) (f : Nat → Int64) : Nat → Int64 := if e i = 0 ∧ ge_sd (i % 110) = 4 then vp_updL (vp_updL f (ge_ca i) (f (ge_ca i) - drq s0 i)) (ge_cb i) (vp_updL f (ge_ca i) (f (ge_ca i) - drq s0 i) (ge_cb i) + drq s0 i) else f
noncomputable def drf (e : Nat → Nat) (s0 : Nat → Int64) (t : Nat) (f : Nat → Int64) : Nat → Int64 := it (dr1 e s0) t f
noncomputable def vts (lv : Bool) (vn : Nat) (s : Nat → Int64) (c : Nat) : Int64 := if lv = true then s c - (s c * lN vn) / 50 else s c
def sp1 (c : Nat) (x : (Nat → Nat) × Nat) : (Nat → Nat) × Nat := if 0 < x.1 c ∧ 10 ≤ x.2 then (up x.1 c (x.1 c - 30), x.2 - 10) else x
def spk (e : Nat → Nat) (k t : Nat) (x : (Nat → Nat) × Nat) : (Nat → Nat) × Nat := it (fun c x => if pl_lab e c = k then sp1 c x else x) t x
def spA (e : Nat → Nat) (w : Nat → Int64) (t : Nat) (x : (Nat → Nat) × Nat) : (Nat → Nat) × Nat := it (fun k x => if dtc e w k = true then spk e k 240 x else x) t x
def anl (F : Nat → Nat) (s : Nat → Int64) : Nat → Bool
  | 0 => false
  | c + 1 => anl F s c || decide (0 < F c ∨ 0 < s c)
section Fir
variable {N : mz_N} {e fl F : Nat → Nat} {s h : Nat → Int64}
/-- flames, old flames, smoke, heat in the class -/
def fmc (N : mz_N) (f o : Nat → Int32) (s h : Nat → Int64) : mz_N := (fun z => if z = 73 then f else if z = 80 then o else N.1 z, fun z => if z = 71 then s else if z = 68 then h else N.2 z)
variable {f o : Nat → Int32} {i v : Int32} {w : Int64}
theorem fm_f : mz_wI (fmc N f o s h) 73 i v = fmc N (upd f i.toNatClampNeg v) o s h := by
  refine mz_ext (fun c => ?_) (fun c => rfl)
  rw [wI_s, sI_1]
  show (if c = 73 then upd f _ v else if c = 73 then f else if c = 80 then o else N.1 c) = if c = 73 then _ else if c = 80 then o else N.1 c
  by_cases z : c = 73
  · rw [if_pos z, if_pos z]
  · rw [if_neg z, if_neg z, if_neg z]
theorem fm_o : mz_wI (fmc N f o s h) 80 i v = fmc N f (upd o i.toNatClampNeg v) s h := by
  refine mz_ext (fun c => ?_) (fun c => rfl)
  rw [wI_s, sI_1]
  show (if c = 80 then upd o _ v else if c = 73 then f else if c = 80 then o else N.1 c) = if c = 73 then f else if c = 80 then _ else N.1 c
  by_cases z : c = 80
  · rw [if_pos z, if_neg (show ¬ c = 73 by omega), if_pos z]
  · rw [if_neg z, if_neg z, if_neg z]
theorem fm_s : mz_wL (fmc N f o s h) 71 i w = fmc N f o (vp_updL s i.toNatClampNeg w) h := by
  refine mz_ext (fun c => rfl) (fun c => ?_)
  rw [wL_s, sL_2]
  show (if c = 71 then vp_updL s _ w else if c = 71 then s else if c = 68 then h else N.2 c) = if c = 71 then _ else if c = 68 then h else N.2 c
  by_cases z : c = 71
  · rw [if_pos z, if_pos z]
  · rw [if_neg z, if_neg z, if_neg z]
theorem fm_h : mz_wL (fmc N f o s h) 68 i w = fmc N f o s (vp_updL h i.toNatClampNeg w) := by
  refine mz_ext (fun c => rfl) (fun c => ?_)
  rw [wL_s, sL_2]
  show (if c = 68 then vp_updL h _ w else if c = 71 then s else if c = 68 then h else N.2 c) = if c = 71 then s else if c = 68 then _ else N.2 c
  by_cases z : c = 68
  · rw [if_pos z, if_neg (show ¬ c = 71 by omega), if_pos z]
  · rw [if_neg z, if_neg z, if_neg z]
theorem fm_0 : fmc N (N.1 73) (N.1 80) (N.2 71) (N.2 68) = N := by
  refine mz_ext (fun c => ?_) (fun c => ?_)
  · show (if c = 73 then N.1 73 else if c = 80 then N.1 80 else N.1 c) = N.1 c
    by_cases z : c = 73
    · rw [if_pos z, z]
    · rw [if_neg z]
      by_cases y : c = 80
      · rw [if_pos y, y]
      · rw [if_neg y]
  · show (if c = 71 then N.2 71 else if c = 68 then N.2 68 else N.2 c) = N.2 c
    by_cases z : c = 71
    · rw [if_pos z, z]
    · rw [if_neg z]
      by_cases y : c = 68
      · rw [if_pos y, y]
      · rw [if_neg y]
theorem grow_c (h73 : ∀ c, c < 240 → N.1 73 c = nI (F c) ∧ F c ≤ 100) : cp_248_0 N ∧ ∃ f o s h, cf_248_0 N = fmc N f o s h ∧ ∀ c, c < 240 → f c = nI (gF F c) ∧ o c = nI (F c) ∧ s c = gS F (N.2 71) c ∧ h c = gH F (N.2 68) c := by
  rw [cp_248_0, cf_248_0, cp_248_2, cf_248_2]
  refine mz_lpn (f := cq_248_2) (P := cd_248_2) (Q := fun t => ∃ f o s h, t = fmc N f o s h ∧ ∀ c, c < 240 → f c = nI (gF F c) ∧ o c = nI (F c) ∧ s c = gS F (N.2 71) c ∧ h c = gH F (N.2 68) c) 240 (fun x t => ∃ f o s h, t = (nI x, fmc N f o s h) ∧ (∀ c, c < x → f c = nI (gF F c) ∧ o c = nI (F c) ∧ s c = gS F (N.2 71) c ∧ h c = gH F (N.2 68) c) ∧ ∀ c, x ≤ c → f c = N.1 73 c ∧ s c = N.2 71 c ∧ h c = N.2 68 c) ?_ ?_ (Nat.zero_le _) ⟨N.1 73, N.1 80, N.2 71, N.2 68, by rw [fm_0]; rfl, fun c hc => absurd hc (Nat.not_lt_zero _), fun c _ => ⟨rfl, rfl, rfl⟩⟩
  · rintro x t hx ⟨f, o, s, h, rfl, h1, h2⟩
    have l : nI x < 240 := (nI_ltI (b := 240) (by omega) (by omega)).mpr hx
    have ix : mz_ib (nI x) 240 := ib_n hx (by omega)
    obtain ⟨x1, x2⟩ := h73 x hx
    obtain ⟨y1, y2, y3⟩ := h2 x (Nat.le_refl _)
    have cx : (nI x).toNatClampNeg = x := nI_clamp (by omega)
    have g73 : ∀ o s h, mz_gI (fmc N f o s h) 73 (nI x) = nI (F x) := fun o s h => by
      rw [gI_a, cx]; show f x = _; rw [y1, x1]
    have g71 : ∀ o h, mz_gL (fmc N f o s h) 71 (nI x) = N.2 71 x := fun o h => by
      rw [gL_a, cx]; show s x = _; rw [y2]
    have g68 : ∀ o s, mz_gL (fmc N f o s h) 68 (nI x) = N.2 68 x := fun o s => by
      rw [gL_a, cx]; show h x = _; rw [y3]
    have lt : (0 < nI (F x)) ↔ 0 < F x := nI_gt0 (by omega)
    have e2 : (2 * nI (F x)).toInt64 = lN (2 * F x) := by rw [show (2 : Int32) = nI 2 from rfl, pk_mul, nI_L (by omega)]
    have e50 : (50 * nI (F x)).toInt64 = lN (50 * F x) := by rw [show (50 : Int32) = nI 50 from rfl, pk_mul, nI_L (by omega)]
    have e10 : mz_imin 100 (nI (F x) + 10) = nI (min 100 (F x + 10)) := by rw [show (10 : Int32) = nI 10 from rfl, nI_add, show (100 : Int32) = nI 100 from rfl, imin_n (by omega) (by omega)]
    rw [cd_248_2, cq_248_2]
    simp only [l, if_true, g73, fm_o, cx, lt]
    by_cases w : 0 < F x
    · simp only [w, if_true, g71, e2, fm_s, cx]
      refine ⟨⟨fun _ => ⟨ix, ix, ix, fun _ => ⟨ix, ix, ix, ⟨ix, ix, ix, ix, ix, trivial⟩⟩, fun z => absurd trivial z⟩, fun z => absurd trivial z⟩, Or.inl ?_⟩
      rw [cf_248_48, g73, g68, e50, fm_h, g73, e10, fm_f, cx, cf_248_87, nI_1]
      refine ⟨_, rfl, _, _, _, _, rfl, fun c hc => ?_, fun c hc => ?_⟩
      · rw [up_a, up_a, upL_a, upL_a]
        by_cases z : c = x
        · rw [if_pos z, if_pos z, if_pos z, if_pos z, gF, gS, gH, z, if_pos w, if_pos w, if_pos w]
          exact ⟨rfl, rfl, rfl, rfl⟩
        · rw [if_neg z, if_neg z, if_neg z, if_neg z]
          exact h1 c (by omega)
      · rw [up_a, upL_a, upL_a, if_neg (by omega), if_neg (by omega), if_neg (by omega)]
        exact h2 c (by omega)
    · simp only [w, if_false]
      refine ⟨⟨fun _ => ⟨ix, ix, ix, False.elim, fun _ => trivial⟩, fun z => absurd trivial z⟩, Or.inl ?_⟩
      rw [cf_248_87, nI_1]
      refine ⟨_, rfl, f, upd o x (nI (F x)), s, h, rfl, fun c hc => ?_, fun c hc => h2 c (by omega)⟩
      rw [up_a]
      by_cases z : c = x
      · rw [if_pos z, gF, gS, gH, z, if_neg w, if_neg w, if_neg w, y1, y2, y3, x1]
        exact ⟨rfl, rfl, rfl, rfl⟩
      · rw [if_neg z]
        exact h1 c (by omega)
  · rintro t ⟨f, o, s, h, rfl, h1, h2⟩
    rw [cd_248_2, cq_248_2]
    exact ⟨⟨fun z => absurd z (show ¬ nI 240 < 240 by decide), fun _ => trivial⟩, _, if_neg (show ¬ (nI 240 : Int32) < 240 by decide), f, o, s, h, rfl, h1⟩
theorem nb_in {c d : Nat} (hc : c < 240) (hd : d < 4) (h : ge_nb (c % 48) d < 48) : nbc c d < 240 := by unfold nbc; omega
theorem light_c {f0 : Nat → Nat} (h3 : ∀ i, i < 550 → N.1 3 i = nI (e i) ∧ e i < 4) (h80 : ∀ c, c < 240 → N.1 80 c = nI (F c) ∧ F c ≤ 100) (h65 : N.1 65 8 = 1) (h73 : ∀ c, c < 240 → N.1 73 c = nI (f0 c) ∧ f0 c ≤ 100) : cp_249_0 N ∧ ∃ f, cf_249_0 N = mz_sI N 73 f ∧ ∀ c, c < 240 → f c = nI (lg e F 240 f0 c) ∧ lg e F 240 f0 c ≤ 100 := by
  have cell : ∀ x, x < 240 → ∀ (f : Nat → Int32) (q : Nat → Nat), (∀ c, c < 240 → f c = nI (q c) ∧ q c ≤ 100) → cp_249_22 (nI x) 0 (mz_sI N 73 f) ∧ ∃ f', cf_249_22 (nI x) 0 (mz_sI N 73 f) = .inl (nI (x + 1), mz_sI N 73 f') ∧ ∀ c, c < 240 → f' c = nI (it (lg1 e x) 4 q c) ∧ it (lg1 e x) 4 q c ≤ 100 := fun x hx f q hq => by
    rw [cp_249_22, cf_249_22]
    refine mz_lpn (f := cq_249_22 (nI x)) (P := cd_249_22 (nI x)) (Q := fun t => ∃ f', t = .inl (nI (x + 1), mz_sI N 73 f') ∧ ∀ c, c < 240 → f' c = nI (it (lg1 e x) 4 q c) ∧ it (lg1 e x) 4 q c ≤ 100) 4 (fun d t => ∃ f', t = (nI d, mz_sI N 73 f') ∧ ∀ c, c < 240 → f' c = nI (it (lg1 e x) d q c) ∧ it (lg1 e x) d q c ≤ 100) ?_ ?_ (Nat.zero_le _) ⟨f, rfl, hq⟩
    · rintro d t hd ⟨f', rfl, hf'⟩
      have l : nI d < 4 := (nI_ltI (b := 4) (by omega) (by omega)).mpr hd
      have d2 : mz_irem (nI x) 48 = nI (x % 48) := by rw [show (48 : Int32) = nI 48 from rfl, irem_n (by omega) (by omega) (by omega)]
      have d1 : nI x / 48 = nI (x / 48) := by rw [show (48 : Int32) = nI 48 from rfl, pk_div (by omega) (by omega) (by omega)]
      obtain ⟨q1, q2, q3, q4, q5, q6⟩ := ge_c (x % 48) (by omega) d hd
      have ei : nI (x / 48) * 110 + nI (ge_ed (x % 48) d) = nI (edc x d) := by rw [show (110 : Int32) = nI 110 from rfl, pk_mul, nI_add, edc, Nat.mul_comm]
      have hei : edc x d < 550 := by unfold edc; omega
      have g3 : mz_gI (mz_sI N 73 f') 3 (nI (edc x d)) = nI (e (edc x d)) := by rw [gI_a, sI_n (by decide), nI_clamp (by omega)]; exact (h3 _ hei).1
      have ii : mz_ib (nI (edc x d)) 550 := ib_n hei (by omega)
      have e4 := (h3 _ hei).2
      generalize hQ : it (lg1 e x) d q = Q at hf'
      have es : it (lg1 e x) (d + 1) q = lg1 e x d Q := by rw [← hQ]; rfl
      have skip : lg1 e x d Q = Q → ∃ s2, cf_249_86 (nI x) (nI d) (mz_sI N 73 f') = .inl s2 ∧ ∃ f', s2 = (nI (d + 1), mz_sI N 73 f') ∧ ∀ c, c < 240 → f' c = nI (it (lg1 e x) (d + 1) q c) ∧ it (lg1 e x) (d + 1) q c ≤ 100 := fun hk => ⟨_, rfl, f', by rw [nI_1], by rw [es, hk]; exact hf'⟩
      rw [cd_249_22, cq_249_22]
      simp only [l, if_true, d1, d2, q1, q2, ei, g3]
      by_cases w1 : ge_nb (x % 48) d < 48
      · have eO : nO 48 (ge_nb (x % 48) d) = nI (ge_nb (x % 48) d) := if_pos w1
        have nm : ¬ nI (ge_nb (x % 48) d) = -1 := fun z => (nI_m1 (by omega)).mp z
        have en : nI (x / 48) * 48 + nI (ge_nb (x % 48) d) = nI (nbc x d) := by rw [show (48 : Int32) = nI 48 from rfl, pk_mul, nI_add, nbc, Nat.mul_comm]
        have hnb := nb_in hx hd w1
        simp only [eO, nm, if_false, en]
        by_cases w2 : e (edc x d) = 0
        · have w2' : nI (e (edc x d)) = 0 := by rw [w2]; rfl
          have g73 : mz_gI (mz_sI N 73 f') 73 (nI (nbc x d)) = nI (Q (nbc x d)) := by rw [gI_a, sI_e, nI_clamp (by omega)]; exact (hf' _ hnb).1
          have hqb := (hf' _ hnb).2
          have lt : (0 < nI (Q (nbc x d))) ↔ 0 < Q (nbc x d) := nI_gt0 (by omega)
          have inb : mz_ib (nI (nbc x d)) 240 := ib_n hnb (by omega)
          simp only [w2', if_true]
          rw [cp_250_0, cf_250_0, g73]
          by_cases w3 : 0 < Q (nbc x d)
          · rw [if_pos (lt.mpr w3)]
            exact ⟨⟨fun _ => ⟨False.elim, fun _ => ⟨ii, fun _ => ⟨⟨inb, fun _ => trivial, fun z => absurd (lt.mpr w3) z⟩, trivial⟩, fun z => absurd trivial z⟩⟩, fun z => absurd trivial z⟩, Or.inl (skip (if_neg (fun z => by have := z.2.2; omega)))⟩
          · rw [if_neg (fun z => w3 (lt.mp z))]
            refine ⟨⟨fun _ => ⟨False.elim, fun _ => ⟨ii, fun _ => ⟨⟨inb, fun z => absurd (lt.mp z) w3, fun _ => inb⟩, trivial⟩, fun z => absurd trivial z⟩⟩, fun z => absurd trivial z⟩, Or.inl ?_⟩
            have h1 : lg1 e x d Q = up Q (nbc x d) 10 := if_pos ⟨w1, w2, by omega⟩
            refine ⟨_, rfl, upd f' (nbc x d) 10, ?_, fun c hc => ?_⟩
            · rw [nI_1]
              refine Prod.ext rfl ?_
              show mz_pI (mz_wI (mz_sI N 73 f') 73 (nI (nbc x d)) 10) 65 8 (mz_b01 true) = _
              rw [wI_s, sI_e, sI_sI, nI_clamp (by omega)]
              exact pI_same (by rw [sI_n (by decide), h65]; rfl)
            · rw [es, h1, up_a]
              unfold up
              by_cases z : c = nbc x d
              · rw [if_pos z, if_pos z]; exact ⟨rfl, by omega⟩
              · rw [if_neg z, if_neg z]; exact hf' c hc
        · have w2' : ¬ nI (e (edc x d)) = 0 := fun z => w2 ((nI_eq0 (by omega)).mp z)
          simp only [w2', if_false]
          exact ⟨⟨fun _ => ⟨False.elim, fun _ => ⟨ii, False.elim, fun _ => trivial⟩⟩, fun z => absurd trivial z⟩, Or.inl (skip (if_neg (fun z => w2 z.2.1)))⟩
      · have eO : nO 48 (ge_nb (x % 48) d) = -1 := if_neg w1
        simp only [eO, if_true]
        exact ⟨⟨fun _ => ⟨fun _ => trivial, fun z => absurd trivial z⟩, fun z => absurd trivial z⟩, Or.inl (skip (if_neg (fun z => w1 z.1)))⟩
    · rintro t ⟨f', rfl, hf'⟩
      rw [cd_249_22, cq_249_22]
      refine ⟨⟨fun z => absurd z (show ¬ nI 4 < 4 by decide), fun _ => trivial⟩, _, if_neg (show ¬ (nI 4 : Int32) < 4 by decide), f', ?_, hf'⟩
      rw [cf_249_92, nI_1]
  rw [cp_249_0, cf_249_0, cp_249_2, cf_249_2]
  refine mz_lpn (f := cq_249_2) (P := cd_249_2) (Q := fun t => ∃ f, t = mz_sI N 73 f ∧ ∀ c, c < 240 → f c = nI (lg e F 240 f0 c) ∧ lg e F 240 f0 c ≤ 100) 240 (fun x t => ∃ f, t = (nI x, mz_sI N 73 f) ∧ ∀ c, c < 240 → f c = nI (lg e F x f0 c) ∧ lg e F x f0 c ≤ 100) ?_ ?_ (Nat.zero_le _) ⟨N.1 73, by rw [sI_same]; rfl, h73⟩
  · rintro x t hx ⟨f, rfl, hf⟩
    have l : nI x < 240 := (nI_ltI (b := 240) (by omega) (by omega)).mpr hx
    have ix : mz_ib (nI x) 240 := ib_n hx (by omega)
    obtain ⟨x1, x2⟩ := h80 x hx
    have g80 : mz_gI (mz_sI N 73 f) 80 (nI x) = nI (F x) := by rw [gI_a, sI_n (by decide), nI_clamp (by omega)]; exact x1
    have es : lg e F (x + 1) f0 = if F x = 100 then it (lg1 e x) 4 (lg e F x f0) else lg e F x f0 := rfl
    rw [cd_249_2, cq_249_2]
    simp only [l, if_true, g80]
    by_cases w : F x = 100
    · have w' : nI (F x) = 100 := by rw [w]; rfl
      obtain ⟨c1, f', c2, c3⟩ := cell x hx f (lg e F x f0) hf
      simp only [w', if_true, c2]
      exact ⟨⟨fun _ => ⟨ix, fun _ => c1, fun z => absurd trivial z⟩, fun z => absurd trivial z⟩, Or.inl ⟨_, rfl, f', rfl, by rw [es, if_pos w]; exact c3⟩⟩
    · have w' : ¬ nI (F x) = 100 := fun z => w ((nI_eq (b := 100) (by omega) (by omega)).mp z)
      simp only [w', if_false]
      exact ⟨⟨fun _ => ⟨ix, False.elim, fun _ => trivial⟩, fun z => absurd trivial z⟩, Or.inl ⟨_, rfl, f, by rw [nI_1], by rw [es, if_neg w]; exact hf⟩⟩
  · rintro t ⟨f, rfl, hf⟩
    rw [cd_249_2, cq_249_2]
    exact ⟨⟨fun z => absurd z (show ¬ nI 240 < 240 by decide), fun _ => trivial⟩, _, if_neg (show ¬ (nI 240 : Int32) < 240 by decide), f, rfl, hf⟩
end Fir
