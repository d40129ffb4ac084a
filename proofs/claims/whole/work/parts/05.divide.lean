/-! PURE (5): the class's and the reference's way to the spaces. -/
theorem sI_comm {N : mz_N} {a b : Nat} {f g : Nat → Int32} (h : a ≠ b) : mz_sI (mz_sI N a f) b g = mz_sI (mz_sI N b g) a f := by
  unfold mz_sI
  refine Prod.ext (funext fun c => ?_) rfl
  by_cases h1 : c = b
  · subst h1; simp only [if_true, if_neg (fun z => h (Eq.symm z))]
  · simp only [h1, if_false]
theorem sI_4 {N : mz_N} {a b : Nat} {f g f2 g2 : Nat → Int32} (h : a ≠ b) : mz_sI (mz_sI (mz_sI (mz_sI N a f) b g) a f2) b g2 = mz_sI (mz_sI N a f2) b g2 := by
  rw [sI_comm (a := b) (b := a) (fun z => h z.symm), sI_sI, sI_sI]
theorem fill_ok {a n : Nat} {v : Int32} {N : mz_N} (hn : n < 2 ^ 31) : cp_13_0 a n v N ∧ cf_13_0 a n v N = mz_sI N a (fun j => if j < n then v else N.1 a j) := by
  have h := mz_lps (f := cq_13_5 a n v (nI n)) (P := cd_13_5 a n v (nI n)) (t := mz_sI N a (fun j => if j < n then v else N.1 a j)) n (fun k => (nI k, mz_sI N a (fun j => if j < k then v else N.1 a j))) ?_ ?_ (Nat.zero_le n)
  · have e : mz_sI N a (fun j => if j < 0 then v else N.1 a j) = N := by
      rw [show (fun j => if j < 0 then v else N.1 a j) = N.1 a from funext fun j => if_neg (Nat.not_lt_zero j)]
      exact sI_same N a
    simp only [e, nI_0] at h
    exact h
  · intro k hk
    simp (disch := omega) only [cd_13_5, cq_13_5, nI_ltI, ib_i, hk, if_true, true_implies, not_true_eq_false, false_implies, and_true, true_and, nI_1, wI_s, wL_s, pI_s, pL_s, yI_s, yL_s, sI_1, sI_2, sL_1, sL_2, gI_a, gL_a, sI_sI, nI_clamp]
    congr 3
    funext j
    simp only [up_a]
    by_cases h1 : j = k
    · simp [h1]
    · by_cases h2 : j < k
      · simp [h1, h2, show j < k + 1 by omega]
      · simp [h1, h2, show ¬ j < k + 1 by omega]
  · simp (disch := omega) only [cd_13_5, cq_13_5, nI_ltI, Nat.lt_irrefl, false_implies, if_false, not_false_eq_true, true_implies, and_true]
section Fld
variable {a1 a2 : Nat} {w : Nat → Bool} {N : mz_N}
/-- the class's labels and queue -/
def fl_M (N : mz_N) (a2 : Nat) (x : fl_X) (M : mz_N) : Prop := ∃ f q, M = mz_sI (mz_sI N a2 f) 14 q ∧ (∀ c, c < 240 → f c = nO 240 (x.1 c)) ∧ ∀ j, j < x.2.2 → q j = nI (x.2.1 j)
theorem fl_stop {w : Nat → Bool} {s n k : Nat} {x : fl_X} (h : (fl_r w s n k x).2.2 ≤ k) : ∀ j, fl_r w s n (k + j) x = fl_r w s n k x := by
  intro j
  induction j with
  | zero => rfl
  | succ j ih =>
    rw [fl_r, ← Nat.add_assoc, it]
    rw [fl_r] at ih
    rw [ih]
    rw [fl_r] at h ⊢
    rw [if_neg (by omega)]
theorem c_fl1 {s n i d : Nat} {lab : Nat → Nat} {x : fl_X} {M : mz_N} (h12 : a1 ≠ a2) (h1 : a1 ≠ 14) (h2 : a2 ≠ 14) (hw : ∀ k, k < 550 → (N.1 a1 k = 0 ↔ w k = true)) (hs : s < 5) (hn : n < 240) (hlab : ∀ c, lab c ≤ 240) (hI : fl_I s n lab x) (hi : i < x.2.2) (hd : d < 4) (hM : fl_M N a2 x M) :
    cd_79_44 a1 a2 (nI n) (nI s) (nI i) (nI x.2.2, nI d, M) ∧ ∃ M2, cq_79_44 a1 a2 (nI n) (nI s) (nI i) (nI x.2.2, nI d, M) = .inl (nI (fl_1 w s n i d x).2.2, nI (d + 1), M2) ∧ fl_M N a2 (fl_1 w s n i d x) M2 := by
  obtain ⟨f, q, rfl, hf, hq⟩ := hM
  obtain ⟨b1, b2, b3, b4, b5⟩ := hI
  have hc := (b3 i hi).1
  have hx48 : x.2.2 ≤ 48 := by omega
  obtain ⟨e80, e81, -, -, l81, l80⟩ := ge_c (x.2.1 i) hc d hd
  have hg : mz_gI (mz_sI (mz_sI N a2 f) 14 q) 14 (nI i) = nI (x.2.1 i) := by
    rw [gI_a, sI_e, nI_clamp (by omega), hq i hi]
  unfold fl_1
  generalize hb : ge_nb (x.2.1 i) d = b at *
  generalize hed : ge_ed (x.2.1 i) d = ed at *
  by_cases hb48 : b < 48
  · have hlabv : mz_gI (mz_sI (mz_sI N a2 f) 14 q) a2 (nI (s * 48 + b)) = nO 240 (x.1 (48 * s + b)) := by
      rw [gI_a, sI_n h2, sI_e, nI_clamp (by omega), hf _ (by omega), show s * 48 + b = 48 * s + b by omega]
    have hwv : mz_gI (mz_sI (mz_sI N a2 f) 14 q) a1 (nI (s * 110 + ed)) = 0 ↔ w (110 * s + ed) = true := by
      rw [gI_a, sI_n h1, sI_n h12, nI_clamp (by omega), hw _ (by omega), show s * 110 + ed = 110 * s + ed by omega]
    by_cases hl : x.1 (48 * s + b) = 240
    · have hcp : 0 < cnt (fun c => decide (x.1 (48 * s + c) = 240)) 48 := cnt_pos hb48 (by simpa using hl)
      have hlt : x.2.2 < 48 := by omega
      by_cases hww : w (110 * s + ed) = true
      · rw [if_pos ⟨hb48, hl, hww⟩]
        simp (disch := omega) only [cd_79_44, cq_79_44, cf_79_135, cf_79_138, cp_79_135, cp_79_138, hg, e80, e81, nO_lt hb48, nI_ltI, nI_m1, (show (4 : Int32) = nI 4 from rfl), (show (48 : Int32) = nI 48 from rfl), (show (110 : Int32) = nI 110 from rfl), pk_mul, nI_add, hlabv, hwv, hl, hww, nO_m1, hd, hlt, ib_i, nI_1, nI_clamp, wI_s,
          Nat.lt_irrefl, not_false_eq_true, not_true_eq_false, if_true, if_false, true_implies, false_implies, implies_true, and_true, true_and]
        refine ⟨by omega, _, rfl, ?_⟩
        refine ⟨_, _, sI_4 h2, ?_, ?_⟩
        · intro c hc
          rw [up_a, sI_n h2, sI_e, show s * 48 + b = 48 * s + b by omega]
          show _ = nO 240 (up x.1 (48 * s + b) n c)
          rw [up_d]
          by_cases e : c = 48 * s + b
          · rw [if_pos e, if_pos e, nO_lt hn]
          · rw [if_neg e, if_neg e]; exact hf c hc
        · intro j hj
          have hj : j < x.2.2 + 1 := hj
          rw [up_a, sI_n (fun z => h2 z.symm), sI_e]
          show _ = nI (up x.2.1 x.2.2 b j)
          rw [up_d]
          by_cases e : j = x.2.2
          · rw [if_pos e, if_pos e]
          · rw [if_neg e, if_neg e]; exact hq j (by omega)
      · rw [if_neg (fun z => hww z.2.2)]
        simp (disch := omega) only [cd_79_44, cq_79_44, cf_79_135, cf_79_138, cp_79_135, cp_79_138, hg, e80, e81, nO_lt hb48, nI_ltI, nI_m1, (show (4 : Int32) = nI 4 from rfl), (show (48 : Int32) = nI 48 from rfl), (show (110 : Int32) = nI 110 from rfl), pk_mul, nI_add, hlabv, hwv, hl, hww, nO_m1, hd, hlt, ib_i, nI_1, nI_clamp,
          Nat.lt_irrefl, not_false_eq_true, not_true_eq_false, if_true, if_false, true_implies, false_implies, implies_true, and_true, true_and]
        exact ⟨by omega, _, rfl, _, _, rfl, hf, hq⟩
    · rw [if_neg (fun z => hl z.2.1)]
      have hl2 : x.1 (48 * s + b) < 240 := by
        have := hlab (48 * s + b)
        rcases b4 (48 * s + b) with z | z <;> omega
      simp (disch := omega) only [cd_79_44, cq_79_44, cf_79_135, cf_79_138, cp_79_135, cp_79_138, hg, e80, e81, nO_lt hb48, nI_ltI, nI_m1, (show (4 : Int32) = nI 4 from rfl), (show (48 : Int32) = nI 48 from rfl), (show (110 : Int32) = nI 110 from rfl), pk_mul, nI_add, hlabv, nO_lt hl2, hd, ib_i, nI_1, nI_clamp, ite_self,
          Nat.lt_irrefl, not_false_eq_true, not_true_eq_false, if_true, if_false, true_implies, false_implies, implies_true, and_true, true_and]
      exact ⟨⟨by omega, fun _ => by omega⟩, _, rfl, _, _, rfl, hf, hq⟩
  · rw [if_neg (fun z => hb48 z.1)]
    simp (disch := omega) only [cd_79_44, cq_79_44, cf_79_138, cp_79_138, hg, e80, nO_ge hb48, nI_ltI, (show (4 : Int32) = nI 4 from rfl), hd, ib_i, nI_1,
          not_false_eq_true, not_true_eq_false, if_true, if_false, true_implies, false_implies, implies_true, and_true, true_and]
    exact ⟨by omega, _, rfl, _, _, rfl, hf, hq⟩
theorem c_fl4 {s n i : Nat} {lab : Nat → Nat} {x : fl_X} {M : mz_N} (h12 : a1 ≠ a2) (h1 : a1 ≠ 14) (h2 : a2 ≠ 14) (hw : ∀ k, k < 550 → (N.1 a1 k = 0 ↔ w k = true)) (hs : s < 5) (hn : n < 240) (hlab : ∀ c, lab c ≤ 240) (hI : fl_I s n lab x) (hc : fl_C w s i x) (hi : i < x.2.2) (hM : fl_M N a2 x M) :
    cp_79_44 a1 a2 (nI n) (nI s) (nI x.2.2) (nI i) 0 M ∧ ∃ M2, cf_79_44 a1 a2 (nI n) (nI s) (nI x.2.2) (nI i) 0 M = .inl (nI (fl_4 w s n i x).2.2, nI (i + 1), M2) ∧ fl_M N a2 (fl_4 w s n i x) M2 := by
  refine mz_lpn (f := cq_79_44 a1 a2 (nI n) (nI s) (nI i)) (P := cd_79_44 a1 a2 (nI n) (nI s) (nI i)) (Q := fun t => ∃ M2, t = .inl (nI (fl_4 w s n i x).2.2, nI (i + 1), M2) ∧ fl_M N a2 (fl_4 w s n i x) M2) 4 (fun d s1 => ∃ M, s1 = (nI (it (fl_1 w s n i) d x).2.2, nI d, M) ∧ fl_M N a2 (it (fl_1 w s n i) d x) M) ?_ ?_ (Nat.zero_le 4) ⟨M, rfl, hM⟩
  · rintro d s1 hd ⟨M1, rfl, hM1⟩
    obtain ⟨g1, g2, g3, g4, g5⟩ := fl_4_I hs hn hI hi hc d (by omega)
    obtain ⟨p1, M2, p2, p3⟩ := c_fl1 (i := i) h12 h1 h2 hw hs hn hlab g1 (by omega) hd hM1
    exact ⟨p1, Or.inl ⟨_, p2, M2, rfl, p3⟩⟩
  · rintro s1 ⟨M1, rfl, hM1⟩
    simp (disch := omega) only [cd_79_44, cq_79_44, nI_ltI, (show (4 : Int32) = nI 4 from rfl), Nat.lt_irrefl, nI_1, not_false_eq_true, not_true_eq_false, if_true, if_false, true_implies, false_implies, implies_true, and_true, true_and]
    exact ⟨_, rfl, M1, rfl, hM1⟩
theorem c_flr {s n : Nat} {lab : Nat → Nat} {x : fl_X} {M : mz_N} (h12 : a1 ≠ a2) (h1 : a1 ≠ 14) (h2 : a2 ≠ 14) (hw : ∀ k, k < 550 → (N.1 a1 k = 0 ↔ w k = true)) (hs : s < 5) (hn : n < 240) (hlab : ∀ c, lab c ≤ 240) (hI : fl_I s n lab x) (hM : fl_M N a2 x M) :
    cp_79_27 a1 a2 (nI n) (nI s) (nI x.2.2) 0 M ∧ fl_M N a2 (fl_r w s n 48 x) (cf_79_27 a1 a2 (nI n) (nI s) (nI x.2.2) 0 M) := by
  refine mz_lpn (f := cq_79_27 a1 a2 (nI n) (nI s)) (P := cd_79_27 a1 a2 (nI n) (nI s)) (Q := fun t => fl_M N a2 (fl_r w s n 48 x) t) 48 (fun i s1 => ∃ M, s1 = (nI (fl_r w s n i x).2.2, nI i, M) ∧ fl_M N a2 (fl_r w s n i x) M) ?_ ?_ (Nat.zero_le 48) ⟨M, rfl, hM⟩
  · rintro i s1 hi ⟨M1, rfl, hM1⟩
    obtain ⟨g1, g2⟩ := fl_r_I (w := w) hs hn hI i
    have hle := g1.2.1
    by_cases hlt : i < (fl_r w s n i x).2.2
    · obtain ⟨p1, M2, p2, p3⟩ := c_fl4 h12 h1 h2 hw hs hn hlab g1 g2 hlt hM1
      have e : fl_r w s n (i + 1) x = fl_4 w s n i (fl_r w s n i x) := by
        show it _ (i + 1) x = _
        rw [it]
        exact if_pos hlt
      simp (disch := omega) only [cd_79_27, cq_79_27, nI_ltI, (show (48 : Int32) = nI 48 from rfl), hlt, hi, p1, p2, not_false_eq_true, not_true_eq_false, if_true, if_false, true_implies, false_implies, implies_true, and_true, true_and]
      exact Or.inl ⟨_, rfl, M2, by rw [e], by rw [e]; exact p3⟩
    · have e := fl_stop (w := w) (s := s) (n := n) (k := i) (x := x) (by omega) (48 - i)
      rw [show i + (48 - i) = 48 by omega] at e
      simp (disch := omega) only [cd_79_27, cq_79_27, nI_ltI, hlt, not_false_eq_true, not_true_eq_false, if_true, if_false, true_implies, false_implies, implies_true, and_true, true_and]
      exact Or.inr ⟨_, rfl, by rw [e]; exact hM1⟩
  · rintro s1 ⟨M1, rfl, hM1⟩
    have hle := (fl_r_I (w := w) hs hn hI 48).1.2.1
    simp (disch := omega) only [cd_79_27, cq_79_27, nI_ltI, (show (48 : Int32) = nI 48 from rfl), Nat.lt_irrefl, ite_self, not_false_eq_true, not_true_eq_false, if_true, if_false, true_implies, false_implies, implies_true, and_true, true_and]
    exact ⟨_, rfl, hM1⟩
theorem c_fl {a n : Nat} {lab : Nat → Nat} {M : mz_N} (h12 : a1 ≠ a2) (h1 : a1 ≠ 14) (h2 : a2 ≠ 14) (hw : ∀ k, k < 550 → (N.1 a1 k = 0 ↔ w k = true)) (ha : a < 240) (hna : n ≤ a) (h0 : lab a = 240) (hl : ∀ c, lab c = 240 ∨ (c < 240 ∧ lab c < n))
    (hM : ∃ f q, M = mz_sI (mz_sI N a2 f) 14 q ∧ ∀ c, c < 240 → f c = nO 240 (lab c)) :
    cp_79_0 a1 a2 (nI a) (nI n) M ∧ ∃ f q, cf_79_0 a1 a2 (nI a) (nI n) M = mz_sI (mz_sI N a2 f) 14 q ∧ ∀ c, c < 240 → f c = nO 240 ((fl w a n lab).1 c) := by
  obtain ⟨f, q, rfl, hf⟩ := hM
  have hI := fl_0_I ha h0 (by omega : n < 240) (fun c _ q => by rcases hl c with z | ⟨-, z⟩ <;> omega)
  have hM0 : fl_M N a2 (fl_0 a n lab) (mz_wI (mz_wI (mz_sI (mz_sI N a2 f) 14 q) a2 (nI a) (nI n)) 14 0 (mz_irem (nI a) 48)) := by
    rw [wI_s, wI_s]
    refine ⟨_, _, sI_4 h2, ?_, ?_⟩
    · intro c hc
      rw [up_a, sI_n h2, sI_e, nI_clamp (by omega)]
      show _ = nO 240 (up lab a n c)
      rw [up_d]
      by_cases e : c = a
      · rw [if_pos e, if_pos e, nO_lt (by omega)]
      · rw [if_neg e, if_neg e]; exact hf c hc
    · intro j hj
      have : j = 0 := by have : j < 1 := hj; omega
      subst this
      rw [up_a, if_pos (by decide), show (48 : Int32) = nI 48 from rfl, irem_n (by omega) (by omega) (by omega)]
      show _ = nI (up (fun _ => 0) 0 (a % 48) 0)
      rw [up_e]
  obtain ⟨p1, f2, q2, p2, p3, -⟩ := c_flr h12 h1 h2 hw (by omega) (by omega) (fun c => by rcases hl c with z | ⟨-, z⟩ <;> omega) hI hM0
  have e : nI a / 48 = nI (a / 48) := by rw [show (48 : Int32) = nI 48 from rfl, pk_div (by omega) (by omega) (by omega)]
  rw [cp_79_0, cf_79_0, e]
  unfold fl
  exact ⟨⟨ib_n ha (by omega), p1⟩, f2, q2, p2, p3⟩
theorem c_dv (h12 : a1 ≠ a2) (h1 : a1 ≠ 14) (h2 : a2 ≠ 14) (hw : ∀ k, k < 550 → (N.1 a1 k = 0 ↔ w k = true)) : cp_78_0 a1 a2 N ∧ ∃ f q, cf_78_0 a1 a2 N = (nI (dv w 240).2, mz_sI (mz_sI N a2 f) 14 q) ∧ ∀ c, c < 240 → f c = nO 240 ((dv w 240).1 c) := by
  obtain ⟨p0, e0⟩ := fill_ok (a := a2) (n := 240) (v := -1) (N := N) (by omega)
  rw [cp_78_0, cf_78_0, e0]
  have hh := mz_lpn (f := cq_78_10 a1 a2) (P := cd_78_10 a1 a2) (Q := fun t => ∃ f q, t = (nI (dv w 240).2, mz_sI (mz_sI N a2 f) 14 q) ∧ ∀ c, c < 240 → f c = nO 240 ((dv w 240).1 c)) 240 (fun k s1 => ∃ f q, s1 = (nI (dv w k).2, nI k, mz_sI (mz_sI N a2 f) 14 q) ∧ ∀ c, c < 240 → f c = nO 240 ((dv w k).1 c)) ?_ ?_ (Nat.zero_le 240) ⟨fun j => if j < 240 then -1 else N.1 a2 j, N.1 14, rfl, fun c hc => by
    show (if c < 240 then (-1 : Int32) else N.1 a2 c) = _
    rw [if_pos hc]; rfl⟩
  · rw [show mz_sI (mz_sI N a2 fun j => if j < 240 then -1 else N.1 a2 j) 14 (N.1 14) = mz_sI N a2 fun j => if j < 240 then -1 else N.1 a2 j from by
      rw [show N.1 14 = (mz_sI N a2 fun j => if j < 240 then -1 else N.1 a2 j).1 14 from (sI_n (fun z => h2 z.symm)).symm, sI_same]] at hh
    exact ⟨⟨p0, hh.1⟩, hh.2⟩
  · rintro k s1 hk ⟨f, q, rfl, hf⟩
    have hdv := dv_ok w k (by omega)
    have e : dv w (k + 1) = dv_1 w k (dv w k) := rfl
    have hg : mz_gI (mz_sI (mz_sI N a2 f) 14 q) a2 (nI k) = nO 240 ((dv w k).1 k) := by
      rw [gI_a, sI_n h2, sI_e, nI_clamp (by omega), hf k hk]
    have hle : (dv w k).1 k ≤ 240 := by have := hdv.1; rcases hdv.2.1 k with z | ⟨-, z⟩ <;> omega
    rw [e]
    unfold dv_1
    by_cases h0 : (dv w k).1 k = 240
    · obtain ⟨p1, f2, q2, p2, p3⟩ := c_fl h12 h1 h2 hw hk hdv.1 h0 hdv.2.1 ⟨f, q, rfl, hf⟩
      rw [if_pos h0]
      simp (disch := omega) only [cd_78_10, cq_78_10, cf_78_38, cp_78_38, nI_ltI, (show (240 : Int32) = nI 240 from rfl), hk, hg, h0, nO_m1, p1, p2, ib_i, nI_1, Nat.lt_irrefl, not_false_eq_true, not_true_eq_false, if_true, if_false, true_implies, false_implies, implies_true, and_true, true_and]
      exact Or.inl ⟨_, rfl, f2, q2, rfl, p3⟩
    · rw [if_neg h0]
      simp (disch := omega) only [cd_78_10, cq_78_10, cf_78_38, cp_78_38, nI_ltI, (show (240 : Int32) = nI 240 from rfl), hk, hg, nO_lt (show (dv w k).1 k < 240 by omega), nI_m1, ib_i, nI_1, Nat.lt_irrefl, not_false_eq_true, not_true_eq_false, if_true, if_false, true_implies, false_implies, implies_true, and_true, true_and]
      exact Or.inl ⟨_, rfl, f, q, rfl, hf⟩
  · rintro s1 ⟨f, q, rfl, hf⟩
    simp (disch := omega) only [cd_78_10, cq_78_10, nI_ltI, (show (240 : Int32) = nI 240 from rfl), Nat.lt_irrefl, not_false_eq_true, not_true_eq_false, if_true, if_false, true_implies, false_implies, implies_true, and_true, true_and]
    exact ⟨_, rfl, f, q, rfl, hf⟩
end Fld
theorem mz_ext {M N : mz_N} (h1 : ∀ c, M.1 c = N.1 c) (h2 : ∀ c, M.2 c = N.2 c) : M = N := Prod.ext (funext h1) (funext h2)
/-- the least below n with p, or n -/
def lst (p : Nat → Bool) : Nat → Nat
  | 0 => 0
  | n + 1 => if lst p n < n then lst p n else if p n then n else n + 1
theorem lst_of {p : Nat → Bool} {k : Nat} : ∀ {n : Nat}, k < n → p k = true → (∀ i, i < k → p i = false) → lst p n = k := by
  intro n
  induction n with
  | zero => intro h; omega
  | succ n ih =>
    intro hk hp h
    rw [lst]
    by_cases e : k = n
    · subst e
      have key : ∀ m, m ≤ k → lst p m = m := by
        intro m
        induction m with
        | zero => intro _; rfl
        | succ m ih2 => intro hm; rw [lst, ih2 (by omega), if_neg (Nat.lt_irrefl _), h m (by omega)]; rfl
      rw [key k (Nat.le_refl _), if_neg (Nat.lt_irrefl _), hp]; rfl
    · rw [ih (by omega) hp h, if_pos (by omega)]
section Rfl
variable {w : Nat → Bool} {N : mz_N} {p : Nat}
/-- the reference's labels and queue -/
def fl_R (N : mz_N) (s : Nat) (x : fl_X) (M : mz_N) : Prop := ∃ f q, M = mz_sI (mz_sI N 235 f) 238 q ∧ (∀ c, c < 240 → f c = nO 240 (x.1 c)) ∧ ∀ j, j < x.2.2 → q j = nI (48 * s + x.2.1 j)
theorem r_fl1 {s n i d : Nat} {lab : Nat → Nat} {x : fl_X} {M : mz_N} (hp : p < 8) (hw : ∀ k, k < 550 → (N.1 233 (550 * p + k) = 0 ↔ w k = true)) (hs : s < 5) (hn : n < 240) (hlab : ∀ c, lab c ≤ 240) (hI : fl_I s n lab x) (hi : i < x.2.2) (hd : d < 4) (hM : fl_R N s x M) :
    cd_429_48 (nI p) (nI n) (nI s) (nI i) (nI (x.2.1 i)) (nI x.2.2, nI d, M) ∧ ∃ M2, cq_429_48 (nI p) (nI n) (nI s) (nI i) (nI (x.2.1 i)) (nI x.2.2, nI d, M) = .inl (nI (fl_1 w s n i d x).2.2, nI (d + 1), M2) ∧ fl_R N s (fl_1 w s n i d x) M2 := by
  obtain ⟨f, q, rfl, hf, hq⟩ := hM
  obtain ⟨b1, b2, b3, b4, b5⟩ := hI
  have hc := (b3 i hi).1
  have hx48 : x.2.2 ≤ 48 := by omega
  obtain ⟨-, -, e80, e81, l81, l80⟩ := ge_c (x.2.1 i) hc d hd
  unfold fl_1
  generalize hb : ge_nb (x.2.1 i) d = b at *
  generalize hed : ge_ed (x.2.1 i) d = ed at *
  by_cases hb48 : b < 48
  · have hlabv : mz_gI (mz_sI (mz_sI N 235 f) 238 q) 235 (nI (48 * s + b)) = nO 240 (x.1 (48 * s + b)) := by
      rw [gI_a, sI_n (by decide), sI_e, nI_clamp (by omega), hf _ (by omega)]
    have hwv : mz_gI (mz_sI (mz_sI N 235 f) 238 q) 233 (nI (550 * p + 110 * s + ed)) = 0 ↔ w (110 * s + ed) = true := by
      rw [gI_a, sI_n (by decide), sI_n (by decide), nI_clamp (by omega), show 550 * p + 110 * s + ed = 550 * p + (110 * s + ed) by omega, hw _ (by omega)]
    have hle : x.1 (48 * s + b) ≤ 240 := by
      have := hlab (48 * s + b)
      rcases b4 (48 * s + b) with z | z <;> omega
    by_cases hww : w (110 * s + ed) = true
    · by_cases hl : x.1 (48 * s + b) = 240
      · have hcp : 0 < cnt (fun c => decide (x.1 (48 * s + c) = 240)) 48 := cnt_pos hb48 (by simpa using hl)
        have hlt : x.2.2 < 48 := by omega
        rw [if_pos ⟨hb48, hl, hww⟩]
        simp (disch := omega) only [cd_429_48, cq_429_48, cf_429_143, cp_429_143, e80, e81, nO_lt hb48, nI_ltI, nI_lt0, (show (4 : Int32) = nI 4 from rfl), (show (48 : Int32) = nI 48 from rfl), (show (110 : Int32) = nI 110 from rfl), (show (550 : Int32) = nI 550 from rfl), pk_mul, nI_add, hlabv, hwv, hl, hww, nO_neg, hd, ib_i, nI_1, nI_clamp, wI_s, Nat.lt_irrefl, not_false_eq_true, not_true_eq_false, if_true, if_false, true_implies, false_implies, implies_true, and_true, true_and]
        refine ⟨⟨by omega, by omega, by omega, by omega⟩, _, rfl, ?_⟩
        refine ⟨_, _, sI_4 (by decide), ?_, ?_⟩
        · intro c hc
          rw [up_a, sI_n (by decide), sI_e]
          show _ = nO 240 (up x.1 (48 * s + b) n c)
          rw [up_d]
          by_cases e : c = 48 * s + b
          · rw [if_pos e, if_pos e, nO_lt hn]
          · rw [if_neg e, if_neg e]; exact hf c hc
        · intro j hj
          have hj : j < x.2.2 + 1 := hj
          rw [up_a, sI_n (by decide), sI_e]
          show _ = nI (48 * s + up x.2.1 x.2.2 b j)
          rw [up_d]
          by_cases e : j = x.2.2
          · rw [if_pos e, if_pos e]
          · rw [if_neg e, if_neg e]; exact hq j (by omega)
      · rw [if_neg (fun z => hl z.2.1)]
        simp (disch := omega) only [cd_429_48, cq_429_48, cf_429_143, cp_429_143, e80, e81, nO_lt hb48, nI_ltI, nI_lt0, (show (4 : Int32) = nI 4 from rfl), (show (48 : Int32) = nI 48 from rfl), (show (110 : Int32) = nI 110 from rfl), (show (550 : Int32) = nI 550 from rfl), pk_mul, nI_add, hlabv, hwv, nO_lt (show x.1 (48 * s + b) < 240 by omega), hww, hd, ib_i, nI_1, nI_clamp, not_false_eq_true, not_true_eq_false, if_true, if_false, true_implies, false_implies, implies_true, and_true, true_and]
        exact ⟨⟨by omega, by omega⟩, _, rfl, _, _, rfl, hf, hq⟩
    · rw [if_neg (fun z => hww z.2.2)]
      simp (disch := omega) only [cd_429_48, cq_429_48, cf_429_143, cp_429_143, e80, e81, nO_lt hb48, nI_ltI, nI_lt0, (show (4 : Int32) = nI 4 from rfl), (show (48 : Int32) = nI 48 from rfl), (show (110 : Int32) = nI 110 from rfl), (show (550 : Int32) = nI 550 from rfl), pk_mul, nI_add, hwv, hww, hd, ib_i, nI_1, nI_clamp, not_false_eq_true, not_true_eq_false, if_true, if_false, true_implies, false_implies, implies_true, and_true, true_and]
      exact ⟨by omega, _, rfl, _, _, rfl, hf, hq⟩
  · rw [if_neg (fun z => hb48 z.1)]
    simp (disch := omega) only [cd_429_48, cq_429_48, cf_429_143, cp_429_143, e80, nO_neg, hb48, nI_ltI, (show (4 : Int32) = nI 4 from rfl), hd, ib_i, nI_1, not_false_eq_true, not_true_eq_false, if_true, if_false, true_implies, false_implies, implies_true, and_true, true_and]
    exact ⟨_, rfl, _, _, rfl, hf, hq⟩
theorem r_fl4 {s n i : Nat} {lab : Nat → Nat} {x : fl_X} {M : mz_N} (hp : p < 8) (hw : ∀ k, k < 550 → (N.1 233 (550 * p + k) = 0 ↔ w k = true)) (hs : s < 5) (hn : n < 240) (hlab : ∀ c, lab c ≤ 240) (hI : fl_I s n lab x) (hc : fl_C w s i x) (hi : i < x.2.2) (hM : fl_R N s x M) :
    cp_429_48 (nI p) (nI n) (nI s) (nI x.2.2) (nI i) (nI (x.2.1 i)) 0 M ∧ ∃ M2, cf_429_48 (nI p) (nI n) (nI s) (nI x.2.2) (nI i) (nI (x.2.1 i)) 0 M = .inl (nI (fl_4 w s n i x).2.2, nI (i + 1), M2) ∧ fl_R N s (fl_4 w s n i x) M2 := by
  refine mz_lpn (f := cq_429_48 (nI p) (nI n) (nI s) (nI i) (nI (x.2.1 i))) (P := cd_429_48 (nI p) (nI n) (nI s) (nI i) (nI (x.2.1 i))) (Q := fun t => ∃ M2, t = .inl (nI (fl_4 w s n i x).2.2, nI (i + 1), M2) ∧ fl_R N s (fl_4 w s n i x) M2) 4 (fun d s1 => ∃ M, s1 = (nI (it (fl_1 w s n i) d x).2.2, nI d, M) ∧ fl_R N s (it (fl_1 w s n i) d x) M) ?_ ?_ (Nat.zero_le 4) ⟨M, rfl, hM⟩
  · rintro d s1 hd ⟨M1, rfl, hM1⟩
    obtain ⟨g1, g2, g3, g4, g5⟩ := fl_4_I hs hn hI hi hc d (by omega)
    obtain ⟨p1, M2, p2, p3⟩ := r_fl1 (i := i) hp hw hs hn hlab g1 (by omega) hd hM1
    rw [g3 i hi] at p1 p2
    exact ⟨p1, Or.inl ⟨_, p2, M2, rfl, p3⟩⟩
  · rintro s1 ⟨M1, rfl, hM1⟩
    simp (disch := omega) only [cd_429_48, cq_429_48, nI_ltI, (show (4 : Int32) = nI 4 from rfl), Nat.lt_irrefl, nI_1, not_false_eq_true, not_true_eq_false, if_true, if_false, true_implies, false_implies, implies_true, and_true, true_and]
    exact ⟨_, rfl, M1, rfl, hM1⟩
theorem r_flr {s n : Nat} {lab : Nat → Nat} {x : fl_X} {M : mz_N} (hp : p < 8) (hw : ∀ k, k < 550 → (N.1 233 (550 * p + k) = 0 ↔ w k = true)) (hs : s < 5) (hn : n < 240) (hlab : ∀ c, lab c ≤ 240) (hI : fl_I s n lab x) (hM : fl_R N s x M) :
    cp_429_26 (nI p) (nI n) (nI s) (nI x.2.2) 0 M ∧ ∃ M2, cf_429_26 (nI p) (nI n) (nI s) (nI x.2.2) 0 M = (nI (fl_r w s n 48 x).2.2, M2) ∧ fl_R N s (fl_r w s n 48 x) M2 := by
  refine mz_lpn (f := cq_429_26 (nI p) (nI n) (nI s)) (P := cd_429_26 (nI p) (nI n) (nI s)) (Q := fun t => ∃ M2, t = (nI (fl_r w s n 48 x).2.2, M2) ∧ fl_R N s (fl_r w s n 48 x) M2) 48 (fun i s1 => ∃ M, s1 = (nI (fl_r w s n i x).2.2, nI i, M) ∧ fl_R N s (fl_r w s n i x) M) ?_ ?_ (Nat.zero_le 48) ⟨M, rfl, hM⟩
  · rintro i s1 hi ⟨M1, rfl, hM1⟩
    obtain ⟨g1, g2⟩ := fl_r_I (w := w) hs hn hI i
    have hle := g1.2.1
    by_cases hlt : i < (fl_r w s n i x).2.2
    · obtain ⟨p1, M2, p2, p3⟩ := r_fl4 hp hw hs hn hlab g1 g2 hlt hM1
      have e : fl_r w s n (i + 1) x = fl_4 w s n i (fl_r w s n i x) := by
        show it _ (i + 1) x = _
        rw [it]
        exact if_pos hlt
      have hg : mz_irem (mz_gI M1 238 (nI i)) 48 = nI ((fl_r w s n i x).2.1 i) := by
        obtain ⟨f, q, rfl, hf, hq⟩ := hM1
        have := (g1.2.2.1 i hlt).1
        rw [gI_a, sI_e, nI_clamp (by omega), hq i hlt, show (48 : Int32) = nI 48 from rfl, irem_n (by omega) (by omega) (by omega)]
        congr 1
        omega
      simp (disch := omega) only [cd_429_26, cq_429_26, nI_ltI, hlt, hg, p1, p2, ib_i, not_false_eq_true, not_true_eq_false, if_true, if_false, true_implies, false_implies, implies_true, and_true, true_and]
      exact ⟨by omega, Or.inl ⟨_, rfl, M2, by rw [e], by rw [e]; exact p3⟩⟩
    · have e := fl_stop (w := w) (s := s) (n := n) (k := i) (x := x) (by omega) (48 - i)
      rw [show i + (48 - i) = 48 by omega] at e
      simp (disch := omega) only [cd_429_26, cq_429_26, nI_ltI, hlt, not_false_eq_true, not_true_eq_false, if_true, if_false, true_implies, false_implies, implies_true, and_true, true_and]
      exact Or.inr ⟨_, rfl, M1, by rw [e], by rw [e]; exact hM1⟩
  · rintro s1 ⟨M1, rfl, hM1⟩
    have hle := (fl_r_I (w := w) hs hn hI 48).1.2.1
    simp (disch := omega) only [cd_429_26, cq_429_26, nI_ltI, show ¬ 48 < (fl_r w s n 48 x).2.2 by omega, not_false_eq_true, not_true_eq_false, if_true, if_false, true_implies, false_implies, implies_true, and_true, true_and]
    exact ⟨_, rfl, M1, rfl, hM1⟩
theorem r_fl {a n : Nat} {lab : Nat → Nat} {M : mz_N} (hp : p < 8) (hw : ∀ k, k < 550 → (N.1 233 (550 * p + k) = 0 ↔ w k = true)) (ha : a < 240) (hna : n ≤ a) (h0 : lab a = 240) (hl : ∀ c, lab c = 240 ∨ (c < 240 ∧ lab c < n))
    (hM : ∃ f q, M = mz_sI (mz_sI N 235 f) 238 q ∧ ∀ c, c < 240 → f c = nO 240 (lab c)) :
    cp_429_0 (nI p) (nI a) (nI n) M ∧ ∃ f q, cf_429_0 (nI p) (nI a) (nI n) M = (nI (fl w a n lab).2.2, mz_sI (mz_sI N 235 f) 238 q) ∧ ∀ c, c < 240 → f c = nO 240 ((fl w a n lab).1 c) := by
  obtain ⟨f, q, rfl, hf⟩ := hM
  have hI := fl_0_I ha h0 (by omega : n < 240) (fun c _ q => by rcases hl c with z | ⟨-, z⟩ <;> omega)
  have hM0 : fl_R N (a / 48) (fl_0 a n lab) (mz_wI (mz_wI (mz_sI (mz_sI N 235 f) 238 q) 238 0 (nI a)) 235 (nI a) (nI n)) := by
    rw [wI_s, wI_s]
    refine ⟨_, _, (sI_comm (by decide)).trans (sI_4 (by decide)), ?_, ?_⟩
    · intro c hc
      rw [up_a, sI_n (by decide), sI_n (by decide), sI_e, nI_clamp (by omega)]
      show _ = nO 240 (up lab a n c)
      rw [up_d]
      by_cases e : c = a
      · rw [if_pos e, if_pos e, nO_lt (by omega)]
      · rw [if_neg e, if_neg e]; exact hf c hc
    · intro j hj
      have : j = 0 := by have : j < 1 := hj; omega
      subst this
      rw [up_a, if_pos (by decide)]
      show _ = nI (48 * (a / 48) + up (fun _ => 0) 0 (a % 48) 0)
      rw [up_e]
      congr 1; omega
  obtain ⟨p1, M2, p4, f2, q2, p2, p3, -⟩ := r_flr hp hw (by omega) (by omega) (fun c => by rcases hl c with z | ⟨-, z⟩ <;> omega) hI hM0
  have e : nI a / 48 = nI (a / 48) := by rw [show (48 : Int32) = nI 48 from rfl, pk_div (by omega) (by omega) (by omega)]
  rw [cp_429_0, cf_429_0, e]
  unfold fl
  exact ⟨⟨ib_n ha (by omega), p1⟩, f2, q2, by rw [← p2]; exact p4, p3⟩
end Rfl
