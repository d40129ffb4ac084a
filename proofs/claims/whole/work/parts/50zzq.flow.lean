/-! PURE (50zzq): heat flows between spaces. -/
noncomputable def flq (e : Nat → Nat) (W : Nat → Int64) (x y : Nat) : Int64 := ((W x - W y) * lN (pl_W e x y)) / 10
noncomputable def flg (e : Nat → Nat) (W : Nat → Int64) (k x y : Nat) : Int64 := (if y = k then flq e W x y else 0) - (if x = k then flq e W x y else 0)
noncomputable def lss (e : Nat → Nat) (W : Nat → Int64) (ou : Int64) (k : Nat) : Int64 := ((W k - ou) * lN (pl_ls e k)) / 10
noncomputable def prr (e : Nat → Nat) (W : Nat → Int64) (k : Nat) : Int64 := sL (fun x => sL (fun y => if x < y then flg e W k x y else 0) (pl_n e)) (pl_n e)
def sn0 (e : Nat → Nat) (S : Nat → Nat) (k : Nat) : Nat := sumN (fun d => pl_gs e d k * S d) 4
def hrt (e fl : Nat → Nat) (A : Nat → Nat) (k : Nat) : Nat := sumN (fun j => if pl_ht e fl j = k then A j else 0) 10
/-- what a space has behind flows, sun and hearts -/
noncomputable def het (e fl : Nat → Nat) (T W : Nat → Int64) (ou : Int64) (S A : Nat → Nat) (k : Nat) : Int64 := T k + prr e W k - lss e W ou k + lN (sn0 e S k) + lN (hrt e fl A k)
theorem two_up {f : Nat → Int64} {x y : Nat} {q : Int64} (h : x ≠ y) (k : Nat) : vp_updL (vp_updL f x (f x - q)) y (vp_updL f x (f x - q) y + q) k = f k + ((if y = k then q else 0) - (if x = k then q else 0)) := by
  rw [upL_a, upL_a, upL_a]
  by_cases w : k = y
  · have w2 : ¬ k = x := fun z => h (z.symm.trans w)
    rw [if_pos w, if_neg (fun z => h z.symm), if_pos w.symm, if_neg (fun z => w2 z.symm), Int64.sub_zero, w]
  · rw [if_neg w, if_neg (show ¬ y = k from fun z => w z.symm)]
    by_cases w2 : k = x
    · rw [if_pos w2, if_pos w2.symm, w2, Int64.zero_sub, Int64.sub_eq_add_neg]
    · rw [if_neg w2, if_neg (fun z => w2 z.symm), Int64.sub_zero, Int64.add_zero]
theorem cnt_cg {p q : Nat → Bool} : ∀ {n : Nat}, (∀ i, i < n → p i = q i) → cnt p n = cnt q n := by
  intro n
  induction n with
  | zero => intro _; rfl
  | succ n ih => intro h; rw [cnt, cnt, ih (fun i hi => h i (by omega)), h n (by omega)]
theorem flq_0 {e : Nat → Nat} {W : Nat → Int64} {x y : Nat} (h : pl_W e x y = 0) : flq e W x y = 0 := by
  rw [flq, h, show lN 0 = (0 : Int64) from rfl, Int64.mul_zero]; rfl
theorem flg_0 {e : Nat → Nat} {W : Nat → Int64} {k x y : Nat} (h : pl_W e x y = 0) : flg e W k x y = 0 := by
  rw [flg, flq_0 h, ite_self, ite_self]; rfl
theorem pl_gs_le {e : Nat → Nat} {d k : Nat} : pl_gs e d k ≤ 550 := cnt_le _ 550
theorem cnt_le2 {p : Nat → Bool} (n : Nat) : cnt p n ≤ n := cnt_le p n
theorem pl_ls_le {e : Nat → Nat} {k : Nat} : pl_ls e k < 10000 := by
  have h1 := cnt_le2 (p := pl_hvp e k) 550
  have h2 := cnt_le2 (p := pl_glp e k) 550
  have h3 := cnt_le2 (p := pl_tpp e k) 240
  unfold pl_ls pl_hv pl_gl
  generalize cnt (pl_hvp e k) 550 = a at h1 ⊢
  generalize cnt (pl_glp e k) 550 = b at h2 ⊢
  generalize cnt (pl_tpp e k) 240 = c at h3 ⊢
  omega
section Flw
variable {N : mz_N} {e fl : Nat → Nat} {S : Nat → Nat} {hr : Nat}
/-- the sun's loop in the class -/
theorem sun_c {k : Nat} {f : Nat → Int64} (hn : pl_n e ≤ 40) (hk : k < pl_n e) (hhr : hr < 24) (h23 : ∀ d, d < 4 → N.1 (23 + d) k = nI (pl_gs e d k)) (h67 : ∀ d, d < 4 → N.1 67 (24 * d + hr) / 10 = nI (S d)) (hS : ∀ d, S d ≤ 30) :
    cp_234_153 (nI hr) (nI k) (mz_sL N 74 f) ∧ cf_234_153 (nI hr) (nI k) (mz_sL N 74 f) = .inl (nI (k + 1), mz_sL N 74 (vp_updL f k (f k + lN (sn0 e S k)))) := by
  have i1 : mz_ib (nI k) 40 := ib_n (by omega) (by omega)
  have h := mz_lps (f := cq_234_156 (nI hr) (nI k)) (P := cd_234_156 (nI hr) (nI k)) (t := .inl (nI (k + 1), mz_sL N 74 (vp_updL f k (f k + lN (sn0 e S k))))) 4 (fun d => (nI d, mz_sL N 74 (vp_updL f k (f k + lN (sumN (fun d => pl_gs e d k * S d) d))))) (fun d hd => ?_) ?_ (Nat.zero_le _)
  · rw [cp_234_153, cf_234_153, cp_234_156, cf_234_156]
    have e0 : mz_sL N 74 (vp_updL f k (f k + lN (sumN (fun d => pl_gs e d k * S d) 0))) = mz_sL N 74 f := by
      refine congrArg (mz_sL N 74) (funext fun j => ?_)
      rw [upL_a, show lN (sumN (fun d => pl_gs e d k * S d) 0) = (0 : Int64) from rfl, Int64.add_zero]
      by_cases w : j = k
      · rw [if_pos w, w]
      · rw [if_neg w]
    rw [e0] at h
    exact h
  · have l : nI d < 4 := (nI_ltI (b := 4) (by omega) (by omega)).mpr hd
    have e6 : (6 : Int32) + nI d = nI (6 + d) := by rw [show (6 : Int32) = nI 6 from rfl, nI_add]
    have e24 : nI d * 24 + nI hr = nI (24 * d + hr) := by rw [show (24 : Int32) = nI 24 from rfl, pk_mul, nI_add, Nat.mul_comm]
    have gs := pl_gs_le (e := e) (d := d) (k := k)
    have gd := h23 d hd
    have sd := h67 d hd
    have sS := hS d
    generalize hgg : pl_gs e d k = gg at gs gd
    have hm : gg * S d < 2 ^ 31 := Nat.lt_of_le_of_lt (Nat.mul_le_mul gs sS) (by omega)
    rw [cd_234_156, cq_234_156]
    simp only [l, if_true, e6, e24, nI_clamp (show 6 + d < 2 ^ 31 by omega), gI_a, sL_1, nI_clamp (show k < 2 ^ 31 by omega), nI_clamp (show 24 * d + hr < 2 ^ 31 by omega), show 17 + (6 + d) = 23 + d by omega, gd, sd, pk_mul, nI_L hm]
    refine ⟨⟨fun _ => ⟨i1, ib_n (by omega) (by omega), i1, ib_n (by omega) (by omega), i1, trivial⟩, fun _ => trivial⟩, ?_⟩
    rw [cf_234_200, nI_1]
    refine inlp ?_
    rw [wL_s, sL_e, sL_sL, gL_a, sL_e, nI_clamp (by omega)]
    refine congrArg (mz_sL N 74) (funext fun j => ?_)
    rw [upL_a, upL_a, upL_a, upL_a, if_pos rfl]
    by_cases w : j = k
    · rw [if_pos w, if_pos w, Int64.add_assoc, lN_add]
      rw [show sumN (fun d => pl_gs e d k * S d) (d + 1) = sumN (fun d => pl_gs e d k * S d) d + gg * S d from by rw [sumN, hgg]]
    · rw [if_neg w, if_neg w, if_neg w]
  · have l : ¬ nI 4 < 4 := by decide
    rw [cd_234_156, cq_234_156]
    simp only [l, if_false, nI_1]
    exact ⟨⟨False.elim, fun _ => trivial⟩, rfl⟩
/-- losses and sun in the class -/
theorem los_c {W f0 : Nat → Int64} {ou : Int64} (hn : pl_n e ≤ 40) (h7 : N.1 2 7 = nI (pl_n e)) (hhr : hr < 24) (h23 : ∀ k, k < pl_n e → (∀ d, d < 4 → N.1 (23 + d) k = nI (pl_gs e d k)) ∧ N.1 27 k = nI (pl_ls e k)) (h67 : ∀ d, d < 4 → N.1 67 (24 * d + hr) / 10 = nI (S d)) (hS : ∀ d, S d ≤ 30) (h66 : (N.1 66 hr).toInt64 = ou) (h75 : ∀ k, k < pl_n e → N.2 75 k = W k) :
    cp_234_107 (nI hr) 0 (mz_sL N 74 f0) ∧ ∃ f, cf_234_107 (nI hr) 0 (mz_sL N 74 f0) = mz_sL N 74 f ∧ ∀ k, k < pl_n e → f k = f0 k - lss e W ou k + lN (sn0 e S k) := by
  rw [cp_234_107, cf_234_107]
  refine mz_lpn (f := cq_234_107 (nI hr)) (P := cd_234_107 (nI hr)) (Q := fun t => ∃ f, t = mz_sL N 74 f ∧ ∀ k, k < pl_n e → f k = f0 k - lss e W ou k + lN (sn0 e S k)) (pl_n e) (fun k s => ∃ f, s = (nI k, mz_sL N 74 f) ∧ ∀ j, f j = if j < k then f0 j - lss e W ou j + lN (sn0 e S j) else f0 j) ?_ ?_ (Nat.zero_le _) ⟨f0, rfl, fun j => by rw [if_neg (Nat.not_lt_zero _)]⟩
  · rintro k s hk ⟨f, rfl, hf⟩
    have l : nI k < nI (pl_n e) := (nI_ltI (by omega) (by omega)).mpr hk
    have i1 : mz_ib (nI k) 40 := ib_n (by omega) (by omega)
    obtain ⟨k1, k2⟩ := h23 k hk
    have hls := pl_ls_le (e := e) (k := k)
    have g75 : mz_gL (mz_sL N 74 f) 75 (nI k) = W k := by rw [gL_a, sL_n (by decide), nI_clamp (by omega)]; exact h75 k hk
    have g74 : mz_gL (mz_sL N 74 f) 74 (nI k) = f k := by rw [gL_a, sL_e, nI_clamp (by omega)]
    have g66 : (mz_gI (mz_sL N 74 f) 66 (nI hr)).toInt64 = ou := by rw [gI_a, sL_1, nI_clamp (by omega)]; exact h66
    have g27 : mz_gI (mz_sL N 74 f) 27 (nI k) = nI (pl_ls e k) := by rw [gI_a, sL_1, nI_clamp (by omega)]; exact k2
    obtain ⟨s1, s2⟩ := sun_c (N := N) (f := vp_updL f k (f k - lss e W ou k)) hn hk hhr k1 h67 hS
    have ew : mz_wL (mz_sL N 74 f) 74 (nI k) (f k - lss e W ou k) = mz_sL N 74 (vp_updL f k (f k - lss e W ou k)) := by rw [wL_s, sL_e, sL_sL, nI_clamp (by omega)]
    rw [cd_234_107, cq_234_107]
    simp only [sL_1, h7, l, if_true, g75, g74, g66, g27, nI_L (show pl_ls e k < 2 ^ 31 by omega)]
    have el : ((W k - ou) * lN (pl_ls e k)) / 10 = lss e W ou k := rfl
    simp only [el, ew]
    refine ⟨⟨fun _ => ⟨i1, i1, ib_n hhr (by omega), i1, i1, s1⟩, fun _ => trivial⟩, Or.inl ⟨_, s2, _, rfl, fun j => ?_⟩⟩
    rw [upL_a]
    by_cases w : j = k
    · rw [if_pos w, if_pos (by omega), upL_a, if_pos rfl, hf k, if_neg (Nat.lt_irrefl _), w]
    · rw [if_neg w, upL_a, if_neg w, hf j]
      by_cases v : j < k
      · rw [if_pos v, if_pos (by omega)]
      · rw [if_neg v, if_neg (by omega)]
  · rintro s ⟨f, rfl, hf⟩
    have l : ¬ nI (pl_n e) < nI (pl_n e) := fun q => by have := (nI_ltI (by omega) (by omega)).mp q; omega
    rw [cd_234_107, cq_234_107]
    simp only [sL_1, h7, l, if_false]
    exact ⟨⟨False.elim, fun _ => trivial⟩, _, rfl, f, rfl, fun k hk => by rw [hf k, if_pos hk]⟩
theorem sm_pl (h : c_pl e fl N) : c_sm e N := ⟨fun k hk => ⟨(h.2.1.2.1 k hk).2.2.1, (h.2.1.2.1 k hk).2.2.2.2⟩, h.2.1.2.2⟩
/-- the flow of the class -/
theorem prs2_c {W f0 : Nat → Int64} {ou : Int64} (hn : pl_n e ≤ 40) (hp : c_pl e fl N) (hhr : hr < 24) (h67 : ∀ d, d < 4 → N.1 67 (24 * d + hr) / 10 = nI (S d)) (hS : ∀ d, S d ≤ 30) (h66 : (N.1 66 hr).toInt64 = ou) (h75 : ∀ k, k < pl_n e → N.2 75 k = W k) :
    cp_234_16 (nI hr) 0 (mz_sL N 74 f0) ∧ ∃ f, cf_234_16 (nI hr) 0 (mz_sL N 74 f0) = mz_sL N 74 f ∧ ∀ k, k < pl_n e → f k = f0 k + prr e W k - lss e W ou k + lN (sn0 e S k) := by
  obtain ⟨p1, p2, p3, p4, ⟨m, pa, pb, m1, m2, m3, m4⟩, p6⟩ := hp
  rw [cp_234_16, cf_234_16]
  refine mz_lpn (f := cq_234_16 (nI hr)) (P := cd_234_16 (nI hr)) (Q := fun t => ∃ f, t = mz_sL N 74 f ∧ ∀ k, k < pl_n e → f k = f0 k + prr e W k - lss e W ou k + lN (sn0 e S k)) m (fun i s => ∃ f, s = (nI i, mz_sL N 74 f) ∧ ∀ k, f k = f0 k + sL (fun i => flg e W k (pa i) (pb i)) i) ?_ ?_ (Nat.zero_le _) ⟨f0, rfl, fun k => (Int64.add_zero _).symm⟩
  · rintro i s hi ⟨f, rfl, hf⟩
    obtain ⟨q1, q2, q3, q4, q5⟩ := m3 i hi
    have hW := pl_W_lt e (pa i) (pb i)
    have l : nI i < nI m := (nI_ltI (by omega) (by omega)).mpr hi
    have i0 : mz_ib (nI i) 780 := ib_n (by omega) (by omega)
    have ia : mz_ib (nI (pa i)) 40 := ib_n (by omega) (by omega)
    have ib : mz_ib (nI (pb i)) 40 := ib_n (by omega) (by omega)
    have g33 : mz_gI (mz_sL N 74 f) 33 (nI i) = nI (pa i) := by rw [gI_a, sL_1, nI_clamp (by omega)]; exact q1
    have g34 : mz_gI (mz_sL N 74 f) 34 (nI i) = nI (pb i) := by rw [gI_a, sL_1, nI_clamp (by omega)]; exact q2
    have g35 : mz_gI (mz_sL N 74 f) 35 (nI i) = nI (pl_W e (pa i) (pb i)) := by rw [gI_a, sL_1, nI_clamp (by omega)]; exact q3
    have ga : mz_gL (mz_sL N 74 f) 75 (nI (pa i)) = W (pa i) := by rw [gL_a, sL_n (by decide), nI_clamp (by omega)]; exact h75 _ (by omega)
    have gb : mz_gL (mz_sL N 74 f) 75 (nI (pb i)) = W (pb i) := by rw [gL_a, sL_n (by decide), nI_clamp (by omega)]; exact h75 _ q5
    have gt : mz_gL (mz_sL N 74 f) 74 (nI (pa i)) = f (pa i) := by rw [gL_a, sL_e, nI_clamp (by omega)]
    have eq : ((W (pa i) - W (pb i)) * lN (pl_W e (pa i) (pb i))) / 10 = flq e W (pa i) (pb i) := rfl
    have w1 : mz_wL (mz_sL N 74 f) 74 (nI (pa i)) (f (pa i) - flq e W (pa i) (pb i)) = mz_sL N 74 (vp_updL f (pa i) (f (pa i) - flq e W (pa i) (pb i))) := by rw [wL_s, sL_e, sL_sL, nI_clamp (by omega)]
    rw [cd_234_16, cq_234_16]
    simp only [sL_1, m2, l, if_true, g33, g34, g35, ga, gb, gt, nI_L (show pl_W e (pa i) (pb i) < 2 ^ 31 by omega), eq, w1]
    refine ⟨⟨fun _ => ⟨i0, i0, ia, ib, i0, ia, ia, ib, ib, trivial⟩, fun z => absurd trivial z⟩, Or.inl ⟨_, rfl, fun k => f k + flg e W k (pa i) (pb i), ?_, fun k => ?_⟩⟩
    · rw [nI_1]
      refine Prod.ext rfl ?_
      show mz_wL _ _ _ _ = _
      rw [wL_s, sL_e, sL_sL, gL_a, sL_e, nI_clamp (by omega)]
      exact congrArg (mz_sL N 74) (funext fun k => two_up (show pa i ≠ pb i by omega) k)
    · show f k + flg e W k (pa i) (pb i) = _
      rw [hf k, sL, Int64.add_assoc]
  · rintro s ⟨f, rfl, hf⟩
    have l : ¬ nI m < nI m := fun q => by have := (nI_ltI (by omega) (by omega)).mp q; omega
    obtain ⟨c1, f', c2, c3⟩ := los_c (N := N) (W := W) (f0 := f) (ou := ou) (S := S) hn p1 hhr (fun k hk => ⟨(p3 k hk).2.2.1, (p3 k hk).2.2.2⟩) h67 hS h66 h75
    rw [cd_234_16, cq_234_16]
    simp only [sL_1, m2, l, if_false]
    refine ⟨⟨False.elim, fun _ => c1⟩, _, rfl, f', c2, fun k hk => ?_⟩
    rw [c3 k hk, hf k, m4 (fun x y => flg e W k x y) (fun x y h => flg_0 h)]
    rfl
theorem flow_c {T : Nat → Int64} {ou : Int64} (hn : pl_n e ≤ 40) (hp : c_pl e fl N) (hhr : hr < 24) (h67 : ∀ d, d < 4 → N.1 67 (24 * d + hr) / 10 = nI (S d)) (hS : ∀ d, S d ≤ 30) (h66 : (N.1 66 hr).toInt64 = ou) (hT : T = ts e (N.2 68)) :
    cp_234_0 (nI hr) N ∧ ∃ f w, cf_234_0 (nI hr) N = mz_sL (mz_sL N 75 w) 74 f ∧ (∀ k, k < pl_n e → w k = wmv e T k) ∧ ∀ k, k < pl_n e → f k = T k + prr e (wmv e T) k - lss e (wmv e T) ou k + lN (sn0 e S k) := by
  obtain ⟨a1, f0, a2, a3⟩ := gat_c (N := N) (a2 := 68) (by decide) hn hp.1 (sm_pl hp)
  obtain ⟨b1, w, b2, b3⟩ := wms_c (N := mz_sL N 74 f0) hn hp.1 (fun k hk => ((sm_pl hp).1 k hk).1)
  have hw : ∀ k, k < pl_n e → w k = wmv e T k := fun k hk => by
    rw [b3 k hk, sL_e, wmv, wmv, a3 k hk, hT]
  have ec : mz_sL (mz_sL N 74 f0) 75 w = mz_sL (mz_sL N 75 w) 74 f0 := by
    refine mz_ext (fun c => rfl) (fun c => ?_)
    rw [sL_2, sL_2, sL_2, sL_2]
    by_cases z : c = 75
    · rw [if_pos z, if_neg (by omega), if_pos z]
    · rw [if_neg z, if_neg z]
  obtain ⟨c1, f, c2, c3⟩ := prs2_c (N := mz_sL N 75 w) (W := wmv e T) (f0 := f0) (ou := ou) (S := S) hn hp hhr h67 hS h66 (fun k hk => by rw [sL_e]; exact hw k hk)
  rw [cp_234_0, cf_234_0, a2, b2, ec]
  refine ⟨⟨a1, b1, c1⟩, f, w, c2, hw, fun k hk => ?_⟩
  rw [c3 k hk, a3 k hk, hT]
/-- hearts -/
theorem hea_c {P L : Nat → Nat} (hn : pl_n e ≤ 40) (h38 : ∀ j, j < 10 → N.1 38 j = nO (pl_n e) (pl_ht e fl j)) (h40 : ∀ j, j < 240 → N.1 40 j = nI (P j)) (hP : ∀ j, P j ≤ 20) (h58 : ∀ j, j < 11 → N.1 58 j = nI (L j)) (hL : ∀ j, j < 11 → L j ≤ 2000) (hhr : hr < 24) :
    cp_237_0 (nI hr) N ∧ ∃ f, cf_237_0 (nI hr) N = mz_sL N 74 f ∧ ∀ k, k < pl_n e → f k = N.2 74 k + lN (hrt e fl (fun j => 8 * pnt e fl P hr j + 3 * L j) k) := by
  rw [cp_237_0, cf_237_0, cp_237_3, cf_237_3]
  refine mz_lpn (f := cq_237_3 (nI hr)) (P := cd_237_3 (nI hr)) (Q := fun t => ∃ f, t = mz_sL N 74 f ∧ ∀ k, k < pl_n e → f k = N.2 74 k + lN (hrt e fl (fun j => 8 * pnt e fl P hr j + 3 * L j) k)) 10 (fun i s => ∃ f, s = (nI i, mz_sL N 74 f) ∧ ∀ k, k < pl_n e → f k = N.2 74 k + lN (sumN (fun j => if pl_ht e fl j = k then 8 * pnt e fl P hr j + 3 * L j else 0) i)) ?_ ?_ (Nat.zero_le _) ⟨N.2 74, by rw [sL_same]; rfl, fun k _ => (Int64.add_zero _).symm⟩
  · rintro i s hi ⟨f, rfl, hf⟩
    have l : nI i < 10 := (nI_ltI (b := 10) (by omega) (by omega)).mpr hi
    have i0 : mz_ib (nI i) 10 := ib_n hi (by omega)
    have g38 : mz_gI (mz_sL N 74 f) 38 (nI i) = nO (pl_n e) (pl_ht e fl i) := by rw [gI_a, sL_1, nI_clamp (by omega)]; exact h38 i hi
    rw [cd_237_3, cq_237_3]
    simp only [l, if_true, g38]
    by_cases w : pl_ht e fl i < pl_n e
    · have eO : nO (pl_n e) (pl_ht e fl i) = nI (pl_ht e fl i) := if_pos w
      have nm : ¬ nI (pl_ht e fl i) = -1 := fun z => (nI_m1 (by omega)).mp z
      obtain ⟨r1, r2⟩ := prs_c (N := mz_sL N 74 f) (e := e) (fl := fl) (P := P) hn h38 h40 hhr hi
      have rb : pnt e fl P hr i ≤ 20 := by rw [pnt, if_pos w]; exact hP _
      have l11 : nI i < 11 := (nI_ltI (b := 11) (by omega) (by omega)).mpr (by omega)
      have l0 : ¬ nI i < 0 := nI_pos (by omega)
      have r3 : cf_238_0 (nI i) (mz_sL N 74 f) = nI (L i) := by
        rw [cf_238_0, if_neg l0, if_pos l11, gI_a, sL_1, nI_clamp (by omega)]; exact h58 i (by omega)
      have r4 : cp_238_0 (nI i) (mz_sL N 74 f) := ⟨fun z => absurd z l0, fun _ => ⟨fun _ => ib_n (by omega) (by omega), fun _ => trivial⟩⟩
      have lb := hL i (by omega)
      have i1 : mz_ib (nI (pl_ht e fl i)) 40 := ib_n (by omega) (by omega)
      have ev : ((8 : Int32) * nI (pnt e fl P hr i) + 3 * nI (L i)).toInt64 = lN (8 * pnt e fl P hr i + 3 * L i) := by
        rw [show (8 : Int32) = nI 8 from rfl, show (3 : Int32) = nI 3 from rfl, pk_mul, pk_mul, nI_add, nI_L (by omega)]
      simp only [eO, nm, if_false, r2, r3, ev]
      refine ⟨⟨fun _ => ⟨i0, False.elim, fun _ => ⟨i1, r1, r4, i1, trivial⟩⟩, fun _ => trivial⟩, Or.inl ⟨_, rfl, vp_updL f (pl_ht e fl i) (f (pl_ht e fl i) + lN (8 * pnt e fl P hr i + 3 * L i)), ?_, fun k hk => ?_⟩⟩
      · rw [nI_1]
        refine Prod.ext rfl ?_
        show mz_wL _ _ _ _ = _
        rw [wL_s, sL_e, sL_sL, gL_a, sL_e, nI_clamp (by omega)]
      · rw [upL_a, sumN]
        by_cases z : k = pl_ht e fl i
        · rw [if_pos z, if_pos z.symm, hf _ w, Int64.add_assoc, lN_add, z]
        · rw [if_neg z, if_neg (fun y => z y.symm), hf k hk, Nat.add_zero]
    · have eO : nO (pl_n e) (pl_ht e fl i) = -1 := if_neg w
      simp only [eO, if_true]
      refine ⟨⟨fun _ => ⟨i0, fun _ => trivial, fun z => absurd trivial z⟩, fun _ => trivial⟩, Or.inl ⟨_, rfl, f, ?_, fun k hk => ?_⟩⟩
      · rw [nI_1]
      · rw [sumN, if_neg (fun y => w (by omega)), Nat.add_zero]; exact hf k hk
  · rintro s ⟨f, rfl, hf⟩
    rw [cd_237_3, cq_237_3]
    refine ⟨⟨fun q => absurd q (show ¬ nI 10 < 10 by decide), fun _ => trivial⟩, mz_sL N 74 f, ?_, f, rfl, hf⟩
    rw [if_neg (show ¬ (nI 10 : Int32) < 10 by decide)]
end Flw
