/-! PURE (50zl): the reference's stack and words. -/
def g4 (F : Nat → Int32) (x y z : Int32) : Nat → Int32 := fun j => if j = 31 then x else if j = 156 then y else if j = 157 then z else F j
def oksd (c : Nat) : Bool := decide (c = 3 ∨ c = 63 ∨ c = 58 ∨ c = 40 ∨ c = 42 ∨ c = 43 ∨ c = 45 ∨ c = 60 ∨ c = 62)
section Skr
variable {N : mz_N} {k : Nat} {F W V E G K : Nat → Int32} {x y z v : Int32}
theorem g4_31 : upd (g4 F x y z) 31 v = g4 F v y z := by
  funext j; simp only [up_a, g4]; by_cases a : j = 31 <;> simp [a]
theorem g4_56 : upd (g4 F x y z) 156 v = g4 F x v z := by
  funext j; simp only [up_a, g4]; by_cases a : j = 156 <;> simp [a]
theorem g4_57 : upd (g4 F x y z) 157 v = g4 F x y v := by
  funext j; simp only [up_a, g4]; by_cases a : j = 157 <;> simp [a]
theorem g4_self (h4 : F 31 = x) (h15 : F 156 = y) (h16 : F 157 = z) : g4 F x y z = F := by
  funext j; simp only [g4]
  by_cases a : j = 31
  · rw [if_pos a, a, h4]
  · by_cases b : j = 156
    · rw [if_neg a, if_pos b, b, h15]
    · by_cases c : j = 157
      · rw [if_neg a, if_neg b, if_pos c, c, h16]
      · rw [if_neg a, if_neg b, if_neg c]
theorem g4_r31 : g4 F x y z 31 = x := rfl
theorem g4_r56 : g4 F x y z 156 = y := rfl
theorem g4_r57 : g4 F x y z 157 = z := rfl
theorem g4_n {j : Nat} (a : j ≠ 31) (b : j ≠ 156) (c : j ≠ 157) : g4 F x y z j = F j := by unfold g4; rw [if_neg a, if_neg b, if_neg c]
theorem rp_top {c l : Nat} (h : F 156 = nI (l + 1)) (hl : l + 1 ≤ 196) (hc : K l = nI c) : cp_451_0 (rsM N F W V E G K) ∧ cf_451_0 (rsM N F W V E G K) = nI c := by
  rw [cp_451_0, cf_451_0]
  simp only [rs_o, h, nIs1]
  have p : ¬ nI (l + 1) = 0 := fun q => by have := (nI_eq0 (by omega)).mp q; omega
  refine ⟨⟨fun _ => trivial, fun _ => ib_n (by omega) (by omega)⟩, ?_⟩
  rw [if_neg p, gI_a, rs_K, nI_clamp (by omega), hc]
theorem rp_top0 (h : F 156 = nI 0) : cp_451_0 (rsM N F W V E G K) ∧ cf_451_0 (rsM N F W V E G K) = 0 := by
  rw [cp_451_0, cf_451_0]
  simp only [rs_o, h]
  exact ⟨⟨fun _ => trivial, fun q => absurd (show nI 0 = 0 from rfl) q⟩, rfl⟩
theorem rp_put {a b : Int32} (h : F 31 = nI k) (hk : k < 196) : cp_449_0 a b (rsM N F W V E G K) ∧ cf_449_0 a b (rsM N F W V E G K) = rsM N (upd F 31 (nI (k + 1))) (upd W k a) (upd V k b) E G K := by
  rw [cp_449_0, cf_449_0]
  simp only [rs_o, h, rs_w1, rs_w2]
  have i1 : mz_ib (nI k) 400 := ib_n (by omega) (by omega)
  refine ⟨⟨i1, i1, trivial⟩, ?_⟩
  rw [cf_449_20]
  simp only [rs_o, h, rs_pI, nI_1, nI_clamp (show k < 2 ^ 31 by omega)]
theorem rp_drop {c l m : Nat} (h : F 156 = nI (l + 1)) (hl : l + 1 ≤ 196) (hc : K l = nI (rk c)) (ho : oks c) (h7 : F 157 = nI (m + isn c)) : cp_452_0 (rsM N F W V E G K) ∧ cf_452_0 (rsM N F W V E G K) = rsM N (upd (upd F 156 (nI l)) 157 (nI m)) W V E G K := by
  rw [cp_452_0, cf_452_0]
  simp only [rs_o, rs_pI, h, nIs1]
  rw [show upd F 156 (nI l) 156 = nI l from rfl, show upd F 156 (nI l) 157 = nI (m + isn c) from h7, gI_a, rs_K, nI_clamp (by omega), hc, nn_r c (oks_lt ho) ho]
  refine ⟨⟨ib_n (by omega) (by omega), fun _ => trivial, fun _ => trivial⟩, ?_⟩
  by_cases w : isn c = 1
  · rw [if_pos (by simpa using w), cf_452_35, rs_pI, w, show mz_b01 true = 1 from rfl, nIs1]
  · have w0 : isn c = 0 := by unfold isn at w ⊢; split at w <;> simp_all
    rw [if_neg (by simpa using w), cf_452_35, rs_pI, w0, show mz_b01 false = 0 from rfl, Nat.add_zero, Int32.sub_zero]
theorem rp_hold {c l m : Nat} (h : F 156 = nI l) (hl : l < 196) (ho : oks c) (h7 : F 157 = nI m) : cp_454_0 (nI (rk c)) (rsM N F W V E G K) ∧ cf_454_0 (nI (rk c)) (rsM N F W V E G K) = rsM N (upd (upd F 156 (nI (l + 1))) 157 (nI (m + isn c))) W V E G (upd K l (nI (rk c))) := by
  rw [cp_454_0, cf_454_0]
  simp only [rs_o, rs_pI, h, rs_w5, nI_1, nI_clamp (show l < 2 ^ 31 by omega)]
  rw [cp_454_20, cf_454_20]
  simp only [rs_o]
  rw [show upd F 156 (nI (l + 1)) 157 = nI m from h7, nn_r c (oks_lt ho) ho]
  refine ⟨⟨ib_n (by omega) (by omega), fun _ => trivial, fun _ => trivial⟩, ?_⟩
  by_cases w : isn c = 1
  · rw [if_pos (by simpa using w), cf_454_37, rs_pI, w, show mz_b01 true = 1 from rfl, nI_1]
  · have w0 : isn c = 0 := by unfold isn at w ⊢; split at w <;> simp_all
    rw [if_neg (by simpa using w), cf_454_37, rs_pI, w0, show mz_b01 false = 0 from rfl, Int32.add_zero]
    rfl
theorem rk_1 : ∀ c, c < 64 → oksd c = true → ((nI (rk c) = 1 ↔ c = 3) ∧ (nI (rk c) = 2 ↔ c = 63) ∧ (nI (rk c) = 3 ↔ c = 58) ∧ (nI (rk c) = 40 ↔ c = 40)) := by decide +kernel
theorem rk_i {c : Nat} (h : oks c) : (nI (rk c) = 1 ↔ c = 3) ∧ (nI (rk c) = 2 ↔ c = 63) ∧ (nI (rk c) = 3 ↔ c = 58) ∧ (nI (rk c) = 40 ↔ c = 40) := rk_1 c (oks_lt h) (by unfold oksd; unfold oks at h; exact decide_eq_true h)
theorem tb_r : ∀ (s : List Nat) (S : List (Nat × Nat)) (W V : Nat → Int32), s.length + S.length ≤ 196 → gst s → stk K rk s → rws W V E G S → cp_450_0 (rsM N (g4 F (nI (nw S)) (nI s.length) (nI (nst s))) W V E G K) ∧ ∃ W' V', cf_450_0 (rsM N (g4 F (nI (nw S)) (nI s.length) (nI (nst s))) W V E G K) = rsM N (g4 F (nI (nw (tb s S).2)) (nI (tb s S).1.length) (nI (nst (tb s S).1))) W' V' E G K ∧ rws W' V' E G (tb s S).2 := by
  intro s
  induction s with
  | nil =>
    intro S W V hl hg hs hw
    refine lp_r (s := rsM N (g4 F (nI (nw S)) (nI 0) (nI 0)) W V E G K) (f := cq_450_0) (P := cd_450_0) (Q := fun r => ∃ W' V', r = rsM N (g4 F (nI (nw S)) (nI 0) (nI 0)) W' V' E G K ∧ rws W' V' E G S) (t := rsM N (g4 F (nI (nw S)) (nI 0) (nI 0)) W V E G K) ?_ ?_ ⟨W, V, rfl, hw⟩
    · rw [cd_450_0, rs_o]
      exact ⟨fun q => absurd (show (0 : Int32) < nI 0 from q) (by decide), fun _ => trivial⟩
    · rw [cq_450_0, rs_o, g4_r56, if_neg (show ¬ (0 : Int32) < nI 0 by decide)]
  | cons c s ih =>
    intro S W V hl hg hs hw
    have hl' : s.length + 1 + S.length ≤ 196 := hl
    have hS := nanw S
    obtain ⟨l1, l2⟩ := rp_top (N := N) (F := g4 F (nI (nw S)) (nI (s.length + 1)) (nI (nst s + isn c))) (W := W) (V := V) (E := E) (G := G) (K := K) (c := rk c) (l := s.length) rfl (by omega) hs.1
    have pz : (0 : Int32) < nI (s.length + 1) := (nI_gt0 (by omega)).mpr (by omega)
    by_cases w : c = 3
    · have et : tb (c :: s) S = tb s ((3, 0) :: S) := by show (if c = 3 then tb s ((3, 0) :: S) else (c :: s, S)) = _; rw [if_pos w]
      rw [et]
      obtain ⟨a1, a2⟩ := rp_put (N := N) (F := g4 F (nI (nw S)) (nI (s.length + 1)) (nI (nst s + isn c))) (W := W) (V := V) (E := E) (G := G) (K := K) (a := 2) (b := 0) (k := nw S) rfl (by omega)
      rw [g4_31] at a2
      obtain ⟨d1, d2⟩ := rp_drop (N := N) (F := g4 F (nI (nw S + 1)) (nI (s.length + 1)) (nI (nst s + isn c))) (W := upd W (nw S) 2) (V := upd V (nw S) 0) (E := E) (G := G) (K := K) (c := c) (l := s.length) (m := nst s) rfl (by omega) hs.1 hg.1 rfl
      rw [g4_56, g4_57] at d2
      refine lp_l (s := rsM N (g4 F (nI (nw S)) (nI (s.length + 1)) (nI (nst s + isn c))) W V E G K) (f := cq_450_0) (P := cd_450_0) (Q := fun r => ∃ W' V', r = rsM N (g4 F (nI (nw (tb s ((3, 0) :: S)).2)) (nI (tb s ((3, 0) :: S)).1.length) (nI (nst (tb s ((3, 0) :: S)).1))) W' V' E G K ∧ rws W' V' E G (tb s ((3, 0) :: S)).2) (s2 := rsM N (g4 F (nI (nw S + 1)) (nI s.length) (nI (nst s))) (upd W (nw S) 2) (upd V (nw S) 0) E G K) ?_ ?_ (ih ((3, 0) :: S) (upd W (nw S) 2) (upd V (nw S) 0) (by show s.length + (S.length + 1) ≤ 196; omega) hg.2.2 hs.2 ⟨fun q => absurd q (by decide), fun _ => ⟨by rw [up_a, if_pos rfl]; rfl, by rw [up_a, if_pos rfl]; rfl⟩, rws_up (Nat.le_refl _) hw⟩)
      · rw [cd_450_0]
        exact ⟨fun _ => ⟨l1, fun _ => ⟨a1, a2 ▸ d1⟩, fun _ => trivial⟩, fun _ => trivial⟩
      · rw [cq_450_0, if_pos (show (0 : Int32) < (rsM N (g4 F (nI (nw S)) (nI (s.length + 1)) (nI (nst s + isn c))) W V E G K).1 232 156 by rw [rs_o]; exact pz), if_pos (show cf_451_0 (rsM N (g4 F (nI (nw S)) (nI (s.length + 1)) (nI (nst s + isn c))) W V E G K) = 1 from l2.trans (by rw [w]; rfl))]
        show Sum.inl (cf_452_0 (cf_449_0 2 0 (rsM N (g4 F (nI (nw S)) (nI (s.length + 1)) (nI (nst s + isn c))) W V E G K))) = _
        rw [a2, d2]
    · have et : tb (c :: s) S = (c :: s, S) := by show (if c = 3 then tb s ((3, 0) :: S) else (c :: s, S)) = _; rw [if_neg w]
      rw [et]
      have nc : ¬ nI (rk c) = 1 := fun q => w ((rk_i hg.1).1.mp q)
      refine lp_r (s := rsM N (g4 F (nI (nw S)) (nI (s.length + 1)) (nI (nst s + isn c))) W V E G K) (f := cq_450_0) (P := cd_450_0) (Q := fun r => ∃ W' V', r = rsM N (g4 F (nI (nw S)) (nI (s.length + 1)) (nI (nst s + isn c))) W' V' E G K ∧ rws W' V' E G S) (t := rsM N (g4 F (nI (nw S)) (nI (s.length + 1)) (nI (nst s + isn c))) W V E G K) ?_ ?_ ⟨W, V, rfl, hw⟩
      · rw [cd_450_0]
        exact ⟨fun _ => ⟨l1, fun q => absurd (l2.symm.trans q) nc, fun _ => trivial⟩, fun _ => trivial⟩
      · rw [cq_450_0, if_pos (show (0 : Int32) < (rsM N (g4 F (nI (nw S)) (nI (s.length + 1)) (nI (nst s + isn c))) W V E G K).1 232 156 by rw [rs_o]; exact pz), if_neg (show ¬ cf_451_0 (rsM N (g4 F (nI (nw S)) (nI (s.length + 1)) (nI (nst s + isn c))) W V E G K) = 1 from fun q => nc (l2.symm.trans q))]
theorem rz_op {c : Nat} (h : oks c) (h1 : 1 ≤ stn c) : rz c = rk c ∧ c ≠ 2 ∧ rk c = c := by
  unfold oks at h
  rcases h with rfl | rfl | rfl | rfl | rfl | rfl | rfl | rfl | rfl
  · exact absurd h1 (by decide)
  · exact absurd h1 (by decide)
  · exact absurd h1 (by decide)
  · exact absurd h1 (by decide)
  all_goals exact ⟨rfl, by decide, rfl⟩
theorem stl_r {f : Nat} (hf1 : 1 ≤ f) (hf : f ≤ 3) : ∀ (s : List Nat) (S : List (Nat × Nat)) (W V : Nat → Int32), s.length + S.length ≤ 196 → gst s → stk K rk s → rws W V E G S → cp_457_0 (nI f) (rsM N (g4 F (nI (nw S)) (nI s.length) (nI (nst s))) W V E G K) ∧ ∃ W' V', cf_457_0 (nI f) (rsM N (g4 F (nI (nw S)) (nI s.length) (nI (nst s))) W V E G K) = rsM N (g4 F (nI (nw (stl f s S).2)) (nI (stl f s S).1.length) (nI (nst (stl f s S).1))) W' V' E G K ∧ rws W' V' E G (stl f s S).2 := by
  intro s
  induction s with
  | nil =>
    intro S W V hl hg hs hw
    refine lp_r (s := rsM N (g4 F (nI (nw S)) (nI 0) (nI 0)) W V E G K) (f := cq_457_0 (nI f)) (P := cd_457_0 (nI f)) (Q := fun r => ∃ W' V', r = rsM N (g4 F (nI (nw S)) (nI 0) (nI 0)) W' V' E G K ∧ rws W' V' E G S) (t := rsM N (g4 F (nI (nw S)) (nI 0) (nI 0)) W V E G K) ?_ ?_ ⟨W, V, rfl, hw⟩
    · rw [cd_457_0, rs_o]
      exact ⟨fun q => absurd (show (0 : Int32) < nI 0 from q) (by decide), fun _ => trivial⟩
    · rw [cq_457_0, rs_o, g4_r56, if_neg (show ¬ (0 : Int32) < nI 0 by decide)]
  | cons c s ih =>
    intro S W V hl hg hs hw
    have hl' : s.length + 1 + S.length ≤ 196 := hl
    have hS := nanw S
    obtain ⟨l1, l2⟩ := rp_top (N := N) (F := g4 F (nI (nw S)) (nI (s.length + 1)) (nI (nst s + isn c))) (W := W) (V := V) (E := E) (G := G) (K := K) (c := rk c) (l := s.length) rfl (by omega) hs.1
    have pz : (0 : Int32) < nI (s.length + 1) := (nI_gt0 (by omega)).mpr (by omega)
    have ef := fm_r c (oks_lt hg.1)
    have hsn := stn_le c
    by_cases w : stn c < f
    · have et : stl f (c :: s) S = (c :: s, S) := by show (if stn c < f then (c :: s, S) else stl f s ((c, 0) :: S)) = _; rw [if_pos w]
      rw [et]
      have lw : nI (stn c) < nI f := (nI_ltI (by omega) (by omega)).mpr w
      refine lp_r (s := rsM N (g4 F (nI (nw S)) (nI (s.length + 1)) (nI (nst s + isn c))) W V E G K) (f := cq_457_0 (nI f)) (P := cd_457_0 (nI f)) (Q := fun r => ∃ W' V', r = rsM N (g4 F (nI (nw S)) (nI (s.length + 1)) (nI (nst s + isn c))) W' V' E G K ∧ rws W' V' E G S) (t := rsM N (g4 F (nI (nw S)) (nI (s.length + 1)) (nI (nst s + isn c))) W V E G K) ?_ ?_ ⟨W, V, rfl, hw⟩
      · rw [cd_457_0]
        exact ⟨fun _ => ⟨l1, fun _ => trivial, fun q => absurd (show cf_456_0 (cf_451_0 (rsM N (g4 F (nI (nw S)) (nI (s.length + 1)) (nI (nst s + isn c))) W V E G K)) < nI f by rw [l2, ef]; exact lw) q⟩, fun _ => trivial⟩
      · rw [cq_457_0, if_pos (show (0 : Int32) < (rsM N (g4 F (nI (nw S)) (nI (s.length + 1)) (nI (nst s + isn c))) W V E G K).1 232 156 by rw [rs_o]; exact pz), if_pos (show cf_456_0 (cf_451_0 (rsM N (g4 F (nI (nw S)) (nI (s.length + 1)) (nI (nst s + isn c))) W V E G K)) < nI f by rw [l2, ef]; exact lw)]
    · have et : stl f (c :: s) S = stl f s ((c, 0) :: S) := by show (if stn c < f then (c :: s, S) else stl f s ((c, 0) :: S)) = _; rw [if_neg w]
      rw [et]
      have lw : ¬ nI (stn c) < nI f := fun q => w ((nI_ltI (by omega) (by omega)).mp q)
      obtain ⟨z1, z2, -⟩ := rz_op hg.1 (by omega)
      obtain ⟨a1, a2⟩ := rp_put (N := N) (F := g4 F (nI (nw S)) (nI (s.length + 1)) (nI (nst s + isn c))) (W := W) (V := V) (E := E) (G := G) (K := K) (a := nI (rk c)) (b := 0) (k := nw S) rfl (by omega)
      rw [g4_31] at a2
      obtain ⟨d1, d2⟩ := rp_drop (N := N) (F := g4 F (nI (nw S + 1)) (nI (s.length + 1)) (nI (nst s + isn c))) (W := upd W (nw S) (nI (rk c))) (V := upd V (nw S) 0) (E := E) (G := G) (K := K) (c := c) (l := s.length) (m := nst s) rfl (by omega) hs.1 hg.1 rfl
      rw [g4_56, g4_57] at d2
      have en : nw ((c, 0) :: S) = nw S + 1 := by show (if c = 2 then nw S else nw S + 1) = _; rw [if_neg z2]
      have ihx := ih ((c, 0) :: S) (upd W (nw S) (nI (rk c))) (upd V (nw S) 0) (by show s.length + (S.length + 1) ≤ 196; omega) hg.2.2 hs.2 ⟨fun q => absurd q z2, fun _ => ⟨by rw [up_a, if_pos rfl, z1], by rw [up_a, if_pos rfl]; rfl⟩, rws_up (Nat.le_refl _) hw⟩
      rw [en] at ihx
      refine lp_l (s := rsM N (g4 F (nI (nw S)) (nI (s.length + 1)) (nI (nst s + isn c))) W V E G K) (f := cq_457_0 (nI f)) (P := cd_457_0 (nI f)) (Q := fun r => ∃ W' V', r = rsM N (g4 F (nI (nw (stl f s ((c, 0) :: S)).2)) (nI (stl f s ((c, 0) :: S)).1.length) (nI (nst (stl f s ((c, 0) :: S)).1))) W' V' E G K ∧ rws W' V' E G (stl f s ((c, 0) :: S)).2) (s2 := rsM N (g4 F (nI (nw S + 1)) (nI s.length) (nI (nst s))) (upd W (nw S) (nI (rk c))) (upd V (nw S) 0) E G K) ?_ ?_ ihx
      · rw [cd_457_0]
        refine ⟨fun _ => ⟨l1, fun _ => trivial, fun _ => ⟨l1, ?_⟩⟩, fun _ => trivial⟩
        show cp_449_0 (cf_451_0 (rsM N (g4 F (nI (nw S)) (nI (s.length + 1)) (nI (nst s + isn c))) W V E G K)) 0 (rsM N (g4 F (nI (nw S)) (nI (s.length + 1)) (nI (nst s + isn c))) W V E G K) ∧ cp_452_0 (cf_449_0 (cf_451_0 (rsM N (g4 F (nI (nw S)) (nI (s.length + 1)) (nI (nst s + isn c))) W V E G K)) 0 (rsM N (g4 F (nI (nw S)) (nI (s.length + 1)) (nI (nst s + isn c))) W V E G K))
        rw [l2, a2]; exact ⟨a1, d1⟩
      · rw [cq_457_0, if_pos (show (0 : Int32) < (rsM N (g4 F (nI (nw S)) (nI (s.length + 1)) (nI (nst s + isn c))) W V E G K).1 232 156 by rw [rs_o]; exact pz), if_neg (show ¬ cf_456_0 (cf_451_0 (rsM N (g4 F (nI (nw S)) (nI (s.length + 1)) (nI (nst s + isn c))) W V E G K)) < nI f by rw [l2, ef]; exact lw)]
        show Sum.inl (cf_452_0 (cf_449_0 (cf_451_0 (rsM N (g4 F (nI (nw S)) (nI (s.length + 1)) (nI (nst s + isn c))) W V E G K)) 0 (rsM N (g4 F (nI (nw S)) (nI (s.length + 1)) (nI (nst s + isn c))) W V E G K))) = _
        rw [l2, a2, d2]
theorem stl_0 : ∀ {s : List Nat} {S : List (Nat × Nat)}, stn (s.headD 0) = 0 → stl 1 s S = (s, S) := by
  intro s S h
  cases s with
  | nil => rfl
  | cons c s =>
    show (if stn c < 1 then (c :: s, S) else stl 1 s ((c, 0) :: S)) = _
    rw [if_pos (by rw [show stn c = 0 from h]; omega)]
theorem clo_r : ∀ (s : List Nat) (S : List (Nat × Nat)) (W V : Nat → Int32), s.length + S.length ≤ 196 → gst s → stk K rk s → rws W V E G S → cp_458_5 (rsM N (g4 F (nI (nw S)) (nI s.length) (nI (nst s))) W V E G K) ∧ ∃ W' V', cf_458_5 (rsM N (g4 F (nI (nw S)) (nI s.length) (nI (nst s))) W V E G K) = rsM N (g4 F (nI (nw (clo s S).2)) (nI (clo s S).1.length) (nI (nst (clo s S).1))) W' V' E G K ∧ rws W' V' E G (clo s S).2 := by
  intro s
  induction s with
  | nil =>
    intro S W V hl hg hs hw
    obtain ⟨l1, l2⟩ := rp_top0 (N := N) (F := g4 F (nI (nw S)) (nI 0) (nI 0)) (W := W) (V := V) (E := E) (G := G) (K := K) rfl
    refine lp_r (s := rsM N (g4 F (nI (nw S)) (nI 0) (nI 0)) W V E G K) (f := cq_458_5) (P := cd_458_5) (Q := fun r => ∃ W' V', r = rsM N (g4 F (nI (nw S)) (nI 0) (nI 0)) W' V' E G K ∧ rws W' V' E G S) (t := rsM N (g4 F (nI (nw S)) (nI 0) (nI 0)) W V E G K) ?_ ?_ ⟨W, V, rfl, hw⟩
    · rw [cd_458_5]
      exact ⟨l1, fun q => absurd (l2.symm.trans q) (by decide), fun _ => trivial⟩
    · rw [cq_458_5, if_neg (show ¬ cf_451_0 (rsM N (g4 F (nI (nw S)) (nI 0) (nI 0)) W V E G K) = 3 from fun q => absurd (l2.symm.trans q) (by decide))]
  | cons c s ih =>
    intro S W V hl hg hs hw
    have hl' : s.length + 1 + S.length ≤ 196 := hl
    have hS := nanw S
    obtain ⟨l1, l2⟩ := rp_top (N := N) (F := g4 F (nI (nw S)) (nI (s.length + 1)) (nI (nst s + isn c))) (W := W) (V := V) (E := E) (G := G) (K := K) (c := rk c) (l := s.length) rfl (by omega) hs.1
    have pz : (0 : Int32) < nI (s.length + 1) := (nI_gt0 (by omega)).mpr (by omega)
    by_cases w : c = 58
    · have et : clo (c :: s) S = clo s ((63, 0) :: S) := by show (if c = 58 then clo s ((63, 0) :: S) else (c :: s, S)) = _; rw [if_pos w]
      rw [et]
      obtain ⟨a1, a2⟩ := rp_put (N := N) (F := g4 F (nI (nw S)) (nI (s.length + 1)) (nI (nst s + isn c))) (W := W) (V := V) (E := E) (G := G) (K := K) (a := 3) (b := 0) (k := nw S) rfl (by omega)
      rw [g4_31] at a2
      obtain ⟨d1, d2⟩ := rp_drop (N := N) (F := g4 F (nI (nw S + 1)) (nI (s.length + 1)) (nI (nst s + isn c))) (W := upd W (nw S) 3) (V := upd V (nw S) 0) (E := E) (G := G) (K := K) (c := c) (l := s.length) (m := nst s) rfl (by omega) hs.1 hg.1 rfl
      rw [g4_56, g4_57] at d2
      have hw' : rws (upd W (nw S) 3) (upd V (nw S) 0) E G ((63, 0) :: S) := ⟨fun q => absurd q (by decide), fun _ => ⟨by rw [up_a, if_pos rfl]; rfl, by rw [up_a, if_pos rfl]; rfl⟩, rws_up (Nat.le_refl _) hw⟩
      obtain ⟨t1, W', V', t2, t3⟩ := stl_r (f := 1) (N := N) (F := F) (E := E) (G := G) (K := K) (by decide) (by decide) s ((63, 0) :: S) (upd W (nw S) 3) (upd V (nw S) 0) (by show s.length + (S.length + 1) ≤ 196; omega) hg.2.2 hs.2 hw'
      rw [stl_0 (hg.2.1 (Or.inr w))] at t2 t3
      refine lp_l (s := rsM N (g4 F (nI (nw S)) (nI (s.length + 1)) (nI (nst s + isn c))) W V E G K) (f := cq_458_5) (P := cd_458_5) (Q := fun r => ∃ W' V', r = rsM N (g4 F (nI (nw (clo s ((63, 0) :: S)).2)) (nI (clo s ((63, 0) :: S)).1.length) (nI (nst (clo s ((63, 0) :: S)).1))) W' V' E G K ∧ rws W' V' E G (clo s ((63, 0) :: S)).2) (s2 := rsM N (g4 F (nI (nw S + 1)) (nI s.length) (nI (nst s))) W' V' E G K) ?_ ?_ (ih ((63, 0) :: S) W' V' (by show s.length + (S.length + 1) ≤ 196; omega) hg.2.2 hs.2 t3)
      · rw [cd_458_5]
        refine ⟨l1, fun _ => ⟨fun _ => ⟨a1, ?_⟩, fun _ => trivial⟩, fun _ => trivial⟩
        show cp_452_0 (cf_449_0 3 0 (rsM N (g4 F (nI (nw S)) (nI (s.length + 1)) (nI (nst s + isn c))) W V E G K)) ∧ cp_457_0 1 (cf_452_0 (cf_449_0 3 0 (rsM N (g4 F (nI (nw S)) (nI (s.length + 1)) (nI (nst s + isn c))) W V E G K)))
        rw [a2, d2]; exact ⟨d1, t1⟩
      · rw [cq_458_5, if_pos (show cf_451_0 (rsM N (g4 F (nI (nw S)) (nI (s.length + 1)) (nI (nst s + isn c))) W V E G K) = 3 from l2.trans (by rw [w]; rfl)), if_pos (show (0 : Int32) < (rsM N (g4 F (nI (nw S)) (nI (s.length + 1)) (nI (nst s + isn c))) W V E G K).1 232 156 by rw [rs_o]; exact pz)]
        show Sum.inl (cf_457_0 1 (cf_452_0 (cf_449_0 3 0 (rsM N (g4 F (nI (nw S)) (nI (s.length + 1)) (nI (nst s + isn c))) W V E G K)))) = _
        rw [a2, d2]
        exact congrArg Sum.inl t2
    · have et : clo (c :: s) S = (c :: s, S) := by show (if c = 58 then clo s ((63, 0) :: S) else (c :: s, S)) = _; rw [if_neg w]
      rw [et]
      have nc : ¬ nI (rk c) = 3 := fun q => w ((rk_i hg.1).2.2.1.mp q)
      refine lp_r (s := rsM N (g4 F (nI (nw S)) (nI (s.length + 1)) (nI (nst s + isn c))) W V E G K) (f := cq_458_5) (P := cd_458_5) (Q := fun r => ∃ W' V', r = rsM N (g4 F (nI (nw S)) (nI (s.length + 1)) (nI (nst s + isn c))) W' V' E G K ∧ rws W' V' E G S) (t := rsM N (g4 F (nI (nw S)) (nI (s.length + 1)) (nI (nst s + isn c))) W V E G K) ?_ ?_ ⟨W, V, rfl, hw⟩
      · rw [cd_458_5]
        exact ⟨l1, fun q => absurd (l2.symm.trans q) nc, fun _ => trivial⟩
      · rw [cq_458_5, if_neg (show ¬ cf_451_0 (rsM N (g4 F (nI (nw S)) (nI (s.length + 1)) (nI (nst s + isn c))) W V E G K) = 3 from fun q => nc (l2.symm.trans q))]
end Skr
