/-! PURE (50zk): the class's stack and steps. -/
def f4 (F : Nat → Int32) (x y z : Int32) : Nat → Int32 := fun j => if j = 4 then x else if j = 15 then y else if j = 16 then z else F j
section Skc
variable {N : mz_N} {o k : Nat} {F A B C : Nat → Int32} {x y z v : Int32}
theorem f4_4 : upd (f4 F x y z) 4 v = f4 F v y z := by
  funext j; simp only [up_a, f4]; by_cases a : j = 4 <;> simp [a]
theorem f4_15 : upd (f4 F x y z) 15 v = f4 F x v z := by
  funext j; simp only [up_a, f4]; by_cases a : j = 15 <;> simp [a]
theorem f4_16 : upd (f4 F x y z) 16 v = f4 F x y v := by
  funext j; simp only [up_a, f4]; by_cases a : j = 16 <;> simp [a]
theorem f4_self (h4 : F 4 = x) (h15 : F 15 = y) (h16 : F 16 = z) : f4 F x y z = F := by
  funext j; simp only [f4]
  by_cases a : j = 4
  · rw [if_pos a, a, h4]
  · by_cases b : j = 15
    · rw [if_neg a, if_pos b, b, h15]
    · by_cases c : j = 16
      · rw [if_neg a, if_neg b, if_pos c, c, h16]
      · rw [if_neg a, if_neg b, if_neg c]
theorem f4_r4 : f4 F x y z 4 = x := rfl
theorem f4_r15 : f4 F x y z 15 = y := rfl
theorem f4_r16 : f4 F x y z 16 = z := rfl
theorem f4_n {j : Nat} (a : j ≠ 4) (b : j ≠ 15) (c : j ≠ 16) : f4 F x y z j = F j := by unfold f4; rw [if_neg a, if_neg b, if_neg c]
theorem nIs1 (k : Nat) : nI (k + 1) - 1 = nI k := by rw [show (1 : Int32) = nI 1 from rfl, pk_sub (by omega), Nat.add_sub_cancel]
theorem c_lat {c l : Nat} (h : F 15 = nI (l + 1)) (hl : l + 1 ≤ 196) (hc : C l = nI c) : cp_37_0 o (rdM N o F A B C) ∧ cf_37_0 o (rdM N o F A B C) = nI c := by
  rw [cp_37_0, cf_37_0]
  simp only [rd_o, h, nIs1]
  have p : 0 < nI (l + 1) := (nI_gt0 (by omega)).mpr (by omega)
  refine ⟨⟨fun _ => ib_n (by omega) (by omega), fun _ => trivial⟩, ?_⟩
  rw [if_pos p, gI_a, rd_4, nI_clamp (by omega), hc]
theorem c_lat0 (h : F 15 = nI 0) : cp_37_0 o (rdM N o F A B C) ∧ cf_37_0 o (rdM N o F A B C) = -1 := by
  rw [cp_37_0, cf_37_0]
  simp only [rd_o, h]
  exact ⟨⟨fun q => absurd q (by decide), fun _ => trivial⟩, rfl⟩
theorem c_add {a b : Int32} (h : F 4 = nI k) (hk : k < 196) : cp_35_0 o a b (rdM N o F A B C) ∧ cf_35_0 o a b (rdM N o F A B C) = rdM N o (upd F 4 (nI (k + 1))) (upd A k a) (upd B k b) C := by
  rw [cp_35_0, cf_35_0]
  simp only [rd_o, h, rd_w2, rd_w3]
  have p : nI k < 196 := (nI_ltI (b := 196) (by omega) (by omega)).mpr hk
  have i1 : mz_ib (nI k) 196 := ib_n (by omega) (by omega)
  refine ⟨⟨fun _ => ⟨i1, i1, trivial⟩, fun _ => trivial⟩, ?_⟩
  rw [if_pos p, cf_35_30]
  simp only [rd_o, h, rd_pI, nI_1, nI_clamp (show k < 2 ^ 31 by omega)]
theorem tb_c : ∀ (s : List Nat) (S : List (Nat × Nat)) (A B : Nat → Int32), s.length + S.length ≤ 196 → gst s → stk C id s → wds A B S → cp_36_0 o (rdM N o (f4 F (nI S.length) (nI s.length) (nI (nst s))) A B C) ∧ ∃ A' B', cf_36_0 o (rdM N o (f4 F (nI S.length) (nI s.length) (nI (nst s))) A B C) = rdM N o (upd (f4 F (nI (tb s S).2.length) (nI (tb s S).1.length) (nI (nst (tb s S).1))) 12 3) A' B' C ∧ wds A' B' (tb s S).2 := by
  intro s
  induction s with
  | nil =>
    intro S A B hl hg hs hw
    refine lp_r (s := rdM N o (f4 F (nI S.length) (nI 0) (nI 0)) A B C) (f := cq_36_0 o) (P := cd_36_0 o) (Q := fun r => ∃ A' B', r = rdM N o (upd (f4 F (nI (tb [] S).2.length) (nI (tb [] S).1.length) (nI (nst (tb [] S).1))) 12 3) A' B' C ∧ wds A' B' (tb [] S).2) (t := rdM N o (upd (f4 F (nI S.length) (nI 0) (nI 0)) 12 3) A B C) ?_ ?_ ⟨A, B, rfl, hw⟩
    · rw [cd_36_0, rd_o]
      exact ⟨fun q => absurd (show (0 : Int32) < nI 0 from q) (by decide), fun _ => trivial⟩
    · rw [cq_36_0, rd_o, f4_r15, if_neg (show ¬ (0 : Int32) < nI 0 by decide), cf_36_44, rd_pI]
  | cons c s ih =>
    intro S A B hl hg hs hw
    have hl' : s.length + 1 + S.length ≤ 196 := hl
    obtain ⟨l1, l2⟩ := c_lat (N := N) (o := o) (F := f4 F (nI S.length) (nI (s.length + 1)) (nI (nst s + isn c))) (A := A) (B := B) (C := C) (c := c) (l := s.length) rfl (by omega) hs.1
    have pz : (0 : Int32) < nI (s.length + 1) := (nI_gt0 (by omega)).mpr (by omega)
    by_cases w : c = 3
    · have et : tb (c :: s) S = tb s ((3, 0) :: S) := by show (if c = 3 then tb s ((3, 0) :: S) else (c :: s, S)) = _; rw [if_pos w]
      rw [et]
      obtain ⟨a1, a2⟩ := c_add (N := N) (o := o) (F := f4 F (nI S.length) (nI (s.length + 1)) (nI (nst s + isn c))) (A := A) (B := B) (C := C) (a := 3) (b := 0) (k := S.length) rfl (by omega)
      have hi : isn c = 1 := by rw [w]; rfl
      refine lp_l (s := rdM N o (f4 F (nI S.length) (nI (s.length + 1)) (nI (nst s + isn c))) A B C) (f := cq_36_0 o) (P := cd_36_0 o) (Q := fun r => ∃ A' B', r = rdM N o (upd (f4 F (nI (tb s ((3, 0) :: S)).2.length) (nI (tb s ((3, 0) :: S)).1.length) (nI (nst (tb s ((3, 0) :: S)).1))) 12 3) A' B' C ∧ wds A' B' (tb s ((3, 0) :: S)).2) (s2 := rdM N o (f4 F (nI (S.length + 1)) (nI s.length) (nI (nst s))) (upd A S.length 3) (upd B S.length 0) C) ?_ ?_ (ih ((3, 0) :: S) (upd A S.length 3) (upd B S.length 0) (by show s.length + (S.length + 1) ≤ 196; omega) hg.2.2 hs.2 ⟨by rw [up_a, if_pos rfl]; rfl, by rw [up_a, if_pos rfl]; rfl, wds_up (Nat.le_refl _) hw⟩)
      · rw [cd_36_0]
        refine ⟨fun _ => ⟨l1, fun _ => a1, fun q => absurd (l2.trans (by rw [w]; rfl)) q⟩, fun q => absurd (show (0 : Int32) < nI (s.length + 1) from pz) (by rw [rd_o] at q; exact q)⟩
      · rw [cq_36_0, if_pos (show (0 : Int32) < (rdM N o (f4 F (nI S.length) (nI (s.length + 1)) (nI (nst s + isn c))) A B C).1 o 15 by rw [rd_o]; exact pz), if_pos (show cf_37_0 o (rdM N o (f4 F (nI S.length) (nI (s.length + 1)) (nI (nst s + isn c))) A B C) = 3 from l2.trans (by rw [w]; rfl))]
        show Sum.inl _ = Sum.inl _
        congr 1
        show mz_pI (mz_pI (cf_35_0 o 3 0 (rdM N o (f4 F (nI S.length) (nI (s.length + 1)) (nI (nst s + isn c))) A B C)) o 16 _) o 15 _ = _
        rw [a2, hi]
        simp only [rd_pI, rd_o, f4_4, f4_16, f4_15, f4_r16, f4_r15, nIs1]
    · have et : tb (c :: s) S = (c :: s, S) := by show (if c = 3 then tb s ((3, 0) :: S) else (c :: s, S)) = _; rw [if_neg w]
      rw [et]
      have hc := oks_lt hg.1
      have nc : ¬ nI c = 3 := fun q => w ((nI_eq (b := 3) (by omega) (by omega)).mp q)
      refine lp_r (s := rdM N o (f4 F (nI S.length) (nI (s.length + 1)) (nI (nst s + isn c))) A B C) (f := cq_36_0 o) (P := cd_36_0 o) (Q := fun r => ∃ A' B', r = rdM N o (upd (f4 F (nI S.length) (nI (s.length + 1)) (nI (nst s + isn c))) 12 3) A' B' C ∧ wds A' B' S) (t := rdM N o (upd (f4 F (nI S.length) (nI (s.length + 1)) (nI (nst s + isn c))) 12 3) A B C) ?_ ?_ ⟨A, B, rfl, hw⟩
      · rw [cd_36_0]
        exact ⟨fun _ => ⟨l1, fun q => absurd (l2.symm.trans q) nc, fun _ => trivial⟩, fun _ => trivial⟩
      · rw [cq_36_0, if_pos (show (0 : Int32) < (rdM N o (f4 F (nI S.length) (nI (s.length + 1)) (nI (nst s + isn c))) A B C).1 o 15 by rw [rd_o]; exact pz), if_neg (show ¬ cf_37_0 o (rdM N o (f4 F (nI S.length) (nI (s.length + 1)) (nI (nst s + isn c))) A B C) = 3 from fun q => nc (l2.symm.trans q)), cf_36_44]
        show Sum.inr (mz_pI (rdM N o (f4 F (nI S.length) (nI (s.length + 1)) (nI (nst s + isn c))) A B C) o 12 3) = _
        rw [rd_pI]
theorem stl_c {f : Nat} (hf1 : 1 ≤ f) (hf : f ≤ 3) : ∀ (s : List Nat) (S : List (Nat × Nat)) (A B : Nat → Int32), s.length + S.length ≤ 196 → gst s → stk C id s → wds A B S → cp_42_0 o (nI f) (rdM N o (f4 F (nI S.length) (nI s.length) z) A B C) ∧ ∃ A' B', cf_42_0 o (nI f) (rdM N o (f4 F (nI S.length) (nI s.length) z) A B C) = rdM N o (f4 F (nI (stl f s S).2.length) (nI (stl f s S).1.length) z) A' B' C ∧ wds A' B' (stl f s S).2 := by
  intro s
  induction s with
  | nil =>
    intro S A B hl hg hs hw
    refine lp_r (s := rdM N o (f4 F (nI S.length) (nI 0) z) A B C) (f := cq_42_0 o (nI f)) (P := cd_42_0 o (nI f)) (Q := fun r => ∃ A' B', r = rdM N o (f4 F (nI S.length) (nI 0) z) A' B' C ∧ wds A' B' S) (t := rdM N o (f4 F (nI S.length) (nI 0) z) A B C) ?_ ?_ ⟨A, B, rfl, hw⟩
    · rw [cd_42_0, rd_o]
      exact ⟨fun q => absurd (show (0 : Int32) < nI 0 from q) (by decide), fun _ => trivial⟩
    · rw [cq_42_0, rd_o, f4_r15, if_neg (show ¬ (0 : Int32) < nI 0 by decide)]
  | cons c s ih =>
    intro S A B hl hg hs hw
    have hl' : s.length + 1 + S.length ≤ 196 := hl
    obtain ⟨l1, l2⟩ := c_lat (N := N) (o := o) (F := f4 F (nI S.length) (nI (s.length + 1)) z) (A := A) (B := B) (C := C) (c := c) (l := s.length) rfl (by omega) hs.1
    have pz : (0 : Int32) < nI (s.length + 1) := (nI_gt0 (by omega)).mpr (by omega)
    have hc := oks_lt hg.1
    have ef := fm_c c hc
    have hsn := stn_le c
    by_cases w : stn c < f
    · have et : stl f (c :: s) S = (c :: s, S) := by show (if stn c < f then (c :: s, S) else stl f s ((c, 0) :: S)) = _; rw [if_pos w]
      rw [et]
      have lw : nI (stn c) < nI f := (nI_ltI (by omega) (by omega)).mpr w
      refine lp_r (s := rdM N o (f4 F (nI S.length) (nI (s.length + 1)) z) A B C) (f := cq_42_0 o (nI f)) (P := cd_42_0 o (nI f)) (Q := fun r => ∃ A' B', r = rdM N o (f4 F (nI S.length) (nI (s.length + 1)) z) A' B' C ∧ wds A' B' S) (t := rdM N o (f4 F (nI S.length) (nI (s.length + 1)) z) A B C) ?_ ?_ ⟨A, B, rfl, hw⟩
      · rw [cd_42_0]
        exact ⟨fun _ => ⟨l1, fun _ => trivial, fun q => absurd (show cf_41_0 (cf_37_0 o (rdM N o (f4 F (nI S.length) (nI (s.length + 1)) z) A B C)) < nI f by rw [l2, ef]; exact lw) q⟩, fun _ => trivial⟩
      · rw [cq_42_0, if_pos (show (0 : Int32) < (rdM N o (f4 F (nI S.length) (nI (s.length + 1)) z) A B C).1 o 15 by rw [rd_o]; exact pz), if_pos (show cf_41_0 (cf_37_0 o (rdM N o (f4 F (nI S.length) (nI (s.length + 1)) z) A B C)) < nI f by rw [l2, ef]; exact lw)]
    · have et : stl f (c :: s) S = stl f s ((c, 0) :: S) := by show (if stn c < f then (c :: s, S) else stl f s ((c, 0) :: S)) = _; rw [if_neg w]
      rw [et]
      have lw : ¬ nI (stn c) < nI f := fun q => w ((nI_ltI (by omega) (by omega)).mp q)
      obtain ⟨a1, a2⟩ := c_add (N := N) (o := o) (F := f4 F (nI S.length) (nI (s.length + 1)) z) (A := A) (B := B) (C := C) (a := nI c) (b := 0) (k := S.length) rfl (by omega)
      refine lp_l (s := rdM N o (f4 F (nI S.length) (nI (s.length + 1)) z) A B C) (f := cq_42_0 o (nI f)) (P := cd_42_0 o (nI f)) (Q := fun r => ∃ A' B', r = rdM N o (f4 F (nI (stl f s ((c, 0) :: S)).2.length) (nI (stl f s ((c, 0) :: S)).1.length) z) A' B' C ∧ wds A' B' (stl f s ((c, 0) :: S)).2) (s2 := rdM N o (f4 F (nI (S.length + 1)) (nI s.length) z) (upd A S.length (nI c)) (upd B S.length 0) C) ?_ ?_ (ih ((c, 0) :: S) (upd A S.length (nI c)) (upd B S.length 0) (by show s.length + (S.length + 1) ≤ 196; omega) hg.2.2 hs.2 ⟨by rw [up_a, if_pos rfl], by rw [up_a, if_pos rfl]; rfl, wds_up (Nat.le_refl _) hw⟩)
      · rw [cd_42_0]
        refine ⟨fun _ => ⟨l1, fun q => absurd (show nI (stn c) < nI f by rw [← ef, ← l2]; exact q) lw, fun _ => ⟨l1, ?_⟩⟩, fun _ => trivial⟩
        show cp_35_0 o (cf_37_0 o (rdM N o (f4 F (nI S.length) (nI (s.length + 1)) z) A B C)) 0 _
        rw [l2]; exact a1
      · rw [cq_42_0, if_pos (show (0 : Int32) < (rdM N o (f4 F (nI S.length) (nI (s.length + 1)) z) A B C).1 o 15 by rw [rd_o]; exact pz), if_neg (show ¬ cf_41_0 (cf_37_0 o (rdM N o (f4 F (nI S.length) (nI (s.length + 1)) z) A B C)) < nI f by rw [l2, ef]; exact lw)]
        show Sum.inl _ = Sum.inl _
        congr 1
        show mz_pI (cf_35_0 o (cf_37_0 o (rdM N o (f4 F (nI S.length) (nI (s.length + 1)) z) A B C)) 0 (rdM N o (f4 F (nI S.length) (nI (s.length + 1)) z) A B C)) o 15 ((cf_35_0 o (cf_37_0 o (rdM N o (f4 F (nI S.length) (nI (s.length + 1)) z) A B C)) 0 (rdM N o (f4 F (nI S.length) (nI (s.length + 1)) z) A B C)).1 o 15 - 1) = _
        rw [l2, a2]
        simp only [rd_pI, rd_o, f4_4, f4_15, f4_r15, nIs1]
theorem clo_c : ∀ (s : List Nat) (S : List (Nat × Nat)) (A B : Nat → Int32) (Q : Bool × mz_N → Prop), s.length + S.length ≤ 196 → gst s → stk C id s → wds A B S → (∀ A' B', wds A' B' (clo s S).2 → cp_43_46 o (rdM N o (f4 F (nI (clo s S).2.length) (nI (clo s S).1.length) (nI (nst (clo s S).1))) A' B' C) ∧ Q (cf_43_46 o (rdM N o (f4 F (nI (clo s S).2.length) (nI (clo s S).1.length) (nI (nst (clo s S).1))) A' B' C))) → cp_43_0 o (rdM N o (f4 F (nI S.length) (nI s.length) (nI (nst s))) A B C) ∧ Q (cf_43_0 o (rdM N o (f4 F (nI S.length) (nI s.length) (nI (nst s))) A B C)) := by
  intro s
  induction s with
  | nil =>
    intro S A B Q hl hg hs hw hq
    obtain ⟨q1, q2⟩ := hq A B hw
    refine lp_r (s := rdM N o (f4 F (nI S.length) (nI 0) (nI 0)) A B C) (f := cq_43_0 o) (P := cd_43_0 o) (Q := Q) (t := cf_43_46 o (rdM N o (f4 F (nI S.length) (nI 0) (nI 0)) A B C)) ?_ ?_ q2
    · rw [cd_43_0, rd_o]
      exact ⟨fun q => absurd (show (0 : Int32) < nI 0 from q) (by decide), fun _ => q1⟩
    · rw [cq_43_0, rd_o, f4_r15, if_neg (show ¬ (0 : Int32) < nI 0 by decide)]
  | cons c s ih =>
    intro S A B Q hl hg hs hw hq
    have hl' : s.length + 1 + S.length ≤ 196 := hl
    obtain ⟨l1, l2⟩ := c_lat (N := N) (o := o) (F := f4 F (nI S.length) (nI (s.length + 1)) (nI (nst s + isn c))) (A := A) (B := B) (C := C) (c := c) (l := s.length) rfl (by omega) hs.1
    have pz : (0 : Int32) < nI (s.length + 1) := (nI_gt0 (by omega)).mpr (by omega)
    have hc := oks_lt hg.1
    by_cases w : c = 58
    · have et : clo (c :: s) S = clo s ((63, 0) :: S) := by show (if c = 58 then clo s ((63, 0) :: S) else (c :: s, S)) = _; rw [if_pos w]
      rw [et] at hq
      have hi : isn c = 1 := by rw [w]; rfl
      obtain ⟨a1, a2⟩ := c_add (N := N) (o := o) (F := f4 F (nI S.length) (nI (s.length + 1)) (nI (nst s + isn c))) (A := A) (B := B) (C := C) (a := 63) (b := 0) (k := S.length) rfl (by omega)
      refine lp_l (s := rdM N o (f4 F (nI S.length) (nI (s.length + 1)) (nI (nst s + isn c))) A B C) (f := cq_43_0 o) (P := cd_43_0 o) (Q := Q) (s2 := rdM N o (f4 F (nI (S.length + 1)) (nI s.length) (nI (nst s))) (upd A S.length 63) (upd B S.length 0) C) ?_ ?_ (ih ((63, 0) :: S) (upd A S.length 63) (upd B S.length 0) Q (by show s.length + (S.length + 1) ≤ 196; omega) hg.2.2 hs.2 ⟨by rw [up_a, if_pos rfl]; rfl, by rw [up_a, if_pos rfl]; rfl, wds_up (Nat.le_refl _) hw⟩ hq)
      · rw [cd_43_0]
        refine ⟨fun _ => ⟨l1, fun _ => a1, fun q => absurd (l2.trans (by rw [w]; rfl)) q⟩, fun q => absurd (show (0 : Int32) < nI (s.length + 1) from pz) (by rw [rd_o] at q; exact q)⟩
      · rw [cq_43_0, if_pos (show (0 : Int32) < (rdM N o (f4 F (nI S.length) (nI (s.length + 1)) (nI (nst s + isn c))) A B C).1 o 15 by rw [rd_o]; exact pz), if_pos (show cf_37_0 o (rdM N o (f4 F (nI S.length) (nI (s.length + 1)) (nI (nst s + isn c))) A B C) = 58 from l2.trans (by rw [w]; rfl))]
        show Sum.inl _ = Sum.inl _
        congr 1
        show mz_pI (mz_pI (cf_35_0 o 63 0 (rdM N o (f4 F (nI S.length) (nI (s.length + 1)) (nI (nst s + isn c))) A B C)) o 16 _) o 15 _ = _
        rw [a2, hi]
        simp only [rd_pI, rd_o, f4_4, f4_16, f4_15, f4_r16, f4_r15, nIs1]
    · have et : clo (c :: s) S = (c :: s, S) := by show (if c = 58 then clo s ((63, 0) :: S) else (c :: s, S)) = _; rw [if_neg w]
      rw [et] at hq
      obtain ⟨q1, q2⟩ := hq A B hw
      have nc : ¬ nI c = 58 := fun q => w ((nI_eq (b := 58) (by omega) (by omega)).mp q)
      refine lp_r (s := rdM N o (f4 F (nI S.length) (nI (s.length + 1)) (nI (nst s + isn c))) A B C) (f := cq_43_0 o) (P := cd_43_0 o) (Q := Q) (t := cf_43_46 o (rdM N o (f4 F (nI S.length) (nI (s.length + 1)) (nI (nst s + isn c))) A B C)) ?_ ?_ q2
      · rw [cd_43_0]
        exact ⟨fun _ => ⟨l1, fun q => absurd (l2.symm.trans q) nc, fun _ => q1⟩, fun _ => q1⟩
      · rw [cq_43_0, if_pos (show (0 : Int32) < (rdM N o (f4 F (nI S.length) (nI (s.length + 1)) (nI (nst s + isn c))) A B C).1 o 15 by rw [rd_o]; exact pz), if_neg (show ¬ cf_37_0 o (rdM N o (f4 F (nI S.length) (nI (s.length + 1)) (nI (nst s + isn c))) A B C) = 58 from fun q => nc (l2.symm.trans q))]
end Skc
