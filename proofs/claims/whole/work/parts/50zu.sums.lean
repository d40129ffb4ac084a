/-! PURE (50zu): sums over a space; whole parts downwards. -/
/-- what the cells of a space have together -/
def ts (e : Nat → Nat) (w : Nat → Int64) (k : Nat) : Int64 := sL (fun c => if pl_in e k c = true then w c else 0) 240
theorem cnt_ex {p : Nat → Bool} : ∀ {n i : Nat}, i < cnt p n → ∃ c, c < n ∧ p c = true ∧ cnt p c = i := by
  intro n
  induction n with
  | zero => intro i h; exact absurd h (Nat.not_lt_zero _)
  | succ n ih =>
    intro i h
    by_cases hp : p n = true
    · rw [cnt_s hp] at h
      by_cases w : i < cnt p n
      · obtain ⟨c, a, b, d⟩ := ih w
        exact ⟨c, by omega, b, d⟩
      · exact ⟨n, by omega, hp, by omega⟩
    · rw [cnt_sn (by simpa using hp)] at h
      obtain ⟨c, a, b, d⟩ := ih h
      exact ⟨c, by omega, b, d⟩
/-- what sums need of the class's plan -/
def c_sm (e : Nat → Nat) (N : mz_N) : Prop := (∀ k, k < pl_n e → N.1 19 k = nI (pl_sz e k) ∧ N.1 28 k = nI (pl_st e k)) ∧ ∀ c, c < 240 → N.1 30 (pl_ps e c) = nI c
theorem inlp {α β γ : Type} {x : α} {a b : β} (h : a = b) : (Sum.inl (x, a) : (α × β) ⊕ γ) = Sum.inl (x, b) := by rw [h]
section Sms
variable {N : mz_N} {e : Nat → Nat} {k : Nat}
theorem en_c (hs : c_sm e N) (hk : k < pl_n e) {i : Nat} (hi : i < pl_sz e k) : ∃ c, c < 240 ∧ pl_lab e c = k ∧ cnt (pl_in e k) c = i ∧ N.1 30 (pl_st e k + i) = nI c := by
  obtain ⟨c, a, b, d⟩ := cnt_ex (p := pl_in e k) (n := 240) hi
  have hl : pl_lab e c = k := by unfold pl_in at b; simpa using b
  refine ⟨c, a, hl, d, ?_⟩
  have h := hs.2 c a
  unfold pl_ps at h
  rw [hl, d] at h
  exact h
theorem sum_c {a2 : Nat} (hn : pl_n e ≤ 40) (hs : c_sm e N) (hk : k < pl_n e) : cp_158_0 a2 (nI k) N ∧ cf_158_0 a2 (nI k) N = ts e (N.2 a2) k := by
  obtain ⟨s1, s2⟩ := hs.1 k hk
  have hz := pl_sz_le hk
  have ik : mz_ib (nI k) 40 := ib_n (by omega) (by omega)
  have g19 : mz_gI N 19 (nI k) = nI (pl_sz e k) := by rw [gI_a, nI_clamp (by omega)]; exact s1
  have g28 : mz_gI N 28 (nI k) = nI (pl_st e k) := by rw [gI_a, nI_clamp (by omega)]; exact s2
  have ge : ∀ i, i < pl_sz e k → mz_ib (nI (pl_st e k + i)) 240 ∧ mz_ib (mz_gI N 30 (nI (pl_st e k + i))) 240 ∧ mz_gL N a2 (mz_gI N 30 (nI (pl_st e k + i))) = N.2 a2 ((N.1 30 (pl_st e k + i)).toNatClampNeg) := fun i hi => by
    obtain ⟨c, c1, c2, c3, c4⟩ := en_c hs hk hi
    have e1 : mz_gI N 30 (nI (pl_st e k + i)) = nI c := by rw [gI_a, nI_clamp (by omega)]; exact c4
    refine ⟨ib_n (by omega) (by omega), by rw [e1]; exact ib_n c1 (by omega), ?_⟩
    rw [e1, gL_a, c4]
  rw [cp_158_0, cf_158_0, g28]
  have el : sL (fun i => N.2 a2 ((N.1 30 (pl_st e k + i)).toNatClampNeg)) (pl_sz e k) = ts e (N.2 a2) k := by
    refine sL_list (p := pl_in e k) (g := fun i => (N.1 30 (pl_st e k + i)).toNatClampNeg) (a := N.2 a2) (m := 240) (fun c hc hp => ?_) (Nat.le_refl _)
    have hl : pl_lab e c = k := by unfold pl_in at hp; simpa using hp
    have h := hs.2 c hc
    unfold pl_ps at h
    rw [hl] at h
    show (N.1 30 (pl_st e k + cnt (pl_in e k) c)).toNatClampNeg = c
    rw [h, nI_clamp (by omega)]
  have h := mz_lps (f := cq_158_17 a2 (nI k) (nI (pl_st e k)) N) (P := cd_158_17 a2 (nI k) (nI (pl_st e k)) N) (t := ts e (N.2 a2) k) (pl_sz e k) (fun i => (sL (fun i => N.2 a2 ((N.1 30 (pl_st e k + i)).toNatClampNeg)) i, nI i)) (fun i hi => ?_) ?_ (Nat.zero_le _)
  · exact ⟨⟨ik, h.1⟩, h.2⟩
  · obtain ⟨i1, i2, i3⟩ := ge i hi
    have l : nI i < nI (pl_sz e k) := (nI_ltI (by omega) (by omega)).mpr hi
    rw [cd_158_17, cq_158_17]
    simp only [g19, nI_add, l, if_true, i3, nI_1]
    exact ⟨⟨ik, fun _ => ⟨i1, i2⟩, fun q => absurd trivial q⟩, rfl⟩
  · have l : ¬ nI (pl_sz e k) < nI (pl_sz e k) := fun q => by have := (nI_ltI (by omega) (by omega)).mp q; omega
    rw [cd_158_17, cq_158_17]
    simp only [g19, l, if_false]
    exact ⟨⟨ik, False.elim, fun _ => trivial⟩, by rw [el]⟩
theorem sum_r {a1 : Nat} (h35 : ∀ c, c < 240 → N.1 235 c = nI (pl_lab e c)) (hk : k < 240) : cp_488_0 a1 (nI k) N ∧ cf_488_0 a1 (nI k) N = ts e (N.2 a1) k := by
  have h := mz_lps (f := cq_488_5 a1 (nI k) N) (P := cd_488_5 a1 (nI k) N) (t := ts e (N.2 a1) k) 240 (fun i => (sL (fun c => if pl_in e k c = true then N.2 a1 c else 0) i, nI i)) (fun i hi => ?_) ?_ (Nat.zero_le _)
  · exact h
  · have l : nI i < 240 := (nI_ltI (b := 240) (by omega) (by omega)).mpr hi
    have i1 : mz_ib (nI i) 240 := ib_n (by omega) (by omega)
    have g : mz_gI N 235 (nI i) = nI (pl_lab e i) := by rw [gI_a, nI_clamp (by omega)]; exact h35 i hi
    have gl : mz_gL N a1 (nI i) = N.2 a1 i := by rw [gL_a, nI_clamp (by omega)]
    have hb := pl_lab_lt (e := e) hi
    have hb2 := pl_n_le e
    rw [cd_488_5, cq_488_5]
    simp only [l, if_true, g, gl]
    by_cases w : pl_lab e i = k
    · have w' : nI (pl_lab e i) = nI k := by rw [w]
      rw [if_pos w', cf_488_33, nI_1]
      refine ⟨⟨fun _ => ⟨i1, fun _ => ⟨i1, trivial⟩, fun _ => trivial⟩, fun _ => trivial⟩, ?_⟩
      rw [sL, if_pos (by unfold pl_in; simpa using w)]
    · have w' : ¬ nI (pl_lab e i) = nI k := fun q => w ((nI_eq (by omega) (by omega)).mp q)
      rw [if_neg w', cf_488_33, nI_1]
      refine ⟨⟨fun _ => ⟨i1, fun _ => ⟨i1, trivial⟩, fun _ => trivial⟩, fun _ => trivial⟩, ?_⟩
      rw [sL, if_neg (by unfold pl_in; simpa using w)]
  · rw [cd_488_5, cq_488_5]
    exact ⟨⟨fun q => absurd q (show ¬ nI 240 < 240 by decide), fun _ => trivial⟩, by rw [if_neg (show ¬ (nI 240 : Int32) < 240 by decide)]; rfl⟩
/-- adding into an array by the labels -/
theorem sL_step {w : Nat → Int64} {f0 : Nat → Int64} {i j : Nat} (hl : pl_lab e i = j) : ∀ k, vp_updL (fun k => f0 k + sL (fun c => if pl_in e k c = true then w c else 0) i) j ((f0 j + sL (fun c => if pl_in e j c = true then w c else 0) i) + w i) k = f0 k + sL (fun c => if pl_in e k c = true then w c else 0) (i + 1) := by
  intro k
  rw [upL_a, sL]
  by_cases q : k = j
  · rw [if_pos q, q, if_pos (by unfold pl_in; simpa using hl), Int64.add_assoc]
  · rw [if_neg q, if_neg (by unfold pl_in; rw [hl]; simpa using (fun z => q z.symm)), Int64.add_zero]
theorem gat_r {a1 a2 n2 : Nat} (h7 : N.1 232 7 = nI (pl_n e)) (h35 : ∀ c, c < 240 → N.1 235 c = nI (pl_lab e c)) (hn : pl_n e ≤ n2) (hn2 : n2 < 2 ^ 31) (ha : a1 ≠ a2) : cp_525_0 a1 a2 n2 N ∧ ∃ f, cf_525_0 a1 a2 n2 N = mz_sL N a2 f ∧ ∀ k, k < pl_n e → f k = ts e (N.2 a1) k := by
  have hb2 := pl_n_le e
  have two : ∀ f0 : Nat → Int64, cp_525_22 a1 a2 n2 0 (mz_sL N a2 f0) ∧ cf_525_22 a1 a2 n2 0 (mz_sL N a2 f0) = mz_sL N a2 (fun k => f0 k + ts e (N.2 a1) k) := fun f0 => by
    have e0 : mz_sL N a2 f0 = mz_sL N a2 (fun k => f0 k + sL (fun c => if pl_in e k c = true then N.2 a1 c else 0) 0) := by
      exact congrArg (mz_sL N a2) (funext fun k => (Int64.add_zero _).symm)
    have h := mz_lps (f := cq_525_22 a1 a2 n2) (P := cd_525_22 a1 a2 n2) (t := mz_sL N a2 (fun k => f0 k + ts e (N.2 a1) k)) 240 (fun i => (nI i, mz_sL N a2 (fun k => f0 k + sL (fun c => if pl_in e k c = true then N.2 a1 c else 0) i))) (fun i hi => ?_) ?_ (Nat.zero_le _)
    · rw [cp_525_22, cf_525_22, e0]
      exact h
    · have l : nI i < 240 := (nI_ltI (b := 240) (by omega) (by omega)).mpr hi
      have hb := pl_lab_lt (e := e) hi
      have i1 : mz_ib (nI i) 240 := ib_n (by omega) (by omega)
      have i2 : mz_ib (nI (pl_lab e i)) n2 := ib_n (by omega) hn2
      have g : ∀ f, mz_gI (mz_sL N a2 f) 235 (nI i) = nI (pl_lab e i) := fun f => by rw [gI_a, sL_1, nI_clamp (by omega)]; exact h35 i hi
      have gl : ∀ f, mz_gL (mz_sL N a2 f) a1 (nI i) = N.2 a1 i := fun f => by rw [gL_a, sL_n ha, nI_clamp (by omega)]
      rw [cd_525_22, cq_525_22]
      simp only [l, if_true, g, gl, cf_525_43, nI_1]
      refine ⟨⟨fun _ => ⟨i1, i2, i1, i2, trivial⟩, fun _ => trivial⟩, ?_⟩
      refine inlp ?_
      rw [wL_s, sL_e, sL_sL, gL_a, sL_e, nI_clamp (by omega)]
      refine congrArg (mz_sL N a2) (funext fun k => ?_)
      exact sL_step rfl k
    · rw [cd_525_22, cq_525_22]
      exact ⟨⟨fun q => absurd q (show ¬ nI 240 < 240 by decide), fun _ => trivial⟩, by rw [if_neg (show ¬ (nI 240 : Int32) < 240 by decide)]; rfl⟩
  have h := mz_lps (f := cq_525_2 a1 a2 n2) (P := cd_525_2 a1 a2 n2) (t := mz_sL N a2 (fun k => (if k < pl_n e then 0 else N.2 a2 k) + ts e (N.2 a1) k)) (pl_n e) (fun i => (nI i, mz_sL N a2 (fun k => if k < i then 0 else N.2 a2 k))) (fun i hi => ?_) ?_ (Nat.zero_le _)
  · refine ⟨?_, fun k => (if k < pl_n e then 0 else N.2 a2 k) + ts e (N.2 a1) k, ?_, fun k hk => ?_⟩
    · have e0 : mz_sL N a2 (fun k => if k < 0 then 0 else N.2 a2 k) = N := by
        rw [show (fun k => if k < 0 then (0 : Int64) else N.2 a2 k) = N.2 a2 from funext fun k => if_neg (Nat.not_lt_zero k), sL_same]
      have h1 := h.1
      rw [e0] at h1
      exact h1
    · have e0 : mz_sL N a2 (fun k => if k < 0 then 0 else N.2 a2 k) = N := by
        rw [show (fun k => if k < 0 then (0 : Int64) else N.2 a2 k) = N.2 a2 from funext fun k => if_neg (Nat.not_lt_zero k), sL_same]
      have h1 := h.2
      rw [e0] at h1
      exact h1
    · show (if k < pl_n e then 0 else N.2 a2 k) + ts e (N.2 a1) k = _
      rw [if_pos hk, Int64.zero_add]
  · have l : nI i < nI (pl_n e) := (nI_ltI (by omega) (by omega)).mpr hi
    have i2 : mz_ib (nI i) n2 := ib_n (by omega) hn2
    rw [cd_525_2, cq_525_2]
    simp only [sL_1, h7, l, if_true, nI_1]
    refine ⟨⟨fun _ => i2, fun q => absurd trivial q⟩, ?_⟩
    refine inlp ?_
    rw [wL_s, sL_e, sL_sL, nI_clamp (by omega)]
    refine congrArg (mz_sL N a2) (funext fun k => ?_)
    rw [upL_a]
    by_cases q : k = i
    · rw [if_pos q, if_pos (by omega)]
    · rw [if_neg q]
      by_cases q2 : k < i
      · rw [if_pos q2, if_pos (by omega)]
      · rw [if_neg q2, if_neg (by omega)]
  · have l : ¬ nI (pl_n e) < nI (pl_n e) := fun q => by have := (nI_ltI (by omega) (by omega)).mp q; omega
    obtain ⟨t1, t2⟩ := two (fun k => if k < pl_n e then 0 else N.2 a2 k)
    rw [cd_525_2, cq_525_2]
    simp only [sL_1, h7, l, if_false]
    exact ⟨⟨False.elim, fun _ => t1⟩, by rw [t2]⟩
theorem sma_r {a1 : Nat} (h7 : N.1 232 7 = nI (pl_n e)) (h35 : ∀ c, c < 240 → N.1 235 c = nI (pl_lab e c)) (ha : a1 ≠ 340) : cp_513_0 a1 N ∧ ∃ f, cf_513_0 a1 N = mz_sL N 340 f ∧ ∀ k, k < pl_n e → f k = ts e (N.2 a1) k := by
  have hb2 := pl_n_le e
  have two : ∀ f0 : Nat → Int64, cp_513_25 a1 0 (mz_sL N 340 f0) ∧ cf_513_25 a1 0 (mz_sL N 340 f0) = mz_sL N 340 (fun k => f0 k + ts e (N.2 a1) k) := fun f0 => by
    have e0 : mz_sL N 340 f0 = mz_sL N 340 (fun k => f0 k + sL (fun c => if pl_in e k c = true then N.2 a1 c else 0) 0) := by
      exact congrArg (mz_sL N 340) (funext fun k => (Int64.add_zero _).symm)
    have h := mz_lps (f := cq_513_25 a1) (P := cd_513_25 a1) (t := mz_sL N 340 (fun k => f0 k + ts e (N.2 a1) k)) 240 (fun i => (nI i, mz_sL N 340 (fun k => f0 k + sL (fun c => if pl_in e k c = true then N.2 a1 c else 0) i))) (fun i hi => ?_) ?_ (Nat.zero_le _)
    · rw [cp_513_25, cf_513_25, e0]
      exact h
    · have l : nI i < 240 := (nI_ltI (b := 240) (by omega) (by omega)).mpr hi
      have hb := pl_lab_lt (e := e) hi
      have i1 : mz_ib (nI i) 240 := ib_n (by omega) (by omega)
      have i2 : mz_ib (nI (pl_lab e i)) 240 := ib_n (by omega) (by omega)
      have lp : ¬ nI (pl_lab e i) < 0 := nI_pos (by omega)
      have g : ∀ f, mz_gI (mz_sL N 340 f) 235 (nI i) = nI (pl_lab e i) := fun f => by rw [gI_a, sL_1, nI_clamp (by omega)]; exact h35 i hi
      have gl : ∀ f, mz_gL (mz_sL N 340 f) a1 (nI i) = N.2 a1 i := fun f => by rw [gL_a, sL_n ha, nI_clamp (by omega)]
      rw [cd_513_25, cq_513_25]
      simp only [l, if_true, g, gl, lp, if_false, cf_513_58, nI_1]
      refine ⟨⟨fun _ => ⟨i1, False.elim, fun _ => ⟨i1, i2, i1, i2, trivial⟩⟩, fun _ => trivial⟩, ?_⟩
      refine inlp ?_
      rw [wL_s, sL_e, sL_sL, gL_a, sL_e, nI_clamp (by omega)]
      refine congrArg (mz_sL N 340) (funext fun k => ?_)
      exact sL_step rfl k
    · rw [cd_513_25, cq_513_25]
      exact ⟨⟨fun q => absurd q (show ¬ nI 240 < 240 by decide), fun _ => trivial⟩, by rw [if_neg (show ¬ (nI 240 : Int32) < 240 by decide)]; rfl⟩
  have h := mz_lps (f := cq_513_2 a1) (P := cd_513_2 a1) (t := mz_sL N 340 (fun k => (if k < pl_n e then 0 else N.2 340 k) + ts e (N.2 a1) k)) (pl_n e) (fun i => (nI i, mz_sL N 340 (fun k => if k < i then 0 else N.2 340 k))) (fun i hi => ?_) ?_ (Nat.zero_le _)
  · have e0 : mz_sL N 340 (fun k => if k < 0 then 0 else N.2 340 k) = N := by
      rw [show (fun k => if k < 0 then (0 : Int64) else N.2 340 k) = N.2 340 from funext fun k => if_neg (Nat.not_lt_zero k), sL_same]
    rw [e0] at h
    refine ⟨h.1, fun k => (if k < pl_n e then 0 else N.2 340 k) + ts e (N.2 a1) k, h.2, fun k hk => ?_⟩
    show (if k < pl_n e then 0 else N.2 340 k) + ts e (N.2 a1) k = _
    rw [if_pos hk, Int64.zero_add]
  · have l : nI i < nI (pl_n e) := (nI_ltI (by omega) (by omega)).mpr hi
    have i2 : mz_ib (nI i) 240 := ib_n (by omega) (by omega)
    rw [cd_513_2, cq_513_2]
    simp only [sL_1, h7, l, if_true, nI_1]
    refine ⟨⟨fun _ => i2, fun q => absurd trivial q⟩, ?_⟩
    refine inlp ?_
    rw [wL_s, sL_e, sL_sL, nI_clamp (by omega)]
    refine congrArg (mz_sL N 340) (funext fun k => ?_)
    rw [upL_a]
    by_cases q : k = i
    · rw [if_pos q, if_pos (by omega)]
    · rw [if_neg q]
      by_cases q2 : k < i
      · rw [if_pos q2, if_pos (by omega)]
      · rw [if_neg q2, if_neg (by omega)]
  · have l : ¬ nI (pl_n e) < nI (pl_n e) := fun q => by have := (nI_ltI (by omega) (by omega)).mp q; omega
    obtain ⟨t1, t2⟩ := two (fun k => if k < pl_n e then 0 else N.2 340 k)
    rw [cd_513_2, cq_513_2]
    simp only [sL_1, h7, l, if_false]
    exact ⟨⟨False.elim, fun _ => t1⟩, by rw [t2]⟩
end Sms
