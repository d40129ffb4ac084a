/-! THE FLOW (1): walks without fuel. What is known of the locals is a list; the machine's own may know more. C: frames left for callees, the arrays outside, type of the answer, clauses, code, locals, what must hold at the end. -/
abbrev mz_C : Type := Nat × (Nat → Option (Nat × (Nat → Int32))) × Option FieldType × List (Nat × Nat × Nat) × List mz_i × Nat × mz_Q
def mz_Ed (X : Nat → Option (Nat × (Nat → Int32))) (d : Nat) : Nat → List Value → mz_K → mz_Q → Prop := mz_E mz_PG0 X mz_FK0 d
def mz_sub (lv lv2 : List (Nat × Value)) : Prop := ∀ i v, mz_ld lv i = some v → mz_ld lv2 i = some v
def mz_G (C : mz_C) (pc : Nat) (r : List mz_i) (lv : List (Nat × Value)) (st : List Value) (cl : Bool) (K : mz_K) : Prop := mz_sf C.2.2.2.2.1 pc = r → ∀ lv2, mz_sub lv lv2 → ∃ n, mz_W (mz_Ed C.2.1 C.1) C.2.1 mz_FK0 C.2.2.1 C.2.2.2.1 C.2.2.2.2.1 C.2.2.2.2.2.1 C.2.2.2.2.2.2 n pc r lv2 st cl K
theorem mz_sf_zero (code : List mz_i) : mz_sf code 0 = code := by cases code <;> rfl
theorem mz_sf_next : ∀ {code : List mz_i} {q : mz_i} {r : List mz_i} {pc : Nat}, mz_sf code pc = q :: r → 0 < q.2.2.1 → mz_sf code (pc + q.2.2.1) = r := by
  intro code
  induction code with
  | nil => intro q r pc h _; cases h
  | cons z l ih =>
    intro q r pc h hl
    rw [mz_sf] at h
    by_cases h0 : pc = 0
    · rw [if_pos h0] at h
      cases h
      rw [mz_sf, if_neg (by omega), if_neg (by omega), h0, Nat.zero_add, Nat.sub_self, mz_sf_zero]
    · rw [if_neg h0] at h
      by_cases h1 : pc < z.2.2.1
      · rw [if_pos h1] at h; cases h
      · rw [if_neg h1] at h
        have h2 := ih h hl
        rw [mz_sf, if_neg (by omega), if_neg (by omega)]
        rw [show pc + q.2.2.1 - z.2.2.1 = pc - z.2.2.1 + q.2.2.1 by omega]
        exact h2
/-- a tail of the code, from a tail ahead of it -/
theorem mz_sf_add : ∀ {code : List mz_i} {q : mz_i} {r l : List mz_i} {pc t pc2 : Nat}, mz_sf code pc = q :: r → mz_sf (q :: r) t = l → pc + t = pc2 → mz_sf code pc2 = l := by
  intro code
  induction code with
  | nil => intro q r l pc t pc2 h _; cases h
  | cons z c ih =>
    intro q r l pc t pc2 h hl e
    subst e
    rw [mz_sf] at h
    by_cases h0 : pc = 0
    · rw [if_pos h0] at h
      rw [h0, Nat.zero_add]
      cases h
      exact hl
    · rw [if_neg h0] at h
      by_cases h1 : pc < z.2.2.1
      · rw [if_pos h1] at h; cases h
      · rw [if_neg h1] at h
        have h2 := ih h hl rfl
        rw [mz_sf, if_neg (by omega), if_neg (by omega)]
        rw [show pc + t - z.2.2.1 = pc - z.2.2.1 + t by omega]
        exact h2
section Fl2
variable {C : mz_C} {pc : Nat} {r : List mz_i} {lv : List (Nat × Value)} {st : List Value} {cl : Bool} {K : mz_K}
theorem mz_sub_refl (lv : List (Nat × Value)) : mz_sub lv lv := fun _ _ h => h
theorem mz_ld_filter {p : Nat × Value → Bool} {l : List (Nat × Value)} {i : Nat} {v : Value} (h : mz_ld l i = some v) (hp : p (i, v) = true) : mz_ld (l.filter p) i = some v := by
  induction l with
  | nil => cases h
  | cons q l ih =>
    rw [mz_ld] at h
    by_cases e : q.1 = i
    · rw [if_pos e] at h
      have hv : q.2 = v := Option.some.inj h
      have hq : q = (i, v) := by rw [← e, ← hv]
      rw [List.filter_cons, hq, if_pos hp, mz_ld, if_pos rfl]
    · rw [if_neg e] at h
      rw [List.filter_cons]
      split
      · rw [mz_ld, if_neg e]; exact ih h
      · exact ih h
theorem mz_sub_s1 {lv2 : List (Nat × Value)} (h : mz_sub lv lv2) {i : Nat} {v : Value} (hk : ∀ x, i ≠ 0 → mz_ld lv (i - 1) = some x → x.category ≠ 2) : mz_sub ((i, v) :: lv) (mz_s1 lv2 i v) := by
  intro k x hx
  rw [mz_ld] at hx
  unfold mz_s1
  rw [mz_ld]
  by_cases e : i = k
  · rw [if_pos e] at hx ⊢; exact hx
  · rw [if_neg e] at hx ⊢
    refine mz_ld_filter (h k x hx) ?_
    have e' : k ≠ i := fun z => e z.symm
    by_cases e2 : k + 1 = i
    · have h3 : x.category ≠ 2 := hk x (by omega) (by rw [show i - 1 = k by omega]; exact hx)
      simp [e', h3]
    · simp [e', e2]
theorem mz_sub_s2 {lv2 : List (Nat × Value)} (h : mz_sub lv lv2) {i : Nat} {v : Value} (hk : ∀ x, i ≠ 0 → mz_ld lv (i - 1) = some x → x.category ≠ 2) (hk2 : mz_ld lv (i + 1) = none) : mz_sub ((i, v) :: lv) (mz_s2 lv2 i v) := by
  intro k x hx
  rw [mz_ld] at hx
  unfold mz_s2
  rw [mz_ld]
  by_cases e : i = k
  · rw [if_pos e] at hx ⊢; exact hx
  · rw [if_neg e] at hx ⊢
    refine mz_ld_filter (h k x hx) ?_
    have e' : k ≠ i := fun z => e z.symm
    have e1 : k ≠ i + 1 := fun z => by rw [z, hk2] at hx; cases hx
    by_cases e2 : k + 1 = i
    · have h3 : x.category ≠ 2 := hk x (by omega) (by rw [show i - 1 = k by omega]; exact hx)
      simp [e', e1, h3]
    · simp [e', e1, e2]
/-- all of a list is known -/
def mz_kn (lv : List (Nat × Value)) : List (Nat × Value) → Prop
  | [] => True
  | q :: r => mz_ld lv q.1 = some q.2 ∧ mz_kn lv r
theorem mz_kn_sub {lv : List (Nat × Value)} : ∀ {lv' : List (Nat × Value)}, mz_kn lv lv' → mz_sub lv' lv := by
  intro lv'
  induction lv' with
  | nil => intro _ i v h; cases h
  | cons q r ih =>
    intro h i v hv
    rw [mz_ld] at hv
    by_cases e : q.1 = i
    · rw [if_pos e] at hv
      rw [← e, h.1]; exact hv
    · rw [if_neg e] at hv
      exact ih h.2 i v hv
theorem g_weak {lv' : List (Nat × Value)} (h : mz_kn lv lv') (k : mz_G C pc r lv' st cl K) : mz_G C pc r lv st cl K := fun hs lv2 h2 => k hs lv2 fun i v hv => h2 i v (mz_kn_sub h i v hv)
theorem g_st {ins : Instr} {len a b : Nat} {c : Value} {st' : List Value} (hl : 0 < len) (h : ∀ lv, mz_pu C.2.2.2.2.2.1 ins lv st = some (lv, st')) (k : mz_G C (pc + len) r lv st' cl K) : mz_G C pc ((0, ins, len, a, b, c) :: r) lv st cl K := by
  intro hs lv2 h2
  obtain ⟨n, hn⟩ := k (mz_sf_next hs hl) lv2 h2
  refine ⟨n + 1, ?_⟩
  unfold mz_W
  simp only [h]
  exact hn
theorem g_pl {ins : Instr} {len a b : Nat} {c : Value} {st' : List Value} {lv' : List (Nat × Value)} (hl : 0 < len) (h : ∀ lv2, mz_sub lv lv2 → ∃ lv3, mz_pu C.2.2.2.2.2.1 ins lv2 st = some (lv3, st') ∧ mz_sub lv' lv3) (k : mz_G C (pc + len) r lv' st' cl K) : mz_G C pc ((0, ins, len, a, b, c) :: r) lv st cl K := by
  intro hs lv2 h2
  obtain ⟨lv3, h3, h4⟩ := h lv2 h2
  obtain ⟨n, hn⟩ := k (mz_sf_next hs hl) lv3 h4
  refine ⟨n + 1, ?_⟩
  unfold mz_W
  simp only [h3]
  exact hn
/-- a walk that is not clean will do -/
theorem mz_W_cl {E : Nat → List Value → mz_K → mz_Q → Prop} {X : Nat → Option (Nat × (Nat → Int32))} {FK : Nat → List Nat} {ret : Option FieldType} {hs : List (Nat × Nat × Nat)} {code : List mz_i} {nL : Nat} {Q : mz_Q} : ∀ (n pc : Nat) (r : List mz_i) (lv : List (Nat × Value)) (st : List Value) (K : mz_K), mz_W E X FK ret hs code nL Q n pc r lv st false K → mz_W E X FK ret hs code nL Q n pc r lv st true K := by
  intro n
  induction n with
  | zero => intro pc r lv st K h; exact absurd h (by unfold mz_W; exact id)
  | succ n ih =>
    intro pc r lv st K h
    cases r with
    | nil => exact absurd h (by unfold mz_W; exact id)
    | cons q r =>
      unfold mz_W at h ⊢
      split at h
      · skip
        split at h
        · rename_i a ha
          exact ih _ _ _ _ _ h
        · exact absurd h id
      · skip
        split at h
        · rename_i a ha
          exact ih _ _ _ _ _ h
        · exact absurd h id
      · skip
        split at h
        · rename_i a ha
          exact ih _ _ _ _ _ h
        · exact absurd h id
      · skip
        exact ih _ _ _ _ _ h
      · skip
        exact h
      · skip
        exact h
      · skip
        exact h
      · skip
        exact absurd h.1 (by decide)
      · skip
        exact h
      · skip
        exact ih _ _ _ _ _ h
      · skip
        exact h
      · skip
        exact h
      · skip
        exact h
      · skip
        split at h
        · exact ⟨h.1, ih _ _ _ _ _ h.2⟩
        · exact absurd h id
      · skip
        exact h
      · skip
        exact h
      · skip
        exact ih _ _ _ _ _ h
      · skip
        exact h
      · exact absurd h id
theorem g_cl (k : mz_G C pc r lv st false K) : mz_G C pc r lv st cl K := by
  intro hs lv2 h2
  obtain ⟨n, hn⟩ := k hs lv2 h2
  cases cl
  · exact ⟨n, hn⟩
  · exact ⟨n, mz_W_cl _ _ _ _ _ _ hn⟩
end Fl2
