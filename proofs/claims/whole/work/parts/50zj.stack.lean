/-! PURE (50zj): the parser's stack and steps, as lists (the top, the last first). -/
def stn (c : Nat) : Nat := if c = 42 then 3 else if c = 43 then 2 else if c = 45 then 2 else if c = 60 then 1 else if c = 62 then 1 else 0
def isn (c : Nat) : Nat := if c = 3 ∨ c = 40 ∨ c = 63 ∨ c = 58 then 1 else 0
def nst : List Nat → Nat
  | [] => 0
  | c :: s => nst s + isn c
def stk (C : Nat → Int32) (g : Nat → Nat) : List Nat → Prop
  | [] => True
  | c :: s => C s.length = nI (g c) ∧ stk C g s
def wds (A B : Nat → Int32) : List (Nat × Nat) → Prop
  | [] => True
  | x :: S => A S.length = nI x.1 ∧ B S.length = nI x.2 ∧ wds A B S
/-- assignments, other steps -/
def na : List (Nat × Nat) → Nat
  | [] => 0
  | x :: S => if x.1 = 2 then na S + 1 else na S
def nw : List (Nat × Nat) → Nat
  | [] => 0
  | x :: S => if x.1 = 2 then nw S else nw S + 1
/-- the reference's words for a thing on the stack, for a step -/
def rk (c : Nat) : Nat := if c = 3 then 1 else if c = 63 then 2 else if c = 58 then 3 else c
def rz (c : Nat) : Nat := if c = 3 then 2 else if c = 63 then 3 else c
def rws (W V E G : Nat → Int32) : List (Nat × Nat) → Prop
  | [] => True
  | x :: S => (x.1 = 2 → G (na S) = nI x.2 ∧ E (na S) = nI (nw S)) ∧ (x.1 ≠ 2 → W (nw S) = nI (rz x.1) ∧ V (nw S) = nI x.2) ∧ rws W V E G S
def oks (c : Nat) : Prop := c = 3 ∨ c = 63 ∨ c = 58 ∨ c = 40 ∨ c = 42 ∨ c = 43 ∨ c = 45 ∨ c = 60 ∨ c = 62
def gst : List Nat → Prop
  | [] => True
  | c :: s => oks c ∧ (c = 63 ∨ c = 58 → stn (s.headD 0) = 0) ∧ gst s
def tb : List Nat → List (Nat × Nat) → List Nat × List (Nat × Nat)
  | [], S => ([], S)
  | c :: s, S => if c = 3 then tb s ((3, 0) :: S) else (c :: s, S)
def stl (f : Nat) : List Nat → List (Nat × Nat) → List Nat × List (Nat × Nat)
  | [], S => ([], S)
  | c :: s, S => if stn c < f then (c :: s, S) else stl f s ((c, 0) :: S)
def clo : List Nat → List (Nat × Nat) → List Nat × List (Nat × Nat)
  | [], S => ([], S)
  | c :: s, S => if c = 58 then clo s ((63, 0) :: S) else (c :: s, S)
theorem nanw : ∀ S, na S + nw S = S.length := by
  intro S
  induction S with
  | nil => rfl
  | cons x S ih =>
    show (if x.1 = 2 then na S + 1 else na S) + (if x.1 = 2 then nw S else nw S + 1) = S.length + 1
    by_cases w : x.1 = 2
    · rw [if_pos w, if_pos w]; omega
    · rw [if_neg w, if_neg w]; omega
theorem fm_c : ∀ c, c < 64 → cf_41_0 (nI c) = nI (stn c) := by decide +kernel
theorem fm_r : ∀ c, c < 64 → cf_456_0 (nI (rk c)) = nI (stn c) := by decide +kernel
theorem fm_r0 : ∀ c, c < 128 → cf_456_0 (nI c) = nI (stn c) := by decide +kernel
theorem fm_c0 : ∀ c, c < 128 → cf_41_0 (nI c) = nI (stn c) := by decide +kernel
theorem nn_r : ∀ c, c < 64 → (c = 3 ∨ c = 63 ∨ c = 58 ∨ c = 40 ∨ c = 42 ∨ c = 43 ∨ c = 45 ∨ c = 60 ∨ c = 62) → cf_453_0 (nI (rk c)) = decide (isn c = 1) := by decide +kernel
theorem oks_lt {c : Nat} (h : oks c) : c < 64 := by unfold oks at h; omega
theorem stn_le (c : Nat) : stn c ≤ 3 := by unfold stn; repeat' split <;> try omega
section Stk
variable {C : Nat → Int32} {g : Nat → Nat} {A B W V E G : Nat → Int32}
theorem stk_up {k : Nat} {v : Int32} : ∀ {s : List Nat}, s.length ≤ k → stk C g s → stk (upd C k v) g s := by
  intro s
  induction s with
  | nil => intro _ _; trivial
  | cons c s ih =>
    intro h1 h2
    have h1' : s.length + 1 ≤ k := h1
    exact ⟨by rw [up_a, if_neg (by omega)]; exact h2.1, ih (by omega) h2.2⟩
theorem wds_up {k : Nat} {v w : Int32} : ∀ {S : List (Nat × Nat)}, S.length ≤ k → wds A B S → wds (upd A k v) (upd B k w) S := by
  intro s
  induction s with
  | nil => intro _ _; trivial
  | cons c s ih =>
    intro h1 h2
    have h1' : s.length + 1 ≤ k := h1
    exact ⟨by rw [up_a, if_neg (by omega)]; exact h2.1, by rw [up_a, if_neg (by omega)]; exact h2.2.1, ih (by omega) h2.2.2⟩
theorem rws_up {k : Nat} {v w : Int32} : ∀ {S : List (Nat × Nat)}, nw S ≤ k → rws W V E G S → rws (upd W k v) (upd V k w) E G S := by
  intro s
  induction s with
  | nil => intro _ _; trivial
  | cons c s ih =>
    intro h1 h2
    have h1' : (if c.1 = 2 then nw s else nw s + 1) ≤ k := h1
    refine ⟨h2.1, fun q => ?_, ih (by split at h1' <;> omega) h2.2.2⟩
    rw [if_neg q] at h1'
    exact ⟨by rw [up_a, if_neg (by omega)]; exact (h2.2.1 q).1, by rw [up_a, if_neg (by omega)]; exact (h2.2.1 q).2⟩
theorem rws_up2 {k : Nat} {v w : Int32} : ∀ {S : List (Nat × Nat)}, na S ≤ k → rws W V E G S → rws W V (upd E k v) (upd G k w) S := by
  intro s
  induction s with
  | nil => intro _ _; trivial
  | cons c s ih =>
    intro h1 h2
    have h1' : (if c.1 = 2 then na s + 1 else na s) ≤ k := h1
    refine ⟨fun q => ?_, h2.2.1, ih (by split at h1' <;> omega) h2.2.2⟩
    rw [if_pos q] at h1'
    exact ⟨by rw [up_a, if_neg (by omega)]; exact (h2.1 q).1, by rw [up_a, if_neg (by omega)]; exact (h2.1 q).2⟩
/-- what the three foldings keep -/
def fok (s : List Nat) (S : List (Nat × Nat)) (r : List Nat × List (Nat × Nat)) : Prop := r.1.length + r.2.length = s.length + S.length ∧ gst r.1 ∧ na r.2 = na S ∧ (∀ C g, stk C g s → stk C g r.1) ∧ r.1.length ≤ s.length
theorem tb_ok : ∀ s S, gst s → fok s S (tb s S) ∧ (tb s S).1.headD 0 ≠ 3 := by
  intro s
  induction s with
  | nil => intro S h; exact ⟨⟨rfl, trivial, rfl, fun _ _ h => h, Nat.le_refl _⟩, (by decide : (0 : Nat) ≠ 3)⟩
  | cons c s ih =>
    intro S h
    show fok (c :: s) S (if c = 3 then tb s ((3, 0) :: S) else (c :: s, S)) ∧ (if c = 3 then tb s ((3, 0) :: S) else (c :: s, S)).1.headD 0 ≠ 3
    by_cases w : c = 3
    · rw [if_pos w]
      obtain ⟨⟨a, b, d, e, e2⟩, f⟩ := ih ((3, 0) :: S) h.2.2
      exact ⟨⟨by rw [a]; show s.length + (S.length + 1) = s.length + 1 + S.length; omega, b, d, fun C g k => e C g k.2, by show _ ≤ s.length + 1; omega⟩, f⟩
    · rw [if_neg w]
      exact ⟨⟨rfl, h, rfl, fun _ _ k => k, Nat.le_refl _⟩, w⟩
theorem stl_ok {f : Nat} (hf : 1 ≤ f) : ∀ s S, gst s → fok s S (stl f s S) ∧ stn ((stl f s S).1.headD 0) < f ∧ nst (stl f s S).1 = nst s := by
  intro s
  induction s with
  | nil => intro S h; exact ⟨⟨rfl, trivial, rfl, fun _ _ h => h, Nat.le_refl _⟩, by show stn 0 < f; unfold stn; simp; omega, rfl⟩
  | cons c s ih =>
    intro S h
    show fok (c :: s) S (if stn c < f then (c :: s, S) else stl f s ((c, 0) :: S)) ∧ stn ((if stn c < f then (c :: s, S) else stl f s ((c, 0) :: S)).1.headD 0) < f ∧ nst (if stn c < f then (c :: s, S) else stl f s ((c, 0) :: S)).1 = nst s + isn c
    by_cases w : stn c < f
    · rw [if_pos w]
      exact ⟨⟨rfl, h, rfl, fun _ _ k => k, Nat.le_refl _⟩, w, rfl⟩
    · rw [if_neg w]
      obtain ⟨⟨a, b, d, e, e2⟩, z, z2⟩ := ih ((c, 0) :: S) h.2.2
      have hc := h.1
      have h0 : c ≠ 2 ∧ isn c = 0 := by
        unfold oks at hc
        rcases hc with rfl | rfl | rfl | rfl | rfl | rfl | rfl | rfl | rfl
        · exact absurd (show stn 3 < f from hf) w
        · exact absurd (show stn 63 < f from hf) w
        · exact absurd (show stn 58 < f from hf) w
        · exact absurd (show stn 40 < f from hf) w
        all_goals exact ⟨by decide, rfl⟩
      refine ⟨⟨by rw [a]; show s.length + (S.length + 1) = s.length + 1 + S.length; omega, b, ?_, fun C g k => e C g k.2, by show _ ≤ s.length + 1; omega⟩, z, by rw [z2, h0.2, Nat.add_zero]⟩
      rw [d]
      show (if c = 2 then na S + 1 else na S) = na S
      rw [if_neg h0.1]
theorem clo_ok : ∀ s S, gst s → fok s S (clo s S) ∧ (clo s S).1.headD 0 ≠ 58 ∧ (stn (s.headD 0) = 0 → stn ((clo s S).1.headD 0) = 0) := by
  intro s
  induction s with
  | nil => intro S h; exact ⟨⟨rfl, trivial, rfl, fun _ _ h => h, Nat.le_refl _⟩, (by decide : (0 : Nat) ≠ 58), fun h => h⟩
  | cons c s ih =>
    intro S h
    show fok (c :: s) S (if c = 58 then clo s ((63, 0) :: S) else (c :: s, S)) ∧ (if c = 58 then clo s ((63, 0) :: S) else (c :: s, S)).1.headD 0 ≠ 58 ∧ (stn c = 0 → stn ((if c = 58 then clo s ((63, 0) :: S) else (c :: s, S)).1.headD 0) = 0)
    by_cases w : c = 58
    · rw [if_pos w]
      obtain ⟨⟨a, b, d, e, e2⟩, f, f2⟩ := ih ((63, 0) :: S) h.2.2
      exact ⟨⟨by rw [a]; show s.length + (S.length + 1) = s.length + 1 + S.length; omega, b, d, fun C g k => e C g k.2, by show _ ≤ s.length + 1; omega⟩, f, fun _ => f2 (h.2.1 (Or.inr w))⟩
    · rw [if_neg w]
      exact ⟨⟨rfl, h, rfl, fun _ _ k => k, Nat.le_refl _⟩, w, fun h => h⟩
end Stk
section LpL
variable {σ τ : Type} {f : σ → σ ⊕ τ} {P : σ → Prop} {Q : τ → Prop}
theorem lp_l [Nonempty τ] {s s2 : σ} (h : P s) (e : f s = .inl s2) (ih : (∃ m, mz_ok f P m s2) ∧ Q (mz_run f s2)) : (∃ m, mz_ok f P m s) ∧ Q (mz_run f s) := by
  obtain ⟨⟨m, hm⟩, hq⟩ := ih
  refine ⟨⟨m + 1, h, fun s3 e3 => ?_⟩, by rw [mz_run_l e]; exact hq⟩
  rw [e] at e3; cases e3; exact hm
theorem lp_r [Nonempty τ] {s : σ} {t : τ} (h : P s) (e : f s = .inr t) (q : Q t) : (∃ m, mz_ok f P m s) ∧ Q (mz_run f s) := by
  refine ⟨⟨1, h, fun s3 e3 => ?_⟩, by rw [mz_run_r e]; exact q⟩
  rw [e] at e3; cases e3
end LpL
