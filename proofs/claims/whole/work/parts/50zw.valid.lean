/-! PURE (50zw): a parsed program has operands for every step. -/
def isop (c : Nat) : Prop := c = 42 ∨ c = 43 ∨ c = 45 ∨ c = 60 ∨ c = 62
/-- how many values are there behind the steps -/
def dpt : List (Nat × Nat) → Nat
  | [] => 0
  | x :: S => if x.1 ≤ 1 then dpt S + 1 else if x.1 = 3 then dpt S else if x.1 = 63 then dpt S - 2 else dpt S - 1
/-- each step finds its operands -/
def vok : List (Nat × Nat) → Prop
  | [] => True
  | x :: S => vok S ∧ ((x.1 = 0 ∧ x.2 < 1000000) ∨ (x.1 = 1 ∧ x.2 < 53) ∨ (x.1 = 2 ∧ x.2 < 16 ∧ dpt S = 1) ∨ (x.1 = 3 ∧ 1 ≤ dpt S) ∨ (x.1 = 63 ∧ 3 ≤ dpt S) ∨ (isop x.1 ∧ 2 ≤ dpt S))
/-- values that wait below the things on the stack -/
def hv : List Nat → Nat
  | [] => 0
  | c :: s => hv s + (if c = 3 then 0 else if c = 40 then 0 else if c = 58 then 2 else 1)
def dm (m : Nat) (s : List Nat) : Nat := if m ≤ 1 then 0 else if m = 2 then hv s else hv s + 1
section Vld
variable {n p q t : Nat} {tx : Nat → Nat} {s : List Nat} {S : List (Nat × Nat)}
theorem stn_op {c : Nat} (h : 1 ≤ stn c) : isop c := by
  unfold stn at h
  unfold isop
  by_cases a : c = 42
  · omega
  · by_cases b : c = 43
    · omega
    · by_cases d : c = 45
      · omega
      · by_cases e : c = 60
        · omega
        · by_cases f : c = 62
          · omega
          · simp only [a, b, d, e, f, if_false] at h
            omega
theorem hv_op {c : Nat} (h : isop c) : hv (c :: s) = hv s + 1 := by
  show hv s + (if c = 3 then 0 else if c = 40 then 0 else if c = 58 then 2 else 1) = _
  unfold isop at h
  rw [if_neg (by omega), if_neg (by omega), if_neg (by omega)]
theorem dpt_op {c v : Nat} (h : isop c) : dpt ((c, v) :: S) = dpt S - 1 := by
  show (if c ≤ 1 then dpt S + 1 else if c = 3 then dpt S else if c = 63 then dpt S - 2 else dpt S - 1) = _
  unfold isop at h
  rw [if_neg (by omega), if_neg (by omega), if_neg (by omega)]
theorem tb_v : ∀ s S, gst s → vok S → dpt S = hv s + 1 → vok (tb s S).2 ∧ dpt (tb s S).2 = hv (tb s S).1 + 1 := by
  intro s
  induction s with
  | nil => intro S _ a b; exact ⟨a, b⟩
  | cons c s ih =>
    intro S hg a b
    show vok (if c = 3 then tb s ((3, 0) :: S) else (c :: s, S)).2 ∧ dpt (if c = 3 then tb s ((3, 0) :: S) else (c :: s, S)).2 = hv (if c = 3 then tb s ((3, 0) :: S) else (c :: s, S)).1 + 1
    by_cases w : c = 3
    · rw [if_pos w]
      have hh : hv (c :: s) = hv s := by rw [w]; rfl
      rw [hh] at b
      exact ih _ hg.2.2 ⟨a, Or.inr (Or.inr (Or.inr (Or.inl ⟨rfl, by omega⟩)))⟩ b
    · rw [if_neg w]; exact ⟨a, b⟩
theorem stl_v {f : Nat} (hf : 1 ≤ f) : ∀ s S, gst s → vok S → dpt S = hv s + 1 → vok (stl f s S).2 ∧ dpt (stl f s S).2 = hv (stl f s S).1 + 1 := by
  intro s
  induction s with
  | nil => intro S _ a b; exact ⟨a, b⟩
  | cons c s ih =>
    intro S hg a b
    show vok (if stn c < f then (c :: s, S) else stl f s ((c, 0) :: S)).2 ∧ dpt (if stn c < f then (c :: s, S) else stl f s ((c, 0) :: S)).2 = hv (if stn c < f then (c :: s, S) else stl f s ((c, 0) :: S)).1 + 1
    by_cases w : stn c < f
    · rw [if_pos w]; exact ⟨a, b⟩
    · rw [if_neg w]
      have ho := stn_op (c := c) (by omega)
      rw [hv_op ho] at b
      refine ih _ hg.2.2 ⟨a, Or.inr (Or.inr (Or.inr (Or.inr (Or.inr ⟨ho, by omega⟩))))⟩ ?_
      rw [dpt_op ho]; omega
theorem clo_v : ∀ s S, gst s → vok S → dpt S = hv s + 1 → vok (clo s S).2 ∧ dpt (clo s S).2 = hv (clo s S).1 + 1 := by
  intro s
  induction s with
  | nil => intro S _ a b; exact ⟨a, b⟩
  | cons c s ih =>
    intro S hg a b
    show vok (if c = 58 then clo s ((63, 0) :: S) else (c :: s, S)).2 ∧ dpt (if c = 58 then clo s ((63, 0) :: S) else (c :: s, S)).2 = hv (if c = 58 then clo s ((63, 0) :: S) else (c :: s, S)).1 + 1
    by_cases w : c = 58
    · rw [if_pos w]
      have hh : hv (c :: s) = hv s + 2 := by rw [w]; rfl
      rw [hh] at b
      refine ih _ hg.2.2 ⟨a, Or.inr (Or.inr (Or.inr (Or.inr (Or.inl ⟨rfl, by omega⟩))))⟩ ?_
      show dpt S - 2 = _
      omega
    · rw [if_neg w]; exact ⟨a, b⟩
theorem opr_v {c : Nat} {y : PSt} (hg : gst s) (ht : t < 16) (hv1 : vok S) (hd : dpt S = hv s + 1) (h : opr c s S t = .inr y) : vok y.2.2.1 ∧ dpt y.2.2.1 = dm y.1 y.2.1 := by
  unfold opr at h
  by_cases w1 : 1 < stn c
  · rw [if_pos w1] at h
    cases h
    obtain ⟨a, b⟩ := stl_v (f := stn c) (by omega) s S hg hv1 hd
    exact ⟨a, by show dpt (stl (stn c) s S).2 = hv (c :: (stl (stn c) s S).1); rw [hv_op (stn_op (by omega))]; exact b⟩
  · rw [if_neg w1] at h
    by_cases w2 : stn c = 1
    · rw [if_pos w2] at h
      by_cases w3 : stn ((stl 2 s S).1.headD 0) = 1
      · rw [if_pos w3] at h; cases h
      · rw [if_neg w3] at h
        cases h
        obtain ⟨a, b⟩ := stl_v (f := 2) (by omega) s S hg hv1 hd
        exact ⟨a, by show dpt (stl 2 s S).2 = hv (c :: (stl 2 s S).1); rw [hv_op (stn_op (by omega))]; exact b⟩
    · rw [if_neg w2] at h
      obtain ⟨⟨k1, k2, k3, k4, k5⟩, k6, k7⟩ := stl_ok (f := 1) (by omega) s S hg
      obtain ⟨a, b⟩ := stl_v (f := 1) (by omega) s S hg hv1 hd
      by_cases w3 : c = 63
      · rw [if_pos w3] at h
        by_cases w4 : nst (stl 1 s S).1 < 10
        · rw [if_pos w4] at h
          cases h
          exact ⟨a, b⟩
        · rw [if_neg w4] at h; cases h
      · rw [if_neg w3] at h
        obtain ⟨a2, b2⟩ := clo_v _ _ k2 a b
        obtain ⟨⟨j1, j2, j3, j4, j5⟩, j6, j7⟩ := clo_ok (stl 1 s S).1 (stl 1 s S).2 k2
        generalize clo (stl 1 s S).1 (stl 1 s S).2 = R at *
        obtain ⟨s2, S2⟩ := R
        simp only at *
        by_cases w4 : c = 58 ∧ s2.headD 0 = 63
        · rw [if_pos w4] at h
          cases h
          cases s2 with
          | nil => exact absurd (show (0 : Nat) = 63 from w4.2) (by decide)
          | cons d s3 =>
            have hd' : d = 63 := w4.2
            subst hd'
            exact ⟨a2, b2⟩
        · rw [if_neg w4] at h
          by_cases w5 : c = 41 ∧ s2.headD 0 = 40
          · rw [if_pos w5] at h
            cases h
            cases s2 with
            | nil => exact absurd (show (0 : Nat) = 40 from w5.2) (by decide)
            | cons d s3 =>
              have hd' : d = 40 := w5.2
              subst hd'
              exact tb_v s3 S2 j2.2.2 a2 b2
          · rw [if_neg w5] at h
            by_cases w6 : c = 59 ∧ s2.length = 0
            · rw [if_pos w6] at h
              cases h
              have hn : s2 = [] := List.length_eq_zero_iff.mp w6.2
              subst hn
              refine ⟨⟨a2, Or.inr (Or.inr (Or.inl ⟨rfl, ht, b2⟩))⟩, ?_⟩
              show dpt S2 - 1 = 0
              have : dpt S2 = 1 := b2
              omega
            · rw [if_neg w6] at h; cases h
theorem act_v {x y : PSt} (hx : psk p x) (hv1 : vok x.2.2.1) (hd : dpt x.2.2.1 = dm x.1 x.2.1) (hp : p ≤ n) (h : act tx n p x = .inr y) : vok y.2.2.1 ∧ dpt y.2.2.1 = dm y.1 y.2.1 := by
  obtain ⟨m, s, S, t⟩ := x
  obtain ⟨hg, hn, hm, h3, hl, h1, h7⟩ := hx
  unfold act at h
  simp only at *
  by_cases w0 : m = 0
  · rw [if_pos w0] at h
    subst w0
    by_cases w1 : na S < 12
    · rw [if_pos w1] at h
      by_cases w2 : tkk tx n p = 2
      · rw [if_pos w2] at h
        by_cases w3 : wnm tx p (tke tx n p) < 16
        · rw [if_pos w3] at h
          cases h
          exact ⟨hv1, hd⟩
        · rw [if_neg w3] at h; cases h
      · rw [if_neg w2] at h; cases h
    · rw [if_neg w1] at h; cases h
  · rw [if_neg w0] at h
    obtain ⟨hm1, hm2⟩ := hm w0
    by_cases w1 : m = 1
    · rw [if_pos w1] at h
      subst w1
      by_cases w2 : tkc tx n p = 61
      · rw [if_pos w2] at h
        cases h
        have e := h1 (by decide)
        subst e
        exact ⟨hv1, hd⟩
      · rw [if_neg w2] at h; cases h
    · rw [if_neg w1] at h
      by_cases w2 : m = 2
      · rw [if_pos w2] at h
        subst w2
        have hd' : dpt S = hv s := hd
        unfold opd at h
        by_cases v1 : tkk tx n p = 1
        · rw [if_pos v1] at h
          cases h
          have hr := rl_ok (P := fun i => dg (tx i)) hp
          exact tb_v s _ hg ⟨hv1, Or.inl ⟨rfl, nvd_6 hr.2.1⟩⟩ (by show dpt S + 1 = _; omega)
        · rw [if_neg v1] at h
          by_cases v2 : tkk tx n p = 2
          · rw [if_pos v2] at h
            by_cases v3 : wnm tx p (tke tx n p) < 53
            · rw [if_pos v3] at h
              cases h
              exact tb_v s _ hg ⟨hv1, Or.inr (Or.inl ⟨rfl, v3⟩)⟩ (by show dpt S + 1 = _; omega)
            · rw [if_neg v3] at h; cases h
          · rw [if_neg v2] at h
            by_cases v3 : tkc tx n p = 45
            · rw [if_pos v3] at h
              by_cases v4 : nst s < 10
              · rw [if_pos v4] at h
                cases h
                exact ⟨hv1, hd'⟩
              · rw [if_neg v4] at h; cases h
            · rw [if_neg v3] at h
              by_cases v5 : tkc tx n p = 40
              · rw [if_pos v5] at h
                by_cases v4 : nst s < 10
                · rw [if_pos v4] at h
                  cases h
                  exact ⟨hv1, hd'⟩
                · rw [if_neg v4] at h; cases h
              · rw [if_neg v5] at h; cases h
      · rw [if_neg w2] at h
        have m3 : m = 3 := by omega
        subst m3
        exact opr_v hg hm2 hv1 hd h
theorem pz_v (tx : Nat → Nat) (n : Nat) : ∀ f q x, q ≤ n → psk q x → vok x.2.2.1 → dpt x.2.2.1 = dm x.1 x.2.1 → n + 1 - q < f → (pz tx n f q x).1 = 0 → vok (pz tx n f q x).2.2 ∧ dpt (pz tx n f q x).2.2 = 0 ∧ na (pz tx n f q x).2.2 ≤ 12 ∧ (pz tx n f q x).2.2.length ≤ n := by
  intro f
  induction f with
  | zero => intro q x _ _ _ _ h; omega
  | succ f ih =>
    intro q x hq hx h1 h2 hf h0
    obtain ⟨s1, s2⟩ := sk_ok (tx := tx) hq
    rw [pz_s] at h0 ⊢
    by_cases wl : lxf tx n (sk tx n q) = 0
    · rw [if_pos wl] at h0 ⊢
      have h4 := lxf_k wl
      unfold pa at h0 ⊢
      by_cases w0 : tkk tx n (sk tx n q) = 0 ∧ x.1 = 0
      · rw [if_pos w0] at h0 ⊢
        refine ⟨h1, ?_, hx.2.1, ?_⟩
        · show dpt x.2.2.1 = 0
          rw [h2, w0.2]; rfl
        · have := hx.2.2.2.2.1
          show x.2.2.1.length ≤ n
          omega
      · rw [if_neg w0] at h0 ⊢
        cases ha : act tx n (sk tx n q) x with
        | inl e =>
          rw [ha] at h0
          have := act_e ha
          have : e = 0 := h0
          omega
        | inr y =>
          rw [ha] at h0
          obtain ⟨w1, w2⟩ := act_ok (psk_mono hx s1) h4 ha
          obtain ⟨t1, t2, t3⟩ := tke_ok w2 h4
          obtain ⟨a, b⟩ := act_v (psk_mono hx s1) h1 h2 s2 ha
          exact ih _ _ t3 (psk_mono w1 (by omega)) a b (by omega) h0
    · rw [if_neg wl] at h0
      exact absurd h0 wl
theorem prs_v (h : (prs tx n).1 = 0) : vok (prs tx n).2.2 ∧ dpt (prs tx n).2.2 = 0 ∧ na (prs tx n).2.2 ≤ 12 ∧ (prs tx n).2.2.length ≤ n :=
  pz_v tx n (n + 3) 0 (0, [], [], 0) (Nat.zero_le _) ⟨trivial, Nat.zero_le _, fun q => absurd rfl q, Nat.zero_le _, Nat.zero_le _, fun _ => rfl, fun q => absurd rfl q⟩ trivial rfl (by omega) h
end Vld
