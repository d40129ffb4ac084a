/-! PURE (50zo): the parse of a text. -/
def sk (tx : Nat → Nat) (n q : Nat) : Nat := q + rl (spc tx) n q
/-- what is kept from token to token -/
def psk (q : Nat) (x : PSt) : Prop := gst x.2.1 ∧ na x.2.2.1 ≤ 12 ∧ (x.1 ≠ 0 → na x.2.2.1 < 12 ∧ x.2.2.2 < 16) ∧ x.1 ≤ 3 ∧ x.2.1.length + x.2.2.1.length ≤ q ∧ (x.1 ≤ 1 → x.2.1 = []) ∧ (x.1 ≠ 0 → x.2.1.length + x.2.2.1.length < q)
/-- the parse from place q on: fault, place, steps -/
def pz (tx : Nat → Nat) (n : Nat) : Nat → Nat → PSt → Nat × Nat × List (Nat × Nat)
  | 0, q, x => (0, q, x.2.2.1)
  | f + 1, q, x => if lxf tx n (sk tx n q) = 0 then (if tkk tx n (sk tx n q) = 0 ∧ x.1 = 0 then (0, sk tx n q, x.2.2.1) else match act tx n (sk tx n q) x with
    | .inl e => (e, sk tx n q, x.2.2.1)
    | .inr y => pz tx n f (tke tx n (sk tx n q)) y) else (lxf tx n (sk tx n q), sk tx n q, x.2.2.1)
/-- the same, the token at p being read -/
def pa (tx : Nat → Nat) (n f p : Nat) (x : PSt) : Nat × Nat × List (Nat × Nat) := if tkk tx n p = 0 ∧ x.1 = 0 then (0, p, x.2.2.1) else match act tx n p x with
    | .inl e => (e, p, x.2.2.1)
    | .inr y => pz tx n f (tke tx n p) y
theorem pz_s (tx : Nat → Nat) (n f q : Nat) (x : PSt) : pz tx n (f + 1) q x = if lxf tx n (sk tx n q) = 0 then pa tx n f (sk tx n q) x else (lxf tx n (sk tx n q), sk tx n q, x.2.2.1) := rfl
section Prs
variable {n p q : Nat} {tx : Nat → Nat} {x : PSt}
theorem sk_ok (h : q ≤ n) : q ≤ sk tx n q ∧ sk tx n q ≤ n := ⟨Nat.le_add_right _ _, (rl_ok (P := spc tx) h).1⟩
theorem tke_ok (hk : tkk tx n p ≠ 0) (h4 : tkk tx n p ≠ 4) : p < n ∧ p < tke tx n p ∧ tke tx n p ≤ n := by
  have hp : p < n := by
    rcases Nat.lt_or_ge p n with w | w
    · exact w
    · exact absurd (by unfold tkk; rw [if_neg (by omega)]) hk
  refine ⟨hp, ?_⟩
  unfold tke
  have e : tkk tx n p = if p < n then (if dg (tx p) = true then 1 else if lt' (tx p) = true then 2 else if sg' (tx p) = true then 3 else 4) else 0 := rfl
  rw [if_pos hp] at e
  by_cases d1 : dg (tx p) = true
  · rw [if_pos d1] at e
    rw [if_pos e]
    have := rl_ok (P := fun i => dg (tx i)) (show p ≤ n by omega)
    have := rl_pos (P := fun i => dg (tx i)) hp d1
    omega
  · rw [if_neg d1] at e
    by_cases d2 : lt' (tx p) = true
    · rw [if_pos d2] at e
      rw [if_neg (by omega), if_pos e]
      have := rl_ok (P := wrc tx) (show p ≤ n by omega)
      have := rl_pos (P := wrc tx) hp (by unfold wrc; rw [d2]; rfl)
      omega
    · rw [if_neg d2] at e
      by_cases d3 : sg' (tx p) = true
      · rw [if_pos d3] at e
        rw [if_neg (by omega), if_neg (by omega), if_pos e]
        omega
      · rw [if_neg d3] at e
        exact absurd e h4
theorem gst_tl {s : List Nat} (h : gst s) : gst s.tail := by
  cases s with
  | nil => exact h
  | cons c s => exact h.2.2
theorem opr_ok {c t : Nat} {s : List Nat} {S : List (Nat × Nat)} {y : PSt} (hg : gst s) (hna : na S < 12) (ht : t < 16) (hl : s.length + S.length < p) (h : opr c s S t = .inr y) : psk (p + 1) y ∧ 40 ≤ c := by
  unfold opr at h
  by_cases w1 : 1 < stn c
  · rw [if_pos w1] at h
    cases h
    obtain ⟨⟨k1, k2, k3, k4, k5⟩, k6, k7⟩ := stl_ok (f := stn c) (by omega) s S hg
    have ho : oks c ∧ 40 ≤ c ∧ ¬ (c = 63 ∨ c = 58) := by
      unfold stn at w1
      unfold oks
      by_cases a : c = 42
      · omega
      · by_cases b : c = 43
        · omega
        · by_cases d : c = 45
          · omega
          · simp only [a, b, d, if_false] at w1
            split at w1
            · omega
            · split at w1 <;> omega
    exact ⟨⟨⟨ho.1, fun q => absurd q ho.2.2, k2⟩, by show na (stl (stn c) s S).2 ≤ 12; omega, fun _ => ⟨by show na (stl (stn c) s S).2 < 12; omega, ht⟩, by show (2 : Nat) ≤ 3; omega, by show (stl (stn c) s S).1.length + 1 + (stl (stn c) s S).2.length ≤ p + 1; omega, fun q => absurd (show (2 : Nat) ≤ 1 from q) (by omega), fun _ => by show (stl (stn c) s S).1.length + 1 + (stl (stn c) s S).2.length < p + 1; omega⟩, ho.2.1⟩
  · rw [if_neg w1] at h
    by_cases w2 : stn c = 1
    · rw [if_pos w2] at h
      by_cases w3 : stn ((stl 2 s S).1.headD 0) = 1
      · rw [if_pos w3] at h; cases h
      · rw [if_neg w3] at h
        cases h
        obtain ⟨⟨k1, k2, k3, k4, k5⟩, k6, k7⟩ := stl_ok (f := 2) (by omega) s S hg
        have ho : oks c ∧ 40 ≤ c ∧ ¬ (c = 63 ∨ c = 58) := by
          unfold stn at w2
          unfold oks
          by_cases a : c = 60
          · omega
          · by_cases b : c = 62
            · omega
            · simp only [a, b, if_false] at w2
              split at w2
              · omega
              · split at w2
                · omega
                · split at w2 <;> omega
        exact ⟨⟨⟨ho.1, fun q => absurd q ho.2.2, k2⟩, by show na (stl 2 s S).2 ≤ 12; omega, fun _ => ⟨by show na (stl 2 s S).2 < 12; omega, ht⟩, by show (2 : Nat) ≤ 3; omega, by show (stl 2 s S).1.length + 1 + (stl 2 s S).2.length ≤ p + 1; omega, fun q => absurd (show (2 : Nat) ≤ 1 from q) (by omega), fun _ => by show (stl 2 s S).1.length + 1 + (stl 2 s S).2.length < p + 1; omega⟩, ho.2.1⟩
    · rw [if_neg w2] at h
      obtain ⟨⟨k1, k2, k3, k4, k5⟩, k6, k7⟩ := stl_ok (f := 1) (by omega) s S hg
      by_cases w3 : c = 63
      · rw [if_pos w3] at h
        by_cases w4 : nst (stl 1 s S).1 < 10
        · rw [if_pos w4] at h
          cases h
          exact ⟨⟨⟨Or.inr (Or.inl rfl), fun _ => by omega, k2⟩, by show na (stl 1 s S).2 ≤ 12; omega, fun _ => ⟨by show na (stl 1 s S).2 < 12; omega, ht⟩, by show (2 : Nat) ≤ 3; omega, by show (stl 1 s S).1.length + 1 + (stl 1 s S).2.length ≤ p + 1; omega, fun q => absurd (show (2 : Nat) ≤ 1 from q) (by omega), fun _ => by show (stl 1 s S).1.length + 1 + (stl 1 s S).2.length < p + 1; omega⟩, by omega⟩
        · rw [if_neg w4] at h; cases h
      · rw [if_neg w3] at h
        obtain ⟨⟨j1, j2, j3, j4, j5⟩, j6, j7⟩ := clo_ok (stl 1 s S).1 (stl 1 s S).2 k2
        generalize clo (stl 1 s S).1 (stl 1 s S).2 = R at *
        obtain ⟨s2, S2⟩ := R
        simp only at *
        by_cases w4 : c = 58 ∧ s2.headD 0 = 63
        · rw [if_pos w4] at h
          cases h
          cases s2 with
          | nil => exact absurd (show (0 : Nat) = 63 from w4.2) (by decide)
          | cons d s3 =>
            have e3 : (d :: s3 : List Nat).length = s3.length + 1 := rfl
            have hd : d = 63 := w4.2
            exact ⟨⟨⟨Or.inr (Or.inr (Or.inl rfl)), fun _ => j2.2.1 (Or.inl hd), j2.2.2⟩, by show na S2 ≤ 12; omega, fun _ => ⟨by show na S2 < 12; omega, ht⟩, by show (2 : Nat) ≤ 3; omega, by show s3.length + 1 + S2.length ≤ p + 1; omega, fun q => absurd (show (2 : Nat) ≤ 1 from q) (by omega), fun _ => by show s3.length + 1 + S2.length < p + 1; omega⟩, by omega⟩
        · rw [if_neg w4] at h
          by_cases w5 : c = 41 ∧ s2.headD 0 = 40
          · rw [if_pos w5] at h
            cases h
            obtain ⟨⟨i1, i2, i3, i4, i5⟩, -⟩ := tb_ok s2.tail S2 (gst_tl j2)
            have e3 : s2.tail.length ≤ s2.length := by rw [List.length_tail]; omega
            exact ⟨⟨i2, by show na (tb s2.tail S2).2 ≤ 12; omega, fun _ => ⟨by show na (tb s2.tail S2).2 < 12; omega, ht⟩, by show (3 : Nat) ≤ 3; omega, by show (tb s2.tail S2).1.length + (tb s2.tail S2).2.length ≤ p + 1; omega, fun q => absurd (show (3 : Nat) ≤ 1 from q) (by omega), fun _ => by show (tb s2.tail S2).1.length + (tb s2.tail S2).2.length < p + 1; omega⟩, by omega⟩
          · rw [if_neg w5] at h
            by_cases w6 : c = 59 ∧ s2.length = 0
            · rw [if_pos w6] at h
              cases h
              exact ⟨⟨trivial, by show na S2 + 1 ≤ 12; omega, fun q => absurd rfl q, by show (0 : Nat) ≤ 3; omega, by show 0 + (S2.length + 1) ≤ p + 1; omega, fun _ => rfl, fun q => absurd rfl q⟩, by omega⟩
            · rw [if_neg w6] at h; cases h
theorem act_ok {y : PSt} (hx : psk p x) (h4 : tkk tx n p ≠ 4) (h : act tx n p x = .inr y) : psk (p + 1) y ∧ tkk tx n p ≠ 0 := by
  obtain ⟨m, s, S, t⟩ := x
  obtain ⟨hg, hn, hm, h3, hl, h1, h7⟩ := hx
  obtain ⟨k1, k2, k3, k4⟩ := tkc_k (tx := tx) (n := n) (p := p) h4
  have hl' : s.length + S.length ≤ p := hl
  unfold act at h
  simp only at *
  by_cases w0 : m = 0
  · rw [if_pos w0] at h
    by_cases w1 : na S < 12
    · rw [if_pos w1] at h
      by_cases w2 : tkk tx n p = 2
      · rw [if_pos w2] at h
        by_cases w3 : wnm tx p (tke tx n p) < 16
        · rw [if_pos w3] at h
          cases h
          exact ⟨⟨hg, hn, fun _ => ⟨w1, w3⟩, by show (1 : Nat) ≤ 3; omega, by show s.length + S.length ≤ p + 1; omega, fun _ => h1 (by omega), fun _ => by show s.length + S.length < p + 1; omega⟩, by omega⟩
        · rw [if_neg w3] at h; cases h
      · rw [if_neg w2] at h; cases h
    · rw [if_neg w1] at h; cases h
  · rw [if_neg w0] at h
    obtain ⟨hm1, hm2⟩ := hm w0
    have hl2 : s.length + S.length < p := h7 w0
    by_cases w1 : m = 1
    · rw [if_pos w1] at h
      by_cases w2 : tkc tx n p = 61
      · rw [if_pos w2] at h
        cases h
        exact ⟨⟨hg, hn, fun _ => ⟨hm1, hm2⟩, by show (2 : Nat) ≤ 3; omega, by show s.length + S.length ≤ p + 1; omega, fun q => absurd (show (2 : Nat) ≤ 1 from q) (by omega), fun _ => by show s.length + S.length < p + 1; omega⟩, by omega⟩
      · rw [if_neg w2] at h; cases h
    · rw [if_neg w1] at h
      by_cases w2 : m = 2
      · rw [if_pos w2] at h
        unfold opd at h
        have tbk : ∀ z : Nat × Nat, z.1 ≠ 2 → psk (p + 1) (3, (tb s (z :: S)).1, (tb s (z :: S)).2, t) := fun z hz => by
          obtain ⟨⟨i1, i2, i3, i4, i5⟩, -⟩ := tb_ok s (z :: S) hg
          have e : na (z :: S) = na S := by show (if z.1 = 2 then na S + 1 else na S) = _; rw [if_neg hz]
          have e2 : (z :: S).length = S.length + 1 := rfl
          exact ⟨i2, by show na (tb s (z :: S)).2 ≤ 12; omega, fun _ => ⟨by show na (tb s (z :: S)).2 < 12; omega, hm2⟩, by show (3 : Nat) ≤ 3; omega, by show (tb s (z :: S)).1.length + (tb s (z :: S)).2.length ≤ p + 1; omega, fun q => absurd (show (3 : Nat) ≤ 1 from q) (by omega), fun _ => by show (tb s (z :: S)).1.length + (tb s (z :: S)).2.length < p + 1; omega⟩
        by_cases v1 : tkk tx n p = 1
        · rw [if_pos v1] at h
          cases h
          exact ⟨tbk _ (show (0 : Nat) ≠ 2 by decide), by omega⟩
        · rw [if_neg v1] at h
          by_cases v2 : tkk tx n p = 2
          · rw [if_pos v2] at h
            by_cases v3 : wnm tx p (tke tx n p) < 53
            · rw [if_pos v3] at h
              cases h
              exact ⟨tbk _ (show (1 : Nat) ≠ 2 by decide), by omega⟩
            · rw [if_neg v3] at h; cases h
          · rw [if_neg v2] at h
            by_cases v3 : tkc tx n p = 45
            · rw [if_pos v3] at h
              by_cases v4 : nst s < 10
              · rw [if_pos v4] at h
                cases h
                exact ⟨⟨⟨Or.inl rfl, fun q => absurd q (by decide), hg⟩, hn, fun _ => ⟨hm1, hm2⟩, by show (2 : Nat) ≤ 3; omega, by show s.length + 1 + S.length ≤ p + 1; omega, fun q => absurd (show (2 : Nat) ≤ 1 from q) (by omega), fun _ => by show s.length + 1 + S.length < p + 1; omega⟩, by omega⟩
              · rw [if_neg v4] at h; cases h
            · rw [if_neg v3] at h
              by_cases v5 : tkc tx n p = 40
              · rw [if_pos v5] at h
                by_cases v4 : nst s < 10
                · rw [if_pos v4] at h
                  cases h
                  exact ⟨⟨⟨Or.inr (Or.inr (Or.inr (Or.inl rfl))), fun q => absurd q (by decide), hg⟩, hn, fun _ => ⟨hm1, hm2⟩, by show (2 : Nat) ≤ 3; omega, by show s.length + 1 + S.length ≤ p + 1; omega, fun q => absurd (show (2 : Nat) ≤ 1 from q) (by omega), fun _ => by show s.length + 1 + S.length < p + 1; omega⟩, by omega⟩
                · rw [if_neg v4] at h; cases h
              · rw [if_neg v5] at h; cases h
      · rw [if_neg w2] at h
        obtain ⟨a, b⟩ := opr_ok hg hm1 hm2 hl2 h
        exact ⟨a, by omega⟩
theorem opr_e {c t e : Nat} {s : List Nat} {S : List (Nat × Nat)} (h : opr c s S t = .inl e) : 0 < e ∧ e ≤ 6 := by
  unfold opr at h
  repeat' split at h
  all_goals first | (cases h; omega) | cases h
theorem opd_e {k c v w t e : Nat} {s : List Nat} {S : List (Nat × Nat)} (h : opd k c v w s S t = .inl e) : 0 < e ∧ e ≤ 6 := by
  unfold opd at h
  repeat' split at h
  all_goals first | (cases h; omega) | cases h
theorem act_e {e : Nat} (h : act tx n p x = .inl e) : 0 < e ∧ e ≤ 6 := by
  unfold act at h
  split at h
  · repeat' split at h
    all_goals first | (cases h; omega) | cases h
  · split at h
    · repeat' split at h
      all_goals first | (cases h; omega) | cases h
    · split at h
      · exact opd_e h
      · exact opr_e h
end Prs
