/-! PURE (50zs): the reference's expression. -/
/-- fields that a parse leaves alone -/
def rfr (F0 F : Nat → Int32) : Prop := ∀ j, j ≠ 28 → j ≠ 31 → j ≠ 35 → (j < 148 ∨ 154 < j) → j ≠ 156 → j ≠ 157 → F j = F0 j
def rfa (N : mz_N) (F0 E G : Nat → Int32) (n k e p : Nat) (M : mz_N) : Prop := ∃ F W V K, M = rsM N F W V E G K ∧ rfr F0 F ∧ F 147 = nI n ∧ F 154 = nI e ∧ F 35 = nI p ∧ F 28 = nI k
def rok (N : mz_N) (F0 E G : Nat → Int32) (n q : Nat) (S : List (Nat × Nat)) (M : mz_N) : Prop := ∃ F W V K, M = rsM N F W V E G K ∧ rfr F0 F ∧ F 147 = nI n ∧ F 154 = 0 ∧ F 35 = F0 35 ∧ F 148 = nI q ∧ F 28 = nI (na S) ∧ F 31 = nI (nw S) ∧ rws W V E G S
section Exp
variable {N : mz_N} {n p q t : Nat} {tx : Nat → Nat} {F W V E G K : Nat → Int32} {s : List Nat} {S : List (Nat × Nat)}
theorem psk_mono {x : PSt} {a b : Nat} (h : psk a x) (hab : a ≤ b) : psk b x := ⟨h.1, h.2.1, h.2.2.1, h.2.2.2.1, Nat.le_trans h.2.2.2.2.1 hab, h.2.2.2.2.2.1, fun q => Nat.lt_of_lt_of_le (h.2.2.2.2.2.2 q) hab⟩
theorem opr_c {c : Nat} {y : PSt} (hg : gst s) (h : opr c s S t = .inr y) : na (rst y) = na S ∧ y.2.2.2 = t ∧ (y.1 = 0 ∨ y.1 = 2 ∨ y.1 = 3) ∧ (y.1 = 0 → c = 59 ∧ y.2.1 = [] ∧ y.2.2.1 = (2, t) :: rst y) ∧ (y.1 = 3 → c = 41) := by
  unfold opr at h
  by_cases w1 : 1 < stn c
  · rw [if_pos w1] at h
    cases h
    obtain ⟨⟨k1, k2, k3, k4, k5⟩, k6, k7⟩ := stl_ok (f := stn c) (by omega) s S hg
    exact ⟨k3, rfl, Or.inr (Or.inl rfl), (fun q => absurd (show (2 : Nat) = 0 from q) (by decide)), (fun q => absurd (show (2 : Nat) = 3 from q) (by decide))⟩
  · rw [if_neg w1] at h
    by_cases w2 : stn c = 1
    · rw [if_pos w2] at h
      by_cases w3 : stn ((stl 2 s S).1.headD 0) = 1
      · rw [if_pos w3] at h; cases h
      · rw [if_neg w3] at h
        cases h
        obtain ⟨⟨k1, k2, k3, k4, k5⟩, k6, k7⟩ := stl_ok (f := 2) (by omega) s S hg
        exact ⟨k3, rfl, Or.inr (Or.inl rfl), (fun q => absurd (show (2 : Nat) = 0 from q) (by decide)), (fun q => absurd (show (2 : Nat) = 3 from q) (by decide))⟩
    · rw [if_neg w2] at h
      obtain ⟨⟨k1, k2, k3, k4, k5⟩, k6, k7⟩ := stl_ok (f := 1) (by omega) s S hg
      by_cases w3 : c = 63
      · rw [if_pos w3] at h
        by_cases w4 : nst (stl 1 s S).1 < 10
        · rw [if_pos w4] at h
          cases h
          exact ⟨k3, rfl, Or.inr (Or.inl rfl), (fun q => absurd (show (2 : Nat) = 0 from q) (by decide)), (fun q => absurd (show (2 : Nat) = 3 from q) (by decide))⟩
        · rw [if_neg w4] at h; cases h
      · rw [if_neg w3] at h
        obtain ⟨⟨j1, j2, j3, j4, j5⟩, j6, j7⟩ := clo_ok (stl 1 s S).1 (stl 1 s S).2 k2
        generalize clo (stl 1 s S).1 (stl 1 s S).2 = R at *
        obtain ⟨s2, S2⟩ := R
        simp only at *
        have e2 : na S2 = na S := j3.trans k3
        by_cases w4 : c = 58 ∧ s2.headD 0 = 63
        · rw [if_pos w4] at h
          cases h
          exact ⟨e2, rfl, Or.inr (Or.inl rfl), (fun q => absurd (show (2 : Nat) = 0 from q) (by decide)), (fun q => absurd (show (2 : Nat) = 3 from q) (by decide))⟩
        · rw [if_neg w4] at h
          by_cases w5 : c = 41 ∧ s2.headD 0 = 40
          · rw [if_pos w5] at h
            cases h
            obtain ⟨⟨i1, i2, i3, i4, i5⟩, -⟩ := tb_ok s2.tail S2 (gst_tl j2)
            exact ⟨i3.trans e2, rfl, Or.inr (Or.inr rfl), (fun q => absurd (show (3 : Nat) = 0 from q) (by decide)), fun _ => w5.1⟩
          · rw [if_neg w5] at h
            by_cases w6 : c = 59 ∧ s2.length = 0
            · rw [if_pos w6] at h
              cases h
              exact ⟨e2, rfl, Or.inl rfl, fun _ => ⟨w6.1, rfl, rfl⟩, (fun q => absurd (show (0 : Nat) = 3 from q) (by decide))⟩
            · rw [if_neg w6] at h; cases h
theorem opd_c {k c v w : Nat} {y : PSt} (hg : gst s) (h : opd k c v w s S t = .inr y) : na (rst y) = na S ∧ y.2.2.2 = t ∧ (y.1 = 2 ∨ y.1 = 3) := by
  have tbk : ∀ z : Nat × Nat, z.1 ≠ 2 → na (tb s (z :: S)).2 = na S := fun z hz => by
    obtain ⟨⟨i1, i2, i3, i4, i5⟩, -⟩ := tb_ok s (z :: S) hg
    rw [i3]
    show (if z.1 = 2 then na S + 1 else na S) = _
    rw [if_neg hz]
  unfold opd at h
  by_cases v1 : k = 1
  · rw [if_pos v1] at h
    cases h
    exact ⟨tbk _ (show (0 : Nat) ≠ 2 by decide), rfl, Or.inr rfl⟩
  · rw [if_neg v1] at h
    by_cases v2 : k = 2
    · rw [if_pos v2] at h
      by_cases v3 : w < 53
      · rw [if_pos v3] at h
        cases h
        exact ⟨tbk _ (show (1 : Nat) ≠ 2 by decide), rfl, Or.inr rfl⟩
      · rw [if_neg v3] at h; cases h
    · rw [if_neg v2] at h
      by_cases v3 : c = 45
      · rw [if_pos v3] at h
        by_cases v4 : nst s < 10
        · rw [if_pos v4] at h
          cases h
          exact ⟨rfl, rfl, Or.inl rfl⟩
        · rw [if_neg v4] at h; cases h
      · rw [if_neg v3] at h
        by_cases v5 : c = 40
        · rw [if_pos v5] at h
          by_cases v4 : nst s < 10
          · rw [if_pos v4] at h
            cases h
            exact ⟨rfl, rfl, Or.inl rfl⟩
          · rw [if_neg v4] at h; cases h
        · rw [if_neg v5] at h; cases h
theorem r_stop {v1 v2 : Bool} (h : v2 = false ∨ ¬ F 154 = 0) : (∃ m, mz_ok cq_447_14 cd_447_14 m (v1, v2, rsM N F W V E G K)) ∧ mz_run cq_447_14 (v1, v2, rsM N F W V E G K) = rsM N F W V E G K := by
  refine lp_r (s := (v1, v2, rsM N F W V E G K)) (f := cq_447_14) (P := cd_447_14) (Q := fun r => r = rsM N F W V E G K) (t := rsM N F W V E G K) ?_ ?_ rfl
  · rw [cd_447_14]
    refine ⟨fun q => ⟨fun q2 => ?_, fun _ => trivial⟩, fun _ => trivial⟩
    rw [rs_o] at q2
    rcases h with h | h
    · have q' : v2 = true := q
      rw [h] at q'; cases q'
    · exact absurd q2 h
  · rw [cq_447_14]
    show (if v2 = true then (if (rsM N F W V E G K).1 232 154 = 0 then _ else Sum.inr (rsM N F W V E G K)) else Sum.inr (rsM N F W V E G K)) = _
    rcases h with h | h
    · rw [h, if_neg Bool.false_ne_true]
    · rw [rs_o, if_neg h]
      split <;> rfl
/-- what the expression comes to -/
def rxq (N : mz_N) (tx : Nat → Nat) (n : Nat) (F0 E G : Nat → Int32) (z : Nat × Nat × List (Nat × Nat)) (k t : Nat) (M : mz_N) : Prop :=
  (z.1 ≠ 0 ∧ rfa N F0 E G n k z.1 z.2.1 M) ∨ ∃ f' q' S', n + 1 - q' < f' ∧ q' ≤ n ∧ psk q' (0, [], (2, t) :: S', t) ∧ z = pz tx n f' q' (0, [], (2, t) :: S', t) ∧ na S' = k ∧ rok N F0 E G n q' S' M
theorem r_expr {F0 : Nat → Int32} (hn : n ≤ 196) (hT : ∀ j, j < n → N.1 338 j = nI (tx j)) (htx : ∀ j, tx j < 128) : ∀ (f q : Nat) (x : PSt) (F W V K : Nat → Int32), q ≤ n → psk q x → (x.1 = 2 ∨ x.1 = 3) → n + 1 - q < f → rfr F0 F → F 147 = nI n → F 148 = nI q → F 154 = 0 → F 35 = F0 35 → F 28 = nI (na x.2.2.1) → pr F W V E G K x.2.1 x.2.2.1 →
    (∃ m, mz_ok cq_447_14 cd_447_14 m (decide (x.1 = 2), true, rsM N F W V E G K)) ∧ rxq N tx n F0 E G (pz tx n f q x) (na x.2.2.1) x.2.2.2 (mz_run cq_447_14 (decide (x.1 = 2), true, rsM N F W V E G K)) := by
  intro f
  induction f with
  | zero => intro q x F W V K _ _ _ h; omega
  | succ f ih =>
    intro q x F W V K hq hx hm hf hfr h147 h148 h154 h35 h28 hp
    obtain ⟨m, s, S, t⟩ := x
    simp only at *
    obtain ⟨s1, s2⟩ := sk_ok (tx := tx) hq
    obtain ⟨v1, H, v2, v3⟩ := tk_r (N := N) (F := F) (W := W) (V := V) (E := E) (G := G) (K := K) hn h147 hT htx h148 h154 hq
    rw [show q + rl (spc tx) n q = sk tx n q from rfl] at v3
    obtain ⟨g1, g2, g3, g4'⟩ := v3
    have gfr : rfr F0 H := fun j a b c d e g => by
      rw [g1 j c (by omega) (by omega) (by omega) (by omega) (by omega) (by omega) (by omega)]
      exact hfr j a b c d e g
    have j147 : H 147 = nI n := by rw [g1 147 (by decide) (by decide) (by decide) (by decide) (by decide) (by decide) (by decide) (by decide), h147]
    have j28 : H 28 = nI (na S) := by rw [g1 28 (by decide) (by decide) (by decide) (by decide) (by decide) (by decide) (by decide) (by decide), h28]
    obtain ⟨pp1, pp2, pp3, pp4, pp5⟩ := hp
    have hpr : pr H W V E G K s S := ⟨by rw [g1 31 (by decide) (by decide) (by decide) (by decide) (by decide) (by decide) (by decide) (by decide), pp1], by rw [g1 156 (by decide) (by decide) (by decide) (by decide) (by decide) (by decide) (by decide) (by decide), pp2], by rw [g1 157 (by decide) (by decide) (by decide) (by decide) (by decide) (by decide) (by decide) (by decide), pp3], pp4, pp5⟩
    rw [pz_s]
    by_cases wl : lxf tx n (sk tx n q) = 0
    · rw [if_pos wl]
      obtain ⟨x1, x2, x3, x4, x5, x6, x7⟩ := g3 wl
      have h4 := lxf_k wl
      have hx' := psk_mono hx s1
      have hg : gst s := hx.1
      have hl : s.length + S.length < 196 := by
        have : s.length + S.length < q := hx.2.2.2.2.2.2 (by show m ≠ 0; omega)
        omega
      have ea : pa tx n f (sk tx n q) (m, s, S, t) = match act tx n (sk tx n q) (m, s, S, t) with
          | .inl e => (e, sk tx n q, S)
          | .inr y => pz tx n f (tke tx n (sk tx n q)) y := by
        unfold pa
        rw [if_neg (fun z => by have : m = 0 := z.2; omega)]
        rfl
      rw [ea]
      -- what follows a step
      have fault : ∀ (e : Nat) (M : mz_N) (u1 u2 : Bool), act tx n (sk tx n q) (m, s, S, t) = .inl e → rres N H E G (sk tx n q) M (.inl e) → (∃ m, mz_ok cq_447_14 cd_447_14 m (u1, u2, M)) ∧ rxq N tx n F0 E G (e, sk tx n q, S) (na S) t (mz_run cq_447_14 (u1, u2, M)) := fun e M u1 u2 he hr => by
        obtain ⟨F', W', V', K', r1, r2, r3, r4⟩ := hr
        obtain ⟨q1, q2⟩ := r3 e rfl
        have hee := act_e he
        subst r1
        have hne : ¬ F' 154 = 0 := by
          rw [q1, nI_eq0 (by omega)]
          omega
        obtain ⟨z1, z2⟩ := r_stop (N := N) (F := F') (W := W') (V := V') (E := E) (G := G) (K := K') (v1 := u1) (v2 := u2) (Or.inr hne)
        rw [z2]
        refine ⟨z1, Or.inl ⟨by show e ≠ 0; omega, F', W', V', K', rfl, fun j a b c d e g => ?_, ?_, q1, q2, ?_⟩⟩
        · rw [r2 j b c (by omega) e g]; exact gfr j a b c d e g
        · rw [r2 147 (by decide) (by decide) (by decide) (by decide) (by decide), j147]
        · rw [r2 28 (by decide) (by decide) (by decide) (by decide) (by decide), j28]
      have good : ∀ (y : PSt) (M : mz_N), act tx n (sk tx n q) (m, s, S, t) = .inr y → rres N H E G (sk tx n q) M (.inr y) → (y.1 = 2 ∨ y.1 = 3) → na (rst y) = na S → y.2.2.2 = t → (∃ m, mz_ok cq_447_14 cd_447_14 m (decide (y.1 = 2), true, M)) ∧ rxq N tx n F0 E G (pz tx n f (tke tx n (sk tx n q)) y) (na S) t (mz_run cq_447_14 (decide (y.1 = 2), true, M)) := fun y M hy hr hy1 hna hyt => by
        obtain ⟨F', W', V', K', r1, r2, r3, r4⟩ := hr
        obtain ⟨q1, q2, q3⟩ := r4 y rfl
        obtain ⟨w1, w2⟩ := act_ok hx' h4 hy
        obtain ⟨t1, t2, t3⟩ := tke_ok w2 h4
        have er : rst y = y.2.2.1 := by unfold rst; rw [if_neg (by omega)]
        rw [er] at hna q3
        subst r1
        have := ih (tke tx n (sk tx n q)) y F' W' V' K' t3 (psk_mono w1 (by omega)) hy1 (by omega) (fun j a b c d e g => by rw [r2 j b c (by omega) e g]; exact gfr j a b c d e g) (by rw [r2 147 (by decide) (by decide) (by decide) (by decide) (by decide), j147]) (by rw [r2 148 (by decide) (by decide) (by decide) (by decide) (by decide), x3]) q1 (by rw [q2, x2, h35]) (by rw [r2 28 (by decide) (by decide) (by decide) (by decide) (by decide), j28, hna]) q3
        rw [hna, hyt] at this
        exact this
      by_cases m2 : m = 2
      · subst m2
        obtain ⟨b1', b2', b3'⟩ := r_fac (t := t) hn hT htx hpr hl hg h4 j147 x5 g2 x4 x6 x7 x1
        have key : ∃ u1, cq_447_14 (decide (2 = 2), true, rsM N F W V E G K) = .inl (u1, true, (cf_448_0 (rsM N H W V E G K)).2) ∧ (u1 = !(cf_448_0 (rsM N H W V E G K)).1) := by
          rw [cq_447_14]
          show ∃ u1, (if true = true then (if (rsM N F W V E G K).1 232 154 = 0 then (if (cf_440_0 (rsM N F W V E G K)).1 232 154 = 0 then (if decide (2 = 2) = true then _ else _) else _) else _) else _) = _ ∧ _
          rw [if_pos rfl, rs_o, if_pos h154, v2, rs_o, if_pos x1, if_pos (by decide), cf_447_52, cf_447_52]
          by_cases w : (cf_448_0 (rsM N H W V E G K)).1 = true
          · rw [if_pos w, w]; exact ⟨_, rfl, rfl⟩
          · rw [if_neg w, Bool.eq_false_iff.mpr w]; exact ⟨_, rfl, rfl⟩
        have kd : cd_447_14 (decide (2 = 2), true, rsM N F W V E G K) := by
          rw [cd_447_14]
          refine ⟨fun _ => ⟨fun _ => ⟨v1, fun _ => ⟨fun _ => ⟨?_, fun _ => trivial, fun _ => trivial⟩, fun z => absurd (show decide (2 = 2) = true by decide) z⟩, fun z => ?_⟩, fun _ => trivial⟩, fun _ => trivial⟩
          · show cp_448_0 (cf_440_0 (rsM N F W V E G K))
            rw [v2]; exact b1'
          · refine absurd ?_ z
            show (cf_440_0 (rsM N F W V E G K)).1 232 154 = 0
            rw [v2, rs_o]; exact x1
        obtain ⟨u1, ku, ku2⟩ := key
        cases hact : act tx n (sk tx n q) (2, s, S, t) with
        | inl e =>
          rw [hact] at b2'
          exact lp_l (s := (decide (2 = 2), true, rsM N F W V E G K)) (f := cq_447_14) (P := cd_447_14) (Q := fun r => rxq N tx n F0 E G (e, sk tx n q, S) (na S) t r) kd ku (fault e _ u1 true hact b2')
        | inr y =>
          rw [hact] at b2'
          have hy := opd_c hg (show opd (tkk tx n (sk tx n q)) (tkc tx n (sk tx n q)) (nvd tx (sk tx n q) (rl (fun i => dg (tx i)) n (sk tx n q))) (wnm tx (sk tx n q) (tke tx n (sk tx n q))) s S t = .inr y from hact)
          have eu : u1 = decide (y.1 = 2) := by
            rw [ku2, b3' y hact]
            rcases hy.2.2 with z | z <;> rw [z] <;> rfl
          rw [eu] at ku
          exact lp_l (s := (decide (2 = 2), true, rsM N F W V E G K)) (f := cq_447_14) (P := cd_447_14) (Q := fun r => rxq N tx n F0 E G (pz tx n f (tke tx n (sk tx n q)) y) (na S) t r) kd ku (good y _ hact b2' hy.2.2 hy.1 hy.2.1)
      · have m3 : m = 3 := by omega
        subst m3
        obtain ⟨b1', b2', b3'⟩ := r_beh (t := t) htx hpr hl hg h4 x5 g2 x6 x1
        have key : ∃ u2, cq_447_14 (decide (3 = 2), true, rsM N F W V E G K) = .inl ((cf_455_0 (rsM N H W V E G K)).1, u2, (cf_455_0 (rsM N H W V E G K)).2) ∧ ((cf_455_0 (rsM N H W V E G K)).1 = true → u2 = true) ∧ ((cf_455_0 (rsM N H W V E G K)).1 = false → ((cf_455_0 (rsM N H W V E G K)).2.1 232 152 = 59 → (cf_455_0 (rsM N H W V E G K)).2.1 232 149 = 3 → u2 = false) ∧ (¬ (cf_455_0 (rsM N H W V E G K)).2.1 232 152 = 59 → u2 = true)) := by
          rw [cq_447_14]
          show ∃ u2, (if true = true then (if (rsM N F W V E G K).1 232 154 = 0 then (if (cf_440_0 (rsM N F W V E G K)).1 232 154 = 0 then (if decide (3 = 2) = true then _ else cf_447_56 (decide (3 = 2)) true (cf_440_0 (rsM N F W V E G K))) else _) else _) else _) = _ ∧ _
          rw [if_pos rfl, rs_o, if_pos h154, v2, rs_o, if_pos x1, if_neg (by decide), cf_447_56, rs_o, if_pos x1]
          by_cases w : (cf_455_0 (rsM N H W V E G K)).1 = true
          · rw [if_pos w, cf_447_89, cf_447_94]
            exact ⟨true, rfl, fun _ => rfl, fun z => by rw [w] at z; cases z⟩
          · rw [if_neg w]
            by_cases v : (cf_455_0 (rsM N H W V E G K)).2.1 232 152 = 59
            · rw [if_pos v]
              by_cases v' : (cf_455_0 (rsM N H W V E G K)).2.1 232 149 = 3
              · rw [if_pos v', cf_447_94]
                exact ⟨false, rfl, fun z => absurd z w, fun _ => ⟨fun _ _ => rfl, fun z => absurd v z⟩⟩
              · rw [if_neg v', cf_447_89, cf_447_94]
                exact ⟨true, rfl, fun _ => rfl, fun _ => ⟨fun _ z => absurd z v', fun _ => rfl⟩⟩
            · rw [if_neg v, cf_447_89, cf_447_94]
              exact ⟨true, rfl, fun _ => rfl, fun _ => ⟨fun z _ => absurd z v, fun _ => rfl⟩⟩
        have kd : cd_447_14 (decide (3 = 2), true, rsM N F W V E G K) := by
          have kk : cp_447_56 (decide (3 = 2)) true (cf_440_0 (rsM N F W V E G K)) := by
            rw [cp_447_56, v2]
            exact ⟨fun _ => ⟨b1', fun _ => trivial, fun _ => ⟨fun _ => ⟨fun _ => trivial, fun _ => trivial⟩, fun _ => trivial⟩⟩, fun _ => trivial⟩
          rw [cd_447_14]
          exact ⟨fun _ => ⟨fun _ => ⟨v1, fun _ => ⟨fun z => absurd z (show ¬ decide (3 = 2) = true by decide), fun _ => kk⟩, fun _ => kk⟩, fun _ => trivial⟩, fun _ => trivial⟩
        obtain ⟨u2, ku, ku1, ku2⟩ := key
        cases hact : act tx n (sk tx n q) (3, s, S, t) with
        | inl e =>
          rw [hact] at b2'
          exact lp_l (s := (decide (3 = 2), true, rsM N F W V E G K)) (f := cq_447_14) (P := cd_447_14) (Q := fun r => rxq N tx n F0 E G (e, sk tx n q, S) (na S) t r) kd ku (fault e _ _ u2 hact b2')
        | inr y =>
          rw [hact] at b2'
          have hy := opr_c hg (show opr (tkc tx n (sk tx n q)) s S t = .inr y from hact)
          have hb := b3' y hact
          obtain ⟨w1, w2⟩ := act_ok hx' h4 hact
          have hr' := b2'
          obtain ⟨F', W', V', K', r1, r2, r3, r4⟩ := hr'
          have hc := htx (sk tx n q)
          have ec : tkc tx n (sk tx n q) = 59 ∨ tkc tx n (sk tx n q) = 41 → (cf_455_0 (rsM N H W V E G K)).2.1 232 152 = nI (tkc tx n (sk tx n q)) ∧ (cf_455_0 (rsM N H W V E G K)).2.1 232 149 = 3 := fun hh => by
            obtain ⟨k1, k2, k3, k4⟩ := tkc_k (tx := tx) (n := n) (p := sk tx n q) h4
            have k3' : tkk tx n (sk tx n q) = 3 := by omega
            rw [r1, rs_o, r2 152 (by decide) (by decide) (by decide) (by decide) (by decide), r2 149 (by decide) (by decide) (by decide) (by decide) (by decide), x6 w2, x5]
            refine ⟨?_, ?_⟩
            · unfold tkc; rw [if_pos k3']
            · unfold tkq; rw [k3']; rfl
          rcases hy.2.2.1 with z | z | z
          · obtain ⟨y1, y2, y3⟩ := hy.2.2.2.1 z
            obtain ⟨o1, o2⟩ := ec (Or.inl y1)
            have hbf : (cf_455_0 (rsM N H W V E G K)).1 = false := by rw [hb, z]; rfl
            have eu : u2 = false := (ku2 hbf).1 (by rw [o1, y1]; rfl) o2
            obtain ⟨q1, q2, q3⟩ := r4 y rfl
            obtain ⟨t1, t2, t3⟩ := tke_ok w2 h4
            have ey : y = (0, [], (2, t) :: rst y, t) := by
              obtain ⟨ym, ys, yS, yt⟩ := y
              simp only at z y2 y3 hy
              rw [← y3, z, y2, hy.2.1]
            rw [eu, r1] at ku
            obtain ⟨z1, z2⟩ := r_stop (N := N) (F := F') (W := W') (V := V') (E := E) (G := G) (K := K') (v1 := (cf_455_0 (rsM N H W V E G K)).1) (v2 := false) (Or.inl rfl)
            refine lp_l (s := (decide (3 = 2), true, rsM N F W V E G K)) (f := cq_447_14) (P := cd_447_14) (Q := fun r => rxq N tx n F0 E G (pz tx n f (tke tx n (sk tx n q)) y) (na S) t r) kd ku ⟨z1, ?_⟩
            rw [z2]
            refine Or.inr ⟨f, tke tx n (sk tx n q), rst y, by omega, t3, ?_, ?_, hy.1, F', W', V', K', rfl, fun j a b c d e g => ?_, ?_, q1, by rw [q2, x2, h35], ?_, ?_, q3.1, q3.2.2.2.2⟩
            · rw [← ey]; exact psk_mono w1 (by omega)
            · rw [← ey]
            · rw [r2 j b c (by omega) e g]; exact gfr j a b c d e g
            · rw [r2 147 (by decide) (by decide) (by decide) (by decide) (by decide), j147]
            · rw [r2 148 (by decide) (by decide) (by decide) (by decide) (by decide), x3]
            · rw [r2 28 (by decide) (by decide) (by decide) (by decide) (by decide), j28, hy.1]
          · have hbt : (cf_455_0 (rsM N H W V E G K)).1 = true := by rw [hb, z]; rfl
            rw [ku1 hbt, hb] at ku
            exact lp_l (s := (decide (3 = 2), true, rsM N F W V E G K)) (f := cq_447_14) (P := cd_447_14) (Q := fun r => rxq N tx n F0 E G (pz tx n f (tke tx n (sk tx n q)) y) (na S) t r) kd ku (good y _ hact b2' (Or.inl z) hy.1 hy.2.1)
          · have y1 := hy.2.2.2.2 z
            obtain ⟨o1, o2⟩ := ec (Or.inr y1)
            have hbf : (cf_455_0 (rsM N H W V E G K)).1 = false := by rw [hb, z]; rfl
            have eu : u2 = true := (ku2 hbf).2 (by rw [o1, y1]; decide)
            rw [eu, hb] at ku
            exact lp_l (s := (decide (3 = 2), true, rsM N F W V E G K)) (f := cq_447_14) (P := cd_447_14) (Q := fun r => rxq N tx n F0 E G (pz tx n f (tke tx n (sk tx n q)) y) (na S) t r) kd ku (good y _ hact b2' (Or.inr z) hy.1 hy.2.1)
    · rw [if_neg wl]
      obtain ⟨x1, x2⟩ := g4' wl
      have hlf : lxf tx n (sk tx n q) < 10 := by unfold lxf; repeat' split <;> try omega
      have hne : ¬ H 154 = 0 := by rw [x1, nI_eq0 (by omega)]; exact wl
      obtain ⟨z1, z2⟩ := r_stop (N := N) (F := H) (W := W) (V := V) (E := E) (G := G) (K := K) (v1 := decide (m = 2)) (v2 := true) (Or.inr hne)
      refine lp_l (s := (decide (m = 2), true, rsM N F W V E G K)) (s2 := (decide (m = 2), true, rsM N H W V E G K)) (f := cq_447_14) (P := cd_447_14) (Q := fun r => rxq N tx n F0 E G (lxf tx n (sk tx n q), sk tx n q, S) (na S) t r) ?_ ?_ ⟨z1, ?_⟩
      · rw [cd_447_14]
        refine ⟨fun _ => ⟨fun _ => ⟨v1, fun z => absurd (show H 154 = 0 by have z' : (cf_440_0 (rsM N F W V E G K)).1 232 154 = 0 := z; rw [v2, rs_o] at z'; exact z') hne, fun _ => ?_⟩, fun _ => trivial⟩, fun _ => trivial⟩
        show cp_447_56 _ _ (cf_440_0 (rsM N F W V E G K))
        rw [cp_447_56, v2, rs_o]
        exact ⟨fun z => absurd z hne, fun _ => trivial⟩
      · rw [cq_447_14]
        show (if true = true then (if (rsM N F W V E G K).1 232 154 = 0 then (if (cf_440_0 (rsM N F W V E G K)).1 232 154 = 0 then _ else cf_447_56 (decide (m = 2)) true (cf_440_0 (rsM N F W V E G K))) else _) else _) = _
        rw [if_pos rfl, rs_o, if_pos h154, v2, rs_o, if_neg hne, cf_447_56, rs_o, if_neg hne]
      · rw [z2]
        exact Or.inl ⟨wl, H, W, V, K, rfl, gfr, j147, x1, x2, j28⟩
end Exp
