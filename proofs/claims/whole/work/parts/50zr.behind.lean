/-! PURE (50zr): the reference behind an operand. -/
section Beh
variable {N : mz_N} {n p t : Nat} {tx : Nat → Nat} {F W V E G K : Nat → Int32} {s : List Nat} {S : List (Nat × Nat)}
theorem rp_topd (h : F 156 = nI s.length) (hl : s.length ≤ 196) (hg : gst s) (hs : stk K rk s) : cp_451_0 (rsM N F W V E G K) ∧ (cf_451_0 (rsM N F W V E G K) = 2 ↔ s.headD 0 = 63) ∧ (cf_451_0 (rsM N F W V E G K) = 40 ↔ s.headD 0 = 40) ∧ cf_456_0 (cf_451_0 (rsM N F W V E G K)) = nI (stn (s.headD 0)) := by
  cases s with
  | nil =>
    obtain ⟨a, b⟩ := rp_top0 (N := N) (W := W) (V := V) (E := E) (G := G) (K := K) h
    rw [b]
    exact ⟨a, ⟨fun q => absurd q (by decide), fun q => absurd (show (0 : Nat) = 63 from q) (by decide)⟩, ⟨fun q => absurd q (by decide), fun q => absurd (show (0 : Nat) = 40 from q) (by decide)⟩, by decide +kernel⟩
  | cons c s =>
    have hl' : s.length + 1 ≤ 196 := hl
    obtain ⟨a, b⟩ := rp_top (N := N) (W := W) (V := V) (E := E) (G := G) (K := K) (c := rk c) (l := s.length) h hl' hs.1
    obtain ⟨-, c2, -, c4⟩ := rk_i hg.1
    rw [b]
    exact ⟨a, c2, c4, fm_r c (oks_lt hg.1)⟩
theorem nst_le : ∀ s : List Nat, nst s ≤ s.length := by
  intro s
  induction s with
  | nil => exact Nat.le_refl _
  | cons c s ih =>
    show nst s + isn c ≤ s.length + 1
    have : isn c ≤ 1 := by unfold isn; split <;> omega
    omega
theorem r_hld {c : Nat} {E G : Nat → Int32} {F0 : Nat → Int32} (hp : pr F W V E G K s S) (hl : s.length < 196) (ho : oks c) (h0 : ∀ j, j ≠ 31 → j ≠ 35 → j ≠ 154 → j ≠ 156 → j ≠ 157 → F j = F0 j) (h35 : F 35 = F0 35) (h154 : F 154 = 0) : cp_454_0 (nI (rk c)) (rsM N F W V E G K) ∧ rres N F0 E G p (cf_454_0 (nI (rk c)) (rsM N F W V E G K)) (.inr (2, c :: s, S, t)) := by
  obtain ⟨b1', b2'⟩ := rp_hold (N := N) (F := F) (W := W) (V := V) (E := E) (G := G) (K := K) (c := c) (l := s.length) (m := nst s) hp.2.1 hl ho hp.2.2.1
  rw [b2']
  refine ⟨b1', _, W, V, _, rfl, fun j a b c d e => ?_, (fun e he => by cases he), fun x hx => ?_⟩
  · rw [up_a, if_neg e, up_a, if_neg d]; exact h0 j a b c d e
  · cases hx
    exact ⟨h154, h35, hp.1, rfl, rfl, ⟨by rw [up_a, if_pos rfl], stk_up (Nat.le_refl _) hp.2.2.2.1⟩, hp.2.2.2.2⟩
/-- a fault, then something held -/
theorem r_hlf {c e : Nat} {E G : Nat → Int32} {F0 : Nat → Int32} (hp : pr F W V E G K s S) (hl : s.length < 196) (ho : oks c) (h0 : ∀ j, j ≠ 31 → j ≠ 35 → j ≠ 154 → j ≠ 156 → j ≠ 157 → F j = F0 j) (h154 : F 154 = 0) (h150 : F 150 = nI p) : cp_454_0 (nI (rk c)) (cf_443_0 (nI e) (rsM N F W V E G K)) ∧ rres N F0 E G p (cf_454_0 (nI (rk c)) (cf_443_0 (nI e) (rsM N F W V E G K))) (.inl e) := by
  rw [rs_bl h154]
  obtain ⟨b1', b2'⟩ := rp_hold (N := N) (F := upd (upd F 154 (nI e)) 35 (F 150)) (W := W) (V := V) (E := E) (G := G) (K := K) (c := c) (l := s.length) (m := nst s) hp.2.1 hl ho hp.2.2.1
  rw [b2']
  refine ⟨b1', _, W, V, _, rfl, fun j a b c d e => ?_, fun e he => ?_, (fun x hx => by cases hx)⟩
  · rw [up_a, if_neg e, up_a, if_neg d, up_a, if_neg b, up_a, if_neg c]; exact h0 j a b c d e
  · cases he
    exact ⟨rfl, h150⟩
theorem r_end {c : Nat} {F0 : Nat → Int32} (hc : c < 128) (hp : pr F W V E G K s S) (hl : s.length + S.length < 196) (hg : gst s) (h0 : ∀ j, j ≠ 31 → j ≠ 35 → j ≠ 154 → j ≠ 156 → j ≠ 157 → F j = F0 j) (h35 : F 35 = F0 35) (h154 : F 154 = 0) (h150 : F 150 = nI p) (h152 : F 152 = nI c) :
    ((((rsM N F W V E G K).1 232 152) = 58 → ((cp_451_0 (rsM N F W V E G K)) ∧ (((cf_451_0 (rsM N F W V E G K)) = 2 → ((0 < ((rsM N F W V E G K).1 232 156) → (mz_ib (((rsM N F W V E G K).1 232 156) - 1) 400)) ∧ (¬ (0 < ((rsM N F W V E G K).1 232 156)) → (cp_455_156 (rsM N F W V E G K))))) ∧ (¬ ((cf_451_0 (rsM N F W V E G K)) = 2) → (cp_455_156 (rsM N F W V E G K)))))) ∧ (¬ (((rsM N F W V E G K).1 232 152) = 58) → (cp_455_156 (rsM N F W V E G K)))) ∧
    rres N F0 E G p (if ((rsM N F W V E G K).1 232 152) = 58 then (if (cf_451_0 (rsM N F W V E G K)) = 2 then (if 0 < ((rsM N F W V E G K).1 232 156) then (true, mz_wI (rsM N F W V E G K) 339 (((rsM N F W V E G K).1 232 156) - 1) 3) else (cf_455_156 (rsM N F W V E G K))) else (cf_455_156 (rsM N F W V E G K))) else (cf_455_156 (rsM N F W V E G K))).2 (if c = 58 ∧ s.headD 0 = 63 then .inr (2, 58 :: s.tail, S, t)
      else if c = 41 ∧ s.headD 0 = 40 then .inr (3, (tb s.tail S).1, (tb s.tail S).2, t)
      else if c = 59 ∧ s.length = 0 then .inr (0, [], (2, t) :: S, t)
      else .inl 2) ∧
    ∀ y : PSt, (if c = 58 ∧ s.headD 0 = 63 then .inr (2, 58 :: s.tail, S, t)
      else if c = 41 ∧ s.headD 0 = 40 then .inr (3, (tb s.tail S).1, (tb s.tail S).2, t)
      else if c = 59 ∧ s.length = 0 then .inr (0, [], (2, t) :: S, t)
      else .inl 2 : Nat ⊕ PSt) = .inr y → (if ((rsM N F W V E G K).1 232 152) = 58 then (if (cf_451_0 (rsM N F W V E G K)) = 2 then (if 0 < ((rsM N F W V E G K).1 232 156) then (true, mz_wI (rsM N F W V E G K) 339 (((rsM N F W V E G K).1 232 156) - 1) 3) else (cf_455_156 (rsM N F W V E G K))) else (cf_455_156 (rsM N F W V E G K))) else (cf_455_156 (rsM N F W V E G K))).1 = decide (y.1 = 2) := by
  obtain ⟨p1, p2, p3, p4, p5⟩ := hp
  obtain ⟨e1, e2, e3, e4⟩ := rp_topd (N := N) (F := F) (W := W) (V := V) (E := E) (G := G) (K := K) (s := s) p2 (by omega) hg p4
  have eN : ∀ b, b < 128 → (nI c = nI b ↔ c = b) := fun b hb => nI_eq (by omega) (by omega)
  rw [rs_o, h152, p2]
  by_cases w1 : c = 58 ∧ s.headD 0 = 63
  · have l1 : nI c = 58 := by rw [w1.1]; rfl
    rw [if_pos l1, if_pos (e2.mpr w1.2), if_pos w1]
    cases s with
    | nil => exact absurd (show (0 : Nat) = 63 from w1.2) (by decide)
    | cons d s3 =>
      have hd : d = 63 := w1.2
      subst hd
      have el : (63 :: s3 : List Nat).length = s3.length + 1 := rfl
      have hl' : s3.length + 1 + S.length < 196 := hl
      have lp : (0 : Int32) < nI (63 :: s3 : List Nat).length := (nI_gt0 (by rw [el]; omega)).mpr (by rw [el]; omega)
      rw [if_pos lp, rs_w5, el, nIs1, nI_clamp (by omega)]
      refine ⟨⟨fun _ => ⟨e1, fun _ => ⟨fun _ => ib_n (by omega) (by omega), fun q => absurd lp q⟩, fun q => absurd (e2.mpr w1.2) q⟩, fun q => absurd l1 q⟩, ⟨F, W, V, _, rfl, h0, (fun e he => by cases he), fun x hx => ?_⟩, (fun y hy => by cases hy; rfl)⟩
      cases hx
      exact ⟨h154, h35, p1, p2, p3, ⟨by rw [up_a, if_pos (show (63 :: s3 : List Nat).tail.length = s3.length from rfl)]; rfl, stk_up (Nat.le_refl _) p4.2⟩, p5⟩
  · rw [if_neg w1]
    have hcp : (nI c = 58 → cf_451_0 (rsM N F W V E G K) = 2 → False) := fun a b => w1 ⟨(eN 58 (by omega)).mp a, e2.mp b⟩
    have e0 : ∀ X Y : Bool × mz_N, (if nI c = 58 then (if cf_451_0 (rsM N F W V E G K) = 2 then X else Y) else Y) = Y := fun X Y => by
      by_cases q1 : nI c = 58
      · rw [if_pos q1, if_neg (fun q2 => hcp q1 q2)]
      · rw [if_neg q1]
    rw [e0]
    have pre : ∀ {Z A : Prop}, Z → ((nI c = 58 → cp_451_0 (rsM N F W V E G K) ∧ (cf_451_0 (rsM N F W V E G K) = 2 → A) ∧ (¬ cf_451_0 (rsM N F W V E G K) = 2 → Z)) ∧ (¬ nI c = 58 → Z)) := fun z => ⟨fun q1 => ⟨e1, fun q2 => (hcp q1 q2).elim, fun _ => z⟩, fun _ => z⟩
    rw [cp_455_156, cf_455_156, cp_455_184, cf_455_184]
    simp only [rs_o, h152, p2]
    by_cases w2 : c = 41 ∧ s.headD 0 = 40
    · have l2 : nI c = 41 := by rw [w2.1]; rfl
      rw [if_pos l2, if_pos (e3.mpr w2.2), if_pos w2]
      cases s with
      | nil => exact absurd (show (0 : Nat) = 40 from w2.2) (by decide)
      | cons d s3 =>
        have hd : d = 40 := w2.2
        subst hd
        have hl' : s3.length + 1 + S.length < 196 := hl
        obtain ⟨d1, d2⟩ := rp_drop (N := N) (F := F) (W := W) (V := V) (E := E) (G := G) (K := K) (c := 40) (l := s3.length) (m := nst s3) p2 (by omega) p4.1 hg.1 p3
        have eF : upd (upd F 156 (nI s3.length)) 157 (nI (nst s3)) = g4 F (nI (nw S)) (nI s3.length) (nI (nst s3)) := by
          rw [← g4_57 (z := F 157), ← g4_56 (y := F 156), g4_self p1 rfl rfl]
        rw [eF] at d2
        obtain ⟨b1', W2, V2, b2', b3'⟩ := tb_r (N := N) (F := F) (E := E) (G := G) (K := K) s3 S W V (by omega) hg.2.2 p4.2 p5
        obtain ⟨⟨k1, k2, k3, k4, k5⟩, -⟩ := tb_ok s3 S hg.2.2
        rw [d2, b2']
        refine ⟨pre ⟨fun _ => ⟨e1, fun _ => ⟨d1, b1'⟩, fun q => absurd (e3.mpr w2.2) q⟩, fun q => absurd l2 q⟩, ⟨_, W2, V2, K, rfl, fun j a b c d e => ?_, (fun e he => by cases he), fun x hx => ?_⟩, (fun y hy => by cases hy; rfl)⟩
        · rw [g4_n a d e]; exact h0 j a b c d e
        · cases hx
          exact ⟨h154, h35, rfl, rfl, rfl, k4 K rk p4.2, b3'⟩
    · rw [if_neg w2]
      have hcp2 : (nI c = 41 → cf_451_0 (rsM N F W V E G K) = 40 → False) := fun a b => w2 ⟨(eN 41 (by omega)).mp a, e3.mp b⟩
      have e02 : ∀ X Y : Bool × mz_N, (if nI c = 41 then (if cf_451_0 (rsM N F W V E G K) = 40 then X else Y) else Y) = Y := fun X Y => by
        by_cases q1 : nI c = 41
        · rw [if_pos q1, if_neg (fun q2 => hcp2 q1 q2)]
        · rw [if_neg q1]
      rw [e02]
      have pre2 : ∀ {Z A : Prop}, Z → ((nI c = 41 → cp_451_0 (rsM N F W V E G K) ∧ (cf_451_0 (rsM N F W V E G K) = 40 → A) ∧ (¬ cf_451_0 (rsM N F W V E G K) = 40 → Z)) ∧ (¬ nI c = 41 → Z)) := fun z => ⟨fun q1 => ⟨e1, fun q2 => (hcp2 q1 q2).elim, fun _ => z⟩, fun _ => z⟩
      have lz : 0 < nI s.length ↔ 0 < s.length := nI_gt0 (by omega)
      by_cases w3 : c = 59 ∧ s.length = 0
      · have l3 : nI c = 59 := by rw [w3.1]; rfl
        have lz' : ¬ 0 < nI s.length := fun q => by have := lz.mp q; omega
        rw [if_pos l3, if_neg lz', if_pos w3]
        refine ⟨pre (pre2 ⟨fun _ => ⟨fun _ => trivial, fun _ => trivial⟩, fun _ => trivial⟩), ⟨F, W, V, K, rfl, h0, (fun e he => by cases he), fun x hx => ?_⟩, (fun y hy => by cases hy; rfl)⟩
        cases hx
        have hn : s = [] := List.length_eq_zero_iff.mp w3.2
        subst hn
        exact ⟨h154, h35, p1, p2, p3, trivial, p5⟩
      · have e03 : ∀ X Y : Bool × mz_N, (if nI c = 59 then (if 0 < nI s.length then Y else X) else Y) = Y := fun X Y => by
          by_cases q1 : nI c = 59
          · rw [if_pos q1, if_pos (lz.mpr (by
              have : c = 59 := (eN 59 (by omega)).mp q1
              rcases Nat.eq_zero_or_pos s.length with v | v
              · exact absurd ⟨this, v⟩ w3
              · exact v))]
          · rw [if_neg q1]
        rw [e03, if_neg w3, cf_455_200]
        exact ⟨pre (pre2 ⟨fun _ => ⟨fun _ => trivial, fun _ => trivial⟩, fun _ => trivial⟩), rres_f (e := 2) h0 h154 h150, (fun y hy => by cases hy)⟩
theorem r_beh (htx : ∀ j, tx j < 128) (hp : pr F W V E G K s S) (hl : s.length + S.length < 196) (hg : gst s) (hk : tkk tx n p ≠ 4) (h149 : F 149 = nI (tkq tx n p)) (h150 : F 150 = nI p) (h152 : tkk tx n p ≠ 0 → F 152 = nI (tx p)) (h154 : F 154 = 0) :
    cp_455_0 (rsM N F W V E G K) ∧ rres N F E G p (cf_455_0 (rsM N F W V E G K)).2 (act tx n p (3, s, S, t)) ∧ ∀ y : PSt, act tx n p (3, s, S, t) = .inr y → (cf_455_0 (rsM N F W V E G K)).1 = decide (y.1 = 2) := by
  have hF : ∀ j, j ≠ 31 → j ≠ 35 → j ≠ 154 → j ≠ 156 → j ≠ 157 → F j = F j := fun _ _ _ _ _ _ => rfl
  obtain ⟨k1, k2, k3, k4⟩ := tkc_k (tx := tx) (n := n) (p := p) hk
  have hG : ∀ x y z : Int32, ∀ j, j ≠ 31 → j ≠ 35 → j ≠ 154 → j ≠ 156 → j ≠ 157 → g4 F x y z j = F j := fun x y z j a b c d e => g4_n a d e
  rw [cp_455_0, cf_455_0]
  show _ ∧ rres N F E G p _ (opr (tkc tx n p) s S t) ∧ ∀ y, opr (tkc tx n p) s S t = .inr y → _
  simp only [rs_o, h149]
  by_cases w3 : tkk tx n p = 3
  · have l3 : nI (tkq tx n p) = 3 := by unfold tkq; rw [w3]; rfl
    have ec : tkc tx n p = tx p := by unfold tkc; rw [if_pos w3]
    have hc := htx p
    rw [if_pos l3, h152 (by omega), ec]
    generalize tx p = c at *
    have fm := fm_r0 c hc
    have sl := stn_le c
    unfold opr
    rw [fm]
    by_cases w1 : 1 < stn c
    · have l1 : (1 : Int32) < nI (stn c) := (nI_ltI (a := 1) (by omega) (by omega)).mpr w1
      obtain ⟨a1, W', V', a2, a3⟩ := stl_r (f := stn c) (N := N) (F := F) (E := E) (G := G) (K := K) (by omega) sl s S W V (by omega) hg hp.2.2.2.1 hp.2.2.2.2
      rw [g4_pr hp] at a1 a2
      obtain ⟨⟨i1, i2, i3, i4, i5⟩, i6, i7⟩ := stl_ok (f := stn c) (by omega) s S hg
      have ho : oks c := by
        unfold stn at w1
        unfold oks
        by_cases a : c = 42
        · omega
        · by_cases b : c = 43
          · omega
          · by_cases d : c = 45
            · omega
            · simp only [a, b, d, if_false] at w1
              split at w1
              · omega
              · split at w1 <;> omega
      obtain ⟨z1, z2⟩ := r_hld (N := N) (p := p) (t := t) (c := c) (s := (stl (stn c) s S).1) (S := (stl (stn c) s S).2) (F := g4 F (nI (nw (stl (stn c) s S).2)) (nI (stl (stn c) s S).1.length) (nI (nst (stl (stn c) s S).1))) (W := W') (V := V') (E := E) (G := G) (K := K) (F0 := F) ⟨rfl, rfl, rfl, i4 K rk hp.2.2.2.1, a3⟩ (by omega) ho (hG _ _ _) rfl h154
      rw [(rz_op ho (by omega)).2.2] at z1 z2
      rw [if_pos l1, if_pos w1, a2, rs_o, show g4 F (nI (nw (stl (stn c) s S).2)) (nI (stl (stn c) s S).1.length) (nI (nst (stl (stn c) s S).1)) 152 = nI c from h152 (by omega), cf_455_41]
      exact ⟨⟨fun _ => ⟨fun _ => ⟨a1, z1, trivial⟩, fun q => absurd l1 q⟩, fun q => absurd l3 q⟩, z2, (fun y hy => by cases hy; rfl)⟩
    · have l1 : ¬ (1 : Int32) < nI (stn c) := fun q => w1 ((nI_ltI (a := 1) (by omega) (by omega)).mp q)
      rw [if_neg l1, if_neg w1]
      by_cases w2 : stn c = 1
      · have l2 : nI (stn c) = 1 := by rw [w2]; rfl
        obtain ⟨a1, W', V', a2, a3⟩ := stl_r (f := 2) (N := N) (F := F) (E := E) (G := G) (K := K) (by omega) (by omega) s S W V (by omega) hg hp.2.2.2.1 hp.2.2.2.2
        rw [g4_pr hp] at a1 a2
        obtain ⟨⟨i1, i2, i3, i4, i5⟩, i6, i7⟩ := stl_ok (f := 2) (by omega) s S hg
        have a1' : cp_457_0 2 (rsM N F W V E G K) := a1
        have a2' : cf_457_0 2 (rsM N F W V E G K) = rsM N (g4 F (nI (nw (stl 2 s S).2)) (nI (stl 2 s S).1.length) (nI (nst (stl 2 s S).1))) W' V' E G K := a2
        have ho : oks c := by
          unfold stn at w2
          unfold oks
          by_cases a : c = 60
          · omega
          · by_cases b : c = 62
            · omega
            · simp only [a, b, if_false] at w2
              split at w2
              · omega
              · split at w2
                · omega
                · split at w2 <;> omega
        have hpr : pr (g4 F (nI (nw (stl 2 s S).2)) (nI (stl 2 s S).1.length) (nI (nst (stl 2 s S).1))) W' V' E G K (stl 2 s S).1 (stl 2 s S).2 := ⟨rfl, rfl, rfl, i4 K rk hp.2.2.2.1, a3⟩
        obtain ⟨e1, -, -, e4⟩ := rp_topd (N := N) (F := g4 F (nI (nw (stl 2 s S).2)) (nI (stl 2 s S).1.length) (nI (nst (stl 2 s S).1))) (W := W') (V := V') (E := E) (G := G) (K := K) (s := (stl 2 s S).1) rfl (by omega) i2 (i4 K rk hp.2.2.2.1)
        have sl2 := stn_le ((stl 2 s S).1.headD 0)
        have e152 : g4 F (nI (nw (stl 2 s S).2)) (nI (stl 2 s S).1.length) (nI (nst (stl 2 s S).1)) 152 = nI c := h152 (by omega)
        have ek := (rz_op ho (by omega)).2.2
        rw [if_pos l2, if_pos w2, a2', e4]
        by_cases w4 : stn ((stl 2 s S).1.headD 0) = 1
        · have l4 : nI (stn ((stl 2 s S).1.headD 0)) = 1 := by rw [w4]; rfl
          obtain ⟨z1, z2⟩ := r_hlf (N := N) (p := p) (c := c) (e := 2) (F0 := F) hpr (by omega) ho (hG _ _ _) h154 h150
          rw [ek] at z1 z2
          have eb : (cf_443_0 2 (rsM N (g4 F (nI (nw (stl 2 s S).2)) (nI (stl 2 s S).1.length) (nI (nst (stl 2 s S).1))) W' V' E G K)).1 232 152 = nI c := by
            rw [rs_bl (show g4 F (nI (nw (stl 2 s S).2)) (nI (stl 2 s S).1.length) (nI (nst (stl 2 s S).1)) 154 = 0 from h154), rs_o]; exact e152
          rw [if_pos l4, if_pos w4, cp_455_69, cf_455_69, eb]
          exact ⟨⟨fun _ => ⟨fun q => absurd q l1, fun _ => ⟨fun _ => ⟨a1', e1, fun _ => z1, fun q => absurd l4 q⟩, fun q => absurd l2 q⟩⟩, fun q => absurd l3 q⟩, z2, (fun y hy => by cases hy)⟩
        · have l4 : ¬ nI (stn ((stl 2 s S).1.headD 0)) = 1 := fun q => w4 ((nI_eq (b := 1) (by omega) (by omega)).mp q)
          obtain ⟨z1, z2⟩ := r_hld (N := N) (p := p) (t := t) (c := c) (F0 := F) hpr (by omega) ho (hG _ _ _) rfl h154
          rw [ek] at z1 z2
          rw [if_neg l4, if_neg w4, cf_455_69, rs_o, e152]
          exact ⟨⟨fun _ => ⟨fun q => absurd q l1, fun _ => ⟨fun _ => ⟨a1', e1, fun q => absurd q l4, fun _ => by rw [cp_455_69, rs_o, e152]; exact z1⟩, fun q => absurd l2 q⟩⟩, fun q => absurd l3 q⟩, z2, (fun y hy => by cases hy; rfl)⟩
      · have l2 : ¬ nI (stn c) = 1 := fun q => w2 ((nI_eq (b := 1) (by omega) (by omega)).mp q)
        obtain ⟨a1, W', V', a2, a3⟩ := stl_r (f := 1) (N := N) (F := F) (E := E) (G := G) (K := K) (by omega) (by omega) s S W V (by omega) hg hp.2.2.2.1 hp.2.2.2.2
        rw [g4_pr hp] at a1 a2
        obtain ⟨⟨i1, i2, i3, i4, i5⟩, i6, i7⟩ := stl_ok (f := 1) (by omega) s S hg
        have a1' : cp_457_0 1 (rsM N F W V E G K) := a1
        have a2' : cf_457_0 1 (rsM N F W V E G K) = rsM N (g4 F (nI (nw (stl 1 s S).2)) (nI (stl 1 s S).1.length) (nI (nst (stl 1 s S).1))) W' V' E G K := a2
        rw [if_neg l2, if_neg w2]
        by_cases w4 : c = 63
        · have l4 : nI c = 63 := by rw [w4]; rfl
          have hpr : pr (g4 F (nI (nw (stl 1 s S).2)) (nI (stl 1 s S).1.length) (nI (nst (stl 1 s S).1))) W' V' E G K (stl 1 s S).1 (stl 1 s S).2 := ⟨rfl, rfl, rfl, i4 K rk hp.2.2.2.1, a3⟩
          have hnl := nst_le (stl 1 s S).1
          have l10 : nI (nst (stl 1 s S).1) < 10 ↔ nst (stl 1 s S).1 < 10 := nI_ltI (b := 10) (by omega) (by omega)
          rw [if_pos l4, if_pos w4, a2', rs_o, g4_r57]
          by_cases w5 : nst (stl 1 s S).1 < 10
          · obtain ⟨z1, z2⟩ := r_hld (N := N) (p := p) (t := t) (c := 63) (F0 := F) hpr (by omega) (Or.inr (Or.inl rfl)) (hG _ _ _) rfl h154
            rw [if_pos (l10.mpr w5), if_pos w5, cf_455_107]
            exact ⟨⟨fun _ => ⟨fun q => absurd q l1, fun _ => ⟨fun q => absurd q l2, fun _ => ⟨fun _ => ⟨a1', fun _ => z1, fun q => absurd (l10.mpr w5) q⟩, fun q => absurd l4 q⟩⟩⟩, fun q => absurd l3 q⟩, z2, (fun y hy => by cases hy; rfl)⟩
          · obtain ⟨z1, z2⟩ := r_hlf (N := N) (p := p) (c := 63) (e := 5) (F0 := F) hpr (by omega) (Or.inr (Or.inl rfl)) (hG _ _ _) h154 h150
            rw [if_neg (fun q => w5 (l10.mp q)), if_neg w5, cf_455_107]
            exact ⟨⟨fun _ => ⟨fun q => absurd q l1, fun _ => ⟨fun q => absurd q l2, fun _ => ⟨fun _ => ⟨a1', fun q => absurd (l10.mp q) w5, fun _ => z1⟩, fun q => absurd l4 q⟩⟩⟩, fun q => absurd l3 q⟩, z2, (fun y hy => by cases hy)⟩
        · have l4 : ¬ nI c = 63 := fun q => w4 ((nI_eq (b := 63) (by omega) (by omega)).mp q)
          obtain ⟨b1', W2, V2, b2', b3'⟩ := clo_r (N := N) (F := F) (E := E) (G := G) (K := K) (stl 1 s S).1 (stl 1 s S).2 W' V' (by omega) i2 (i4 K rk hp.2.2.2.1) a3
          obtain ⟨⟨j1, j2, j3, j4, j5⟩, j6, j7⟩ := clo_ok (stl 1 s S).1 (stl 1 s S).2 i2
          have hs2 := j4 K rk (i4 K rk hp.2.2.2.1)
          have c1 : cp_458_0 (rsM N F W V E G K) := by rw [cp_458_0, a2']; exact ⟨a1', b1'⟩
          have c2 : cf_458_0 (rsM N F W V E G K) = rsM N (g4 F (nI (nw (clo (stl 1 s S).1 (stl 1 s S).2).2)) (nI (clo (stl 1 s S).1 (stl 1 s S).2).1.length) (nI (nst (clo (stl 1 s S).1 (stl 1 s S).2).1))) W2 V2 E G K := by rw [cf_458_0, a2', b2']
          rw [if_neg l4, if_neg w4, c2]
          obtain ⟨t1, t2, t3⟩ := r_end (N := N) (p := p) (t := t) (c := c) (F0 := F) (s := (clo (stl 1 s S).1 (stl 1 s S).2).1) (S := (clo (stl 1 s S).1 (stl 1 s S).2).2) (F := g4 F (nI (nw (clo (stl 1 s S).1 (stl 1 s S).2).2)) (nI (clo (stl 1 s S).1 (stl 1 s S).2).1.length) (nI (nst (clo (stl 1 s S).1 (stl 1 s S).2).1))) (W := W2) (V := V2) (E := E) (G := G) (K := K) hc ⟨rfl, rfl, rfl, hs2, b3'⟩ (by omega) j2 (hG _ _ _) rfl h154 h150 (h152 (by omega))
          exact ⟨⟨fun _ => ⟨fun q => absurd q l1, fun _ => ⟨fun q => absurd q l2, fun _ => ⟨fun q => absurd q l4, fun _ => ⟨c1, t1⟩⟩⟩⟩, fun _ => trivial⟩, t2, t3⟩
  · have l3 : ¬ nI (tkq tx n p) = 3 := by
      have hk4 : tkk tx n p ≤ 4 := by unfold tkk; repeat' split <;> try omega
      unfold tkq
      split
      · decide
      · split
        · decide
        · rw [if_pos (by omega)]; decide
    have eo : opr (tkc tx n p) s S t = .inl 2 := by
      have : tkc tx n p < 40 := by omega
      unfold opr
      have s0 : stn (tkc tx n p) = 0 := by
        unfold stn
        rw [if_neg (by omega), if_neg (by omega), if_neg (by omega), if_neg (by omega), if_neg (by omega)]
      rw [if_neg (by omega), if_neg (by omega), if_neg (by omega), if_neg (by omega), if_neg (by omega), if_neg (by omega)]
    rw [if_neg l3, eo]
    exact ⟨⟨fun q => absurd q l3, fun _ => trivial⟩, rres_f (e := 2) hF h154 h150, (fun y hy => by cases hy)⟩
end Beh
