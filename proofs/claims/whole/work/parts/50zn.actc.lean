/-! PURE (50zn): the class behind an operand. -/
section Acc
variable {N : mz_N} {o n p m t : Nat} {tx : Nat → Nat} {F A B C : Nat → Int32} {s : List Nat} {S : List (Nat × Nat)}
theorem cres_tr {G : Nat → Int32} {r : Bool × mz_N} {a : Nat ⊕ PSt} (h : cres N o G p r a) (h0 : ∀ j, j ≠ 4 → j ≠ 5 → j ≠ 12 → j ≠ 13 → j ≠ 15 → j ≠ 16 → G j = F j) : cres N o F p r a := by
  obtain ⟨F', A', B', C', h1, h2, h3, h4⟩ := h
  refine ⟨F', A', B', C', h1, fun j a b c d e f g h => (h2 j a b c d e f g h).trans (h0 j a b e f g h), h3, fun x hx => ?_⟩
  obtain ⟨q1, q2, q3, q4⟩ := h4 x hx
  exact ⟨q1, q2.trans (h0 6 (by decide) (by decide) (by decide) (by decide) (by decide) (by decide)), q3.trans (h0 7 (by decide) (by decide) (by decide) (by decide) (by decide) (by decide)), q4⟩
theorem c_latd (h : F 15 = nI s.length) (hl : s.length ≤ 196) (hg : gst s) (hs : stk C id s) : cp_37_0 o (rdM N o F A B C) ∧ (cf_37_0 o (rdM N o F A B C) = 63 ↔ s.headD 0 = 63) ∧ (cf_37_0 o (rdM N o F A B C) = 40 ↔ s.headD 0 = 40) ∧ cf_41_0 (cf_37_0 o (rdM N o F A B C)) = nI (stn (s.headD 0)) := by
  cases s with
  | nil =>
    obtain ⟨a, b⟩ := c_lat0 (N := N) (o := o) (A := A) (B := B) (C := C) h
    rw [b]
    exact ⟨a, ⟨fun q => absurd q (by decide), fun q => absurd (show (0 : Nat) = 63 from q) (by decide)⟩, ⟨fun q => absurd q (by decide), fun q => absurd (show (0 : Nat) = 40 from q) (by decide)⟩, by decide +kernel⟩
  | cons c s =>
    have hl' : s.length + 1 ≤ 196 := hl
    obtain ⟨a, b⟩ := c_lat (N := N) (o := o) (A := A) (B := B) (C := C) (c := c) (l := s.length) h hl' hs.1
    have hc := oks_lt hg.1
    rw [b]
    exact ⟨a, nI_eq (b := 63) (by omega) (by omega), nI_eq (b := 40) (by omega) (by omega), fm_c c hc⟩
theorem c_await {c : Nat} (h : F 15 = nI s.length) (hl : s.length < 196) : cp_39_0 o (nI c) (rdM N o F A B C) ∧ cf_39_0 o (nI c) (rdM N o F A B C) = rdM N o (upd (upd F 15 (nI (s.length + 1))) 12 2) A B (upd C s.length (nI c)) := by
  have l2 : nI s.length < 196 := (nI_ltI (b := 196) (by omega) (by omega)).mpr hl
  rw [cp_39_0, cf_39_0]
  simp only [rd_o, h, rd_w4, rd_pI, nI_1, nI_clamp (show s.length < 2 ^ 31 by omega)]
  rw [if_pos l2, cf_39_30, rd_pI]
  exact ⟨⟨fun _ => ⟨ib_n (by omega) (by omega), trivial⟩, fun _ => trivial⟩, rfl⟩
theorem stn_isn {c : Nat} (h : 1 ≤ stn c) : isn c = 0 := by
  unfold stn at h
  unfold isn
  rw [if_neg]
  intro q
  rcases q with rfl | rfl | rfl | rfl <;> simp at h
theorem c_st3e {c : Nat} (hc : c < 128) (hp : pc F A B C 3 s S t) (hl : s.length + S.length < 196) (hg : gst s) (hh : stn (s.headD 0) = 0) (h9 : F 9 = nI p) (h10 : F 10 = nI c) : cp_43_0 o (rdM N o F A B C) ∧ cres N o F p (cf_43_0 o (rdM N o F A B C)) (if c = 58 ∧ (clo s S).1.headD 0 = 63 then .inr (2, 58 :: (clo s S).1.tail, (clo s S).2, t)
  else if c = 41 ∧ (clo s S).1.headD 0 = 40 then .inr (3, (tb (clo s S).1.tail (clo s S).2).1, (tb (clo s S).1.tail (clo s S).2).2, t)
  else if c = 59 ∧ (clo s S).1.length = 0 then .inr (0, [], (2, t) :: (clo s S).2, t)
  else .inl 2) := by
  obtain ⟨p1, p2, p3, p4, p5, p6, p7, p8⟩ := hp
  have eF : f4 F (nI S.length) (nI s.length) (nI (nst s)) = F := f4_self p1 p5 p6
  have h := clo_c (N := N) (o := o) (F := F) (C := C) s S A B (fun r => cres N o F p r (if c = 58 ∧ (clo s S).1.headD 0 = 63 then .inr (2, 58 :: (clo s S).1.tail, (clo s S).2, t)
    else if c = 41 ∧ (clo s S).1.headD 0 = 40 then .inr (3, (tb (clo s S).1.tail (clo s S).2).1, (tb (clo s S).1.tail (clo s S).2).2, t)
    else if c = 59 ∧ (clo s S).1.length = 0 then .inr (0, [], (2, t) :: (clo s S).2, t)
    else .inl 2)) (by omega) hg p7 p8
  rw [eF] at h
  refine h fun A' B' hw => ?_
  clear h
  obtain ⟨⟨z1, z2, z3, z4, z5⟩, z6, z7⟩ := clo_ok s S hg
  have hs := z4 C id p7
  generalize clo s S = R at *
  obtain ⟨s2, S2⟩ := R
  simp only at *
  obtain ⟨e1, e2, e3, e4⟩ := c_latd (N := N) (o := o) (F := f4 F (nI S2.length) (nI s2.length) (nI (nst s2))) (A := A') (B := B') (C := C) (s := s2) rfl (by omega) z2 hs
  have hF : ∀ j, j ≠ 4 → j ≠ 5 → j ≠ 6 → j ≠ 7 → j ≠ 12 → j ≠ 13 → j ≠ 15 → j ≠ 16 → f4 F (nI S2.length) (nI s2.length) (nI (nst s2)) j = F j := fun j a _ _ _ _ _ b c => f4_n a b c
  have eN : ∀ b, b < 128 → (nI c = nI b ↔ c = b) := fun b hb => nI_eq (by omega) (by omega)
  have x10 : f4 F (nI S2.length) (nI s2.length) (nI (nst s2)) 10 = nI c := h10
  have x15 : f4 F (nI S2.length) (nI s2.length) (nI (nst s2)) 15 = nI s2.length := rfl
  have x13 : f4 F (nI S2.length) (nI s2.length) (nI (nst s2)) 13 = nI t := p4 (by decide)
  rw [cp_43_46, cf_43_46, cp_43_84, cf_43_84, cp_43_128, cf_43_128, cf_43_160]
  simp only [rd_o, x10, x15, x13, rd_pI, rd_w4]
  by_cases w1 : c = 58 ∧ s2.headD 0 = 63
  · have l1 : nI c = 58 := by rw [w1.1]; rfl
    rw [if_pos l1, if_pos (e2.mpr w1.2), if_pos w1]
    cases s2 with
    | nil => exact absurd (show (0 : Nat) = 63 from w1.2) (by decide)
    | cons d s3 =>
      have hd : d = 63 := w1.2
      subst hd
      have el : (63 :: s3 : List Nat).length = s3.length + 1 := rfl
      rw [el]
      simp only [nIs1]
      have hl3 : s3.length + 1 + S2.length < 196 := by have : (63 :: s3 : List Nat).length + S2.length = s.length + S.length := z1; rw [el] at this; omega
      refine ⟨⟨fun _ => ⟨e1, fun _ => ib_n (by omega) (by omega), fun q => absurd (e2.mpr w1.2) q⟩, fun q => absurd l1 q⟩, _, _, _, _, rfl, fun j a b c d e f g h => ?_, (fun e he => by cases he), fun x hx => ?_⟩
      · rw [up_a, if_neg e, f4_n a g h]
      · cases hx
        refine ⟨rfl, rfl, rfl, rfl, ?_, rfl, fun _ => p4 (by decide), rfl, rfl, ⟨?_, ?_⟩, hw⟩
        · show F 5 = _
          rw [p2, z3]; rfl
        · rw [nI_clamp (by omega), up_a, if_pos (show (63 :: s3 : List Nat).tail.length = s3.length from rfl)]; rfl
        · rw [nI_clamp (by omega)]; exact stk_up (Nat.le_refl _) hs.2
  · rw [if_neg w1]
    have hcp : (nI c = 58 → cf_37_0 o (rdM N o (f4 F (nI S2.length) (nI s2.length) (nI (nst s2))) A' B' C) = 63 → False) := fun a b => w1 ⟨(eN 58 (by omega)).mp a, e2.mp b⟩
    have e0 : ∀ X Y : Bool × mz_N, (if nI c = 58 then (if cf_37_0 o (rdM N o (f4 F (nI S2.length) (nI s2.length) (nI (nst s2))) A' B' C) = 63 then X else Y) else Y) = Y := fun X Y => by
      by_cases q1 : nI c = 58
      · rw [if_pos q1, if_neg (fun q2 => hcp q1 q2)]
      · rw [if_neg q1]
    rw [e0]
    have pre : ∀ {Z : Prop}, Z → ((nI c = 58 → cp_37_0 o (rdM N o (f4 F (nI S2.length) (nI s2.length) (nI (nst s2))) A' B' C) ∧ (cf_37_0 o (rdM N o (f4 F (nI S2.length) (nI s2.length) (nI (nst s2))) A' B' C) = 63 → mz_ib (nI s2.length - 1) 196) ∧ (¬ cf_37_0 o (rdM N o (f4 F (nI S2.length) (nI s2.length) (nI (nst s2))) A' B' C) = 63 → Z)) ∧ (¬ nI c = 58 → Z)) := fun z => ⟨fun q1 => ⟨e1, fun q2 => (hcp q1 q2).elim, fun _ => z⟩, fun _ => z⟩
    by_cases w2 : c = 41 ∧ s2.headD 0 = 40
    · have l2 : nI c = 41 := by rw [w2.1]; rfl
      rw [if_pos l2, if_pos (e3.mpr w2.2), if_pos w2]
      cases s2 with
      | nil => exact absurd (show (0 : Nat) = 40 from w2.2) (by decide)
      | cons d s3 =>
        have hd : d = 40 := w2.2
        subst hd
        have hl3 : s3.length + 1 + S2.length < 196 := by have : (40 :: s3 : List Nat).length + S2.length = s.length + S.length := z1; have e : (40 :: s3 : List Nat).length = s3.length + 1 := rfl; omega
        have eG : upd (upd (f4 F (nI S2.length) (nI (s3.length + 1)) (nI (nst s3 + 1))) 15 (nI (s3.length + 1) - 1)) 16 (upd (f4 F (nI S2.length) (nI (s3.length + 1)) (nI (nst s3 + 1))) 15 (nI (s3.length + 1) - 1) 16 - 1) = f4 F (nI S2.length) (nI s3.length) (nI (nst s3)) := by
          rw [f4_15, f4_r16, f4_16, nIs1, nIs1]
        obtain ⟨b1', A2, B2, b2', b3'⟩ := tb_c (N := N) (o := o) (F := F) (C := C) s3 S2 A' B' (by omega) z2.2.2 hs.2 hw
        obtain ⟨⟨k1, k2, k3, k4, k5⟩, -⟩ := tb_ok s3 S2 z2.2.2
        have eX : (mz_pI (mz_pI (rdM N o (f4 F (nI S2.length) (nI (s3.length + 1)) (nI (nst s3 + 1))) A' B' C) o 15 (nI (s3.length + 1) - 1)) o 16 ((mz_pI (rdM N o (f4 F (nI S2.length) (nI (s3.length + 1)) (nI (nst s3 + 1))) A' B' C) o 15 (nI (s3.length + 1) - 1)).1 o 16 - 1)) = rdM N o (f4 F (nI S2.length) (nI s3.length) (nI (nst s3))) A' B' C := by
          simp only [rd_pI, rd_o]
          rw [eG]
        refine ⟨pre ⟨fun _ => ⟨e1, fun _ => ?_, fun q => absurd (e3.mpr w2.2) q⟩, fun q => absurd l2 q⟩, ?_⟩
        · show cp_36_0 o (rdM N o (upd (upd (f4 F (nI S2.length) (nI (s3.length + 1)) (nI (nst s3 + 1))) 15 (nI (s3.length + 1) - 1)) 16 (upd (f4 F (nI S2.length) (nI (s3.length + 1)) (nI (nst s3 + 1))) 15 (nI (s3.length + 1) - 1) 16 - 1)) A' B' C)
          rw [eG]; exact b1'
        · show cres N o F p (true, cf_36_0 o (rdM N o (upd (upd (f4 F (nI S2.length) (nI (s3.length + 1)) (nI (nst s3 + 1))) 15 (nI (s3.length + 1) - 1)) 16 (upd (f4 F (nI S2.length) (nI (s3.length + 1)) (nI (nst s3 + 1))) 15 (nI (s3.length + 1) - 1) 16 - 1)) A' B' C)) _
          rw [eG, b2']
          refine ⟨_, A2, B2, C, rfl, fun j a b c d e f g h => ?_, (fun e he => by cases he), fun x hx => ?_⟩
          · rw [up_a, if_neg e, f4_n a g h]
          · cases hx
            refine ⟨rfl, rfl, rfl, rfl, ?_, rfl, fun _ => p4 (by decide), rfl, rfl, k4 C id hs.2, b3'⟩
            show F 5 = _
            rw [p2, ← z3, ← k3]; rfl
    · rw [if_neg w2]
      have hcp2 : (nI c = 41 → cf_37_0 o (rdM N o (f4 F (nI S2.length) (nI s2.length) (nI (nst s2))) A' B' C) = 40 → False) := fun a b => w2 ⟨(eN 41 (by omega)).mp a, e3.mp b⟩
      have e02 : ∀ X Y : Bool × mz_N, (if nI c = 41 then (if cf_37_0 o (rdM N o (f4 F (nI S2.length) (nI s2.length) (nI (nst s2))) A' B' C) = 40 then X else Y) else Y) = Y := fun X Y => by
        by_cases q1 : nI c = 41
        · rw [if_pos q1, if_neg (fun q2 => hcp2 q1 q2)]
        · rw [if_neg q1]
      rw [e02]
      have l0 : nI s2.length = 0 ↔ s2.length = 0 := nI_eq0 (by omega)
      by_cases w3 : c = 59 ∧ s2.length = 0
      · have l3 : nI c = 59 := by rw [w3.1]; rfl
        obtain ⟨a1, a2⟩ := c_add (N := N) (o := o) (F := f4 F (nI S2.length) (nI s2.length) (nI (nst s2))) (A := A') (B := B') (C := C) (a := 2) (b := nI t) (k := S2.length) rfl (by omega)
        rw [if_pos l3, if_pos (l0.mpr w3.2), if_pos w3, a2, f4_4, rd_pI]
        refine ⟨pre ⟨fun q1 => ⟨e1, fun q2 => (hcp2 q1 q2).elim, fun _ => ⟨fun _ => ⟨fun _ => a1, fun _ => trivial⟩, fun _ => trivial⟩⟩, fun _ => ⟨fun _ => ⟨fun _ => a1, fun _ => trivial⟩, fun _ => trivial⟩⟩, _, _, _, C, rfl, fun j a b c d e f g h => ?_, (fun e he => by cases he), fun x hx => ?_⟩
        · rw [up_a, if_neg e, f4_n a g h]
        · cases hx
          have hn : s2 = [] := List.length_eq_zero_iff.mp w3.2
          subst hn
          refine ⟨rfl, rfl, rfl, rfl, ?_, rfl, fun q => absurd rfl q, rfl, rfl, trivial, ⟨by rw [up_a, if_pos rfl]; rfl, by rw [up_a, if_pos rfl], wds_up (Nat.le_refl _) hw⟩⟩
          show F 5 = nI (na S2 + 1 + 0)
          rw [p2, z3]; rfl
      · have e03 : ∀ X Y : Bool × mz_N, (if nI c = 59 then (if nI s2.length = 0 then X else Y) else Y) = Y := fun X Y => by
          by_cases q1 : nI c = 59
          · rw [if_pos q1, if_neg (fun q2 => w3 ⟨(eN 59 (by omega)).mp q1, l0.mp q2⟩)]
          · rw [if_neg q1]
        rw [e03, if_neg w3]
        have fin : (nI c = 59 → (nI s2.length = 0 → cp_35_0 o 2 (nI t) (rdM N o (f4 F (nI S2.length) (nI s2.length) (nI (nst s2))) A' B' C)) ∧ (¬ nI s2.length = 0 → cp_43_160 o (rdM N o (f4 F (nI S2.length) (nI s2.length) (nI (nst s2))) A' B' C))) ∧ (¬ nI c = 59 → cp_43_160 o (rdM N o (f4 F (nI S2.length) (nI s2.length) (nI (nst s2))) A' B' C)) := ⟨fun q1 => ⟨fun q2 => absurd ⟨(eN 59 (by omega)).mp q1, l0.mp q2⟩ w3, fun _ => trivial⟩, fun _ => trivial⟩
        exact ⟨pre ⟨fun q1 => ⟨e1, fun q2 => (hcp2 q1 q2).elim, fun _ => fin⟩, fun _ => fin⟩, cres_f (e := 2) hF h9⟩
theorem c_st3 (hp : pc F A B C 3 s S t) (hl : s.length + S.length < 196) (hg : gst s) (h9 : F 9 = nI p) (h10 : F 10 = nI (tkc tx n p)) (htx : ∀ j, tx j < 128) : cp_40_0 o (rdM N o F A B C) ∧ cres N o F p (cf_40_0 o (rdM N o F A B C)) (act tx n p (3, s, S, t)) := by
  have hc := tkc_lt (n := n) (p := p) htx
  show _ ∧ cres N o F p _ (opr (tkc tx n p) s S t)
  generalize tkc tx n p = c at *
  obtain ⟨p1, p2, p3, p4, p5, p6, p7, p8⟩ := hp
  have eF : f4 F (nI S.length) (nI s.length) (nI (nst s)) = F := f4_self p1 p5 p6
  have fm := fm_c0 c hc
  have sl := stn_le c
  rw [cp_40_0, cf_40_0]
  unfold opr
  simp only [rd_o, h10, fm]
  by_cases w1 : 1 < stn c
  · have l1 : (1 : Int32) < nI (stn c) := (nI_ltI (a := 1) (by omega) (by omega)).mpr w1
    obtain ⟨a1, A', B', a2, a3⟩ := stl_c (N := N) (o := o) (F := F) (C := C) (z := nI (nst s)) (f := stn c) (by omega) sl s S A B (by omega) hg p7 p8
    rw [eF] at a1 a2
    obtain ⟨⟨k1, k2, k3, k4, k5⟩, k6, k7⟩ := stl_ok (f := stn c) (by omega) s S hg
    rw [if_pos l1, if_pos w1]
    rw [a2, rd_o, show f4 F (nI (stl (stn c) s S).2.length) (nI (stl (stn c) s S).1.length) (nI (nst s)) 10 = nI c from h10]
    obtain ⟨b1', b2'⟩ := c_await (N := N) (o := o) (F := f4 F (nI (stl (stn c) s S).2.length) (nI (stl (stn c) s S).1.length) (nI (nst s))) (A := A') (B := B') (C := C) (c := c) (s := (stl (stn c) s S).1) rfl (by omega)
    rw [b2', cf_40_26]
    refine ⟨⟨fun _ => ⟨a1, b1', trivial⟩, fun q => absurd l1 q⟩, _, _, _, _, rfl, fun j a b c d e f g h => ?_, (fun e he => by cases he), fun x hx => ?_⟩
    · rw [up_a, if_neg e, up_a, if_neg g, f4_n a g h]
    · cases hx
      refine ⟨rfl, rfl, rfl, rfl, ?_, rfl, fun _ => p4 (by decide), rfl, ?_, ⟨by rw [up_a, if_pos rfl]; rfl, stk_up (Nat.le_refl _) (k4 C id p7)⟩, a3⟩
      · show F 5 = _
        rw [p2, ← k3]; rfl
      · show nI (nst s) = nI (nst (stl (stn c) s S).1 + isn c)
        rw [k7, stn_isn (by omega)]; rfl
  · have l1 : ¬ (1 : Int32) < nI (stn c) := fun q => w1 ((nI_ltI (a := 1) (by omega) (by omega)).mp q)
    rw [if_neg l1, if_neg w1]
    by_cases w2 : stn c = 1
    · have l2 : nI (stn c) = 1 := by rw [w2]; rfl
      obtain ⟨a1, A', B', a2, a3⟩ := stl_c (N := N) (o := o) (F := F) (C := C) (z := nI (nst s)) (f := 2) (by omega) (by omega) s S A B (by omega) hg p7 p8
      rw [eF] at a1 a2
      obtain ⟨⟨k1, k2, k3, k4, k5⟩, k6, k7⟩ := stl_ok (f := 2) (by omega) s S hg
      have a1' : cp_42_0 o 2 (rdM N o F A B C) := a1
      have a2' : cf_42_0 o 2 (rdM N o F A B C) = rdM N o (f4 F (nI (stl 2 s S).2.length) (nI (stl 2 s S).1.length) (nI (nst s))) A' B' C := a2
      rw [if_pos l2, if_pos w2, a2']
      obtain ⟨e1, -, -, e4⟩ := c_latd (N := N) (o := o) (F := f4 F (nI (stl 2 s S).2.length) (nI (stl 2 s S).1.length) (nI (nst s))) (A := A') (B := B') (C := C) (s := (stl 2 s S).1) rfl (by omega) k2 (k4 C id p7)
      rw [e4]
      have sl2 := stn_le ((stl 2 s S).1.headD 0)
      by_cases w3 : stn ((stl 2 s S).1.headD 0) = 1
      · rw [if_pos (show nI (stn ((stl 2 s S).1.headD 0)) = 1 by rw [w3]; rfl), if_pos w3]
        exact ⟨⟨fun q => absurd q l1, fun _ => ⟨fun _ => ⟨a1', e1, fun _ => trivial, fun q => absurd (by rw [w3]; rfl) q⟩, fun q => absurd l2 q⟩⟩, cres_f (e := 2) (fun j a _ _ _ _ _ b c => f4_n a b c) h9⟩
      · have l3 : ¬ nI (stn ((stl 2 s S).1.headD 0)) = 1 := fun q => w3 ((nI_eq (b := 1) (by omega) (by omega)).mp q)
        rw [if_neg l3, if_neg w3]
        simp only [rd_o]
        rw [show f4 F (nI (stl 2 s S).2.length) (nI (stl 2 s S).1.length) (nI (nst s)) 10 = nI c from h10]
        obtain ⟨b1', b2'⟩ := c_await (N := N) (o := o) (F := f4 F (nI (stl 2 s S).2.length) (nI (stl 2 s S).1.length) (nI (nst s))) (A := A') (B := B') (C := C) (c := c) (s := (stl 2 s S).1) rfl (by omega)
        rw [b2']
        refine ⟨⟨fun q => absurd q l1, fun _ => ⟨fun _ => ⟨a1', e1, fun q => absurd q l3, fun _ => b1'⟩, fun q => absurd l2 q⟩⟩, _, _, _, _, rfl, fun j a b c d e f g h => ?_, (fun e he => by cases he), fun x hx => ?_⟩
        · rw [up_a, if_neg e, up_a, if_neg g, f4_n a g h]
        · cases hx
          refine ⟨rfl, rfl, rfl, rfl, ?_, rfl, fun _ => p4 (by decide), rfl, ?_, ⟨by rw [up_a, if_pos rfl]; rfl, stk_up (Nat.le_refl _) (k4 C id p7)⟩, a3⟩
          · show F 5 = _
            rw [p2, ← k3]; rfl
          · show nI (nst s) = nI (nst (stl 2 s S).1 + isn c)
            rw [k7, stn_isn (by omega)]; rfl
    · have l2 : ¬ nI (stn c) = 1 := fun q => w2 ((nI_eq (b := 1) (by omega) (by omega)).mp q)
      obtain ⟨a1, A', B', a2, a3⟩ := stl_c (N := N) (o := o) (F := F) (C := C) (z := nI (nst s)) (f := 1) (by omega) (by omega) s S A B (by omega) hg p7 p8
      rw [eF] at a1 a2
      obtain ⟨⟨k1, k2, k3, k4, k5⟩, k6, k7⟩ := stl_ok (f := 1) (by omega) s S hg
      have a1' : cp_42_0 o 1 (rdM N o F A B C) := a1
      have a2' : cf_42_0 o 1 (rdM N o F A B C) = rdM N o (f4 F (nI (stl 1 s S).2.length) (nI (stl 1 s S).1.length) (nI (nst s))) A' B' C := a2
      rw [if_neg l2, if_neg w2, a2']
      simp only [rd_o]
      rw [show f4 F (nI (stl 1 s S).2.length) (nI (stl 1 s S).1.length) (nI (nst s)) 10 = nI c from h10]
      have hpc : pc (f4 F (nI (stl 1 s S).2.length) (nI (stl 1 s S).1.length) (nI (nst s))) A' B' C 3 (stl 1 s S).1 (stl 1 s S).2 t := by
        refine ⟨rfl, ?_, p3, p4, rfl, by rw [k7]; rfl, k4 C id p7, a3⟩
        show F 5 = _
        rw [p2, k3]
      have hF : ∀ j, j ≠ 4 → j ≠ 5 → j ≠ 12 → j ≠ 13 → j ≠ 15 → j ≠ 16 → f4 F (nI (stl 1 s S).2.length) (nI (stl 1 s S).1.length) (nI (nst s)) j = F j := fun j a _ _ _ b c => f4_n a b c
      by_cases w3 : c = 63
      · have l3 : nI c = 63 := by rw [w3]; rfl
        obtain ⟨b1', b2'⟩ := c_opn (N := N) (o := o) (p := p) (c := 63) hpc h9 (by omega) (by decide) rfl
        rw [if_pos l3, if_pos w3]
        exact ⟨⟨fun q => absurd q l1, fun _ => ⟨fun q => absurd q l2, fun _ => ⟨a1', fun _ => b1', fun q => absurd l3 q⟩⟩⟩, cres_tr b2' hF⟩
      · have l3 : ¬ nI c = 63 := fun q => w3 ((nI_eq (b := 63) (by omega) (by omega)).mp q)
        obtain ⟨b1', b2'⟩ := c_st3e (N := N) (o := o) (p := p) (c := c) hc hpc (by omega) k2 (by omega) h9 h10
        rw [if_neg l3, if_neg w3]
        exact ⟨⟨fun q => absurd q l1, fun _ => ⟨fun q => absurd q l2, fun _ => ⟨a1', fun q => absurd q l3, fun _ => b1'⟩⟩⟩, cres_tr b2' hF⟩
end Acc
