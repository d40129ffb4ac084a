/-! PURE (50zm): what the parser does at a token; the class does so. -/
abbrev PSt := Nat × List Nat × List (Nat × Nat) × Nat
/-- behind an operand -/
def opr (c : Nat) (s : List Nat) (S : List (Nat × Nat)) (t : Nat) : Nat ⊕ PSt :=
  if 1 < stn c then .inr (2, c :: (stl (stn c) s S).1, (stl (stn c) s S).2, t)
  else if stn c = 1 then (if stn ((stl 2 s S).1.headD 0) = 1 then .inl 2 else .inr (2, c :: (stl 2 s S).1, (stl 2 s S).2, t))
  else if c = 63 then (if nst (stl 1 s S).1 < 10 then .inr (2, 63 :: (stl 1 s S).1, (stl 1 s S).2, t) else .inl 5)
  else if c = 58 ∧ (clo (stl 1 s S).1 (stl 1 s S).2).1.headD 0 = 63 then .inr (2, 58 :: (clo (stl 1 s S).1 (stl 1 s S).2).1.tail, (clo (stl 1 s S).1 (stl 1 s S).2).2, t)
  else if c = 41 ∧ (clo (stl 1 s S).1 (stl 1 s S).2).1.headD 0 = 40 then .inr (3, (tb (clo (stl 1 s S).1 (stl 1 s S).2).1.tail (clo (stl 1 s S).1 (stl 1 s S).2).2).1, (tb (clo (stl 1 s S).1 (stl 1 s S).2).1.tail (clo (stl 1 s S).1 (stl 1 s S).2).2).2, t)
  else if c = 59 ∧ (clo (stl 1 s S).1 (stl 1 s S).2).1.length = 0 then .inr (0, [], (2, t) :: (clo (stl 1 s S).1 (stl 1 s S).2).2, t)
  else .inl 2
/-- where an operand must stand -/
def opd (k c v w : Nat) (s : List Nat) (S : List (Nat × Nat)) (t : Nat) : Nat ⊕ PSt :=
  if k = 1 then .inr (3, (tb s ((0, v) :: S)).1, (tb s ((0, v) :: S)).2, t)
  else if k = 2 then (if w < 53 then .inr (3, (tb s ((1, w) :: S)).1, (tb s ((1, w) :: S)).2, t) else .inl 3)
  else if c = 45 then (if nst s < 10 then .inr (2, 3 :: s, S, t) else .inl 5)
  else if c = 40 then (if nst s < 10 then .inr (2, 40 :: s, S, t) else .inl 5)
  else .inl 2
def act (tx : Nat → Nat) (n p : Nat) (x : PSt) : Nat ⊕ PSt :=
  if x.1 = 0 then (if na x.2.2.1 < 12 then (if tkk tx n p = 2 then (if wnm tx p (tke tx n p) < 16 then .inr (1, x.2.1, x.2.2.1, wnm tx p (tke tx n p)) else .inl 3) else .inl 2) else .inl 6)
  else if x.1 = 1 then (if tkc tx n p = 61 then .inr (2, x.2.1, x.2.2.1, x.2.2.2) else .inl 2)
  else if x.1 = 2 then opd (tkk tx n p) (tkc tx n p) (nvd tx p (rl (fun i => dg (tx i)) n p)) (wnm tx p (tke tx n p)) x.2.1 x.2.2.1 x.2.2.2
  else opr (tkc tx n p) x.2.1 x.2.2.1 x.2.2.2
/-- the reader's fields tell the parser's state -/
def pc (F A B C : Nat → Int32) (m : Nat) (s : List Nat) (S : List (Nat × Nat)) (t : Nat) : Prop := F 4 = nI S.length ∧ F 5 = nI (na S + (if m = 0 then 0 else 1)) ∧ F 12 = nI m ∧ (m ≠ 0 → F 13 = nI t) ∧ F 15 = nI s.length ∧ F 16 = nI (nst s) ∧ stk C id s ∧ wds A B S
def cres (N : mz_N) (o : Nat) (F : Nat → Int32) (p : Nat) (r : Bool × mz_N) (a : Nat ⊕ PSt) : Prop := ∃ F' A' B' C', r.2 = rdM N o F' A' B' C' ∧ (∀ j, j ≠ 4 → j ≠ 5 → j ≠ 6 → j ≠ 7 → j ≠ 12 → j ≠ 13 → j ≠ 15 → j ≠ 16 → F' j = F j) ∧ (∀ e, a = .inl e → r.1 = false ∧ F' 6 = nI e ∧ F' 7 = nI p) ∧ (∀ x : PSt, a = .inr x → r.1 = true ∧ F' 6 = F 6 ∧ F' 7 = F 7 ∧ pc F' A' B' C' x.1 x.2.1 x.2.2.1 x.2.2.2)
section Act
variable {N : mz_N} {o n p m t : Nat} {tx : Nat → Nat} {F A B C : Nat → Int32} {s : List Nat} {S : List (Nat × Nat)}
theorem cres_f {e : Nat} {F0 : Nat → Int32} (h0 : ∀ j, j ≠ 4 → j ≠ 5 → j ≠ 6 → j ≠ 7 → j ≠ 12 → j ≠ 13 → j ≠ 15 → j ≠ 16 → F j = F0 j) (h9 : F 9 = nI p) : cres N o F0 p (cf_27_0 o (nI e) (rdM N o F A B C)) (.inl e) := by
  refine ⟨upd (upd F 6 (nI e)) 7 (nI p), A, B, C, ?_, fun j a b c d e' f g h => ?_, fun e2 h2 => ?_, (fun x hx => by cases hx)⟩
  · rw [cf_27_0]
    simp only [rd_pI, rd_o]
    rw [show upd F 6 (nI e) 9 = nI p from h9]
  · rw [up_a, if_neg d, up_a, if_neg c]; exact h0 j a b c d e' f g h
  · cases h2
    exact ⟨rfl, rfl, rfl⟩
theorem tkc_lt (htx : ∀ j, tx j < 128) : tkc tx n p < 128 := by
  unfold tkc tkk
  have := htx p
  repeat' split <;> try omega
theorem tkc_k (h4 : tkk tx n p ≠ 4) : (tkc tx n p = 1 ↔ tkk tx n p = 1) ∧ (tkc tx n p = 2 ↔ tkk tx n p = 2) ∧ (tkc tx n p = 0 ↔ tkk tx n p = 0) ∧ (40 ≤ tkc tx n p ↔ tkk tx n p = 3) := by
  unfold tkc
  by_cases w : tkk tx n p = 3
  · rw [if_pos w]
    have hs : sg' (tx p) = true := by
      unfold tkk at w
      split at w
      · split at w
        · cases w
        · split at w
          · cases w
          · split at w
            · assumption
            · cases w
      · cases w
    simp only [sg', decide_eq_true_eq] at hs
    rw [w]
    omega
  · rw [if_neg w]
    have : tkk tx n p ≤ 4 := by unfold tkk; repeat' split <;> try omega
    omega
theorem c_st0 (hp : pc F A B C 0 s S t) (h9 : F 9 = nI p) (h10 : F 10 = nI (tkc tx n p)) (h11 : tkk tx n p = 2 → F 11 = nO 53 (wnm tx p (tke tx n p))) (hna : na S ≤ 12) (hk : tkk tx n p ≠ 4) (htx : ∀ j, tx j < 128) : cp_32_0 o (rdM N o F A B C) ∧ cres N o F p (cf_32_0 o (rdM N o F A B C)) (act tx n p (0, s, S, t)) := by
  obtain ⟨p1, p2, p3, p4, p5, p6, p7, p8⟩ := hp
  rw [if_pos rfl, Nat.add_zero] at p2
  have hc := tkc_lt (n := n) (p := p) htx
  obtain ⟨k1, k2, k3, k4⟩ := tkc_k (tx := tx) (n := n) (p := p) hk
  have hF : ∀ j, j ≠ 4 → j ≠ 5 → j ≠ 6 → j ≠ 7 → j ≠ 12 → j ≠ 13 → j ≠ 15 → j ≠ 16 → F j = F j := fun _ _ _ _ _ _ _ _ _ => rfl
  refine ⟨by unfold cp_32_0 cp_32_47 cp_32_76; simp, ?_⟩
  rw [cf_32_0]
  show cres N o F p _ (if na S < 12 then (if tkk tx n p = 2 then (if wnm tx p (tke tx n p) < 16 then .inr (1, s, S, wnm tx p (tke tx n p)) else .inl 3) else .inl 2) else .inl 6)
  simp only [rd_o, p2, h10]
  by_cases w1 : na S < 12
  · have l1 : nI (na S) < 12 := (nI_ltI (b := 12) (by omega) (by omega)).mpr w1
    rw [if_pos l1, if_pos w1]
    by_cases w2 : tkk tx n p = 2
    · have l2 : nI (tkc tx n p) = 2 := by rw [k2.mpr w2]; rfl
      rw [if_pos l2, if_pos w2, h11 w2]
      by_cases w3 : wnm tx p (tke tx n p) < 16
      · rw [if_pos w3, nO_lt (by omega), if_neg (by rw [nI_m1 (by omega)]; exact id), if_pos (show nI (wnm tx p (tke tx n p)) < 16 from (nI_ltI (b := 16) (by omega) (by omega)).mpr w3), cf_32_76]
        simp only [rd_pI, rd_o]
        refine ⟨_, _, _, _, rfl, fun j a b c d e f g h => ?_, (fun e he => by cases he), fun x hx => ?_⟩
        · simp only [up_a, a, b, c, d, e, f, g, h, if_false]
        · cases hx
          refine ⟨rfl, rfl, rfl, p1, ?_, rfl, fun _ => rfl, p5, p6, p7, p8⟩
          show F 5 + 1 = nI (na S + 1)
          rw [p2, nI_1]
      · rw [if_neg w3]
        by_cases w4 : wnm tx p (tke tx n p) < 53
        · rw [nO_lt w4, if_neg (by rw [nI_m1 (by omega)]; exact id), if_neg (show ¬ nI (wnm tx p (tke tx n p)) < 16 from fun q => w3 ((nI_ltI (b := 16) (by omega) (by omega)).mp q)), cf_32_47]
          exact cres_f (e := 3) hF h9
        · rw [nO_ge w4, if_pos rfl, cf_32_47]
          exact cres_f (e := 3) hF h9
    · have l2 : ¬ nI (tkc tx n p) = 2 := fun q => w2 (k2.mp ((nI_eq (b := 2) (by omega) (by omega)).mp q))
      rw [if_neg l2, if_neg w2]
      exact cres_f (e := 2) hF h9
  · have l1 : ¬ nI (na S) < 12 := fun q => w1 ((nI_ltI (b := 12) (by omega) (by omega)).mp q)
    rw [if_neg l1, if_neg w1]
    exact cres_f (e := 6) hF h9
theorem c_st1 (hp : pc F A B C 1 s S t) (h9 : F 9 = nI p) (h10 : F 10 = nI (tkc tx n p)) (htx : ∀ j, tx j < 128) : cres N o F p (cf_33_0 o (rdM N o F A B C)) (act tx n p (1, s, S, t)) := by
  obtain ⟨p1, p2, p3, p4, p5, p6, p7, p8⟩ := hp
  have hc := tkc_lt (n := n) (p := p) htx
  rw [cf_33_0]
  show cres N o F p _ (if tkc tx n p = 61 then .inr (2, s, S, t) else .inl 2)
  simp only [rd_pI, rd_o]
  rw [show upd F 12 2 10 = nI (tkc tx n p) from h10]
  have hF : ∀ j, j ≠ 4 → j ≠ 5 → j ≠ 6 → j ≠ 7 → j ≠ 12 → j ≠ 13 → j ≠ 15 → j ≠ 16 → upd F 12 2 j = F j := fun j a b c d e f g h => by rw [up_a, if_neg e]
  by_cases w : tkc tx n p = 61
  · have l : nI (tkc tx n p) = 61 := by rw [w]; rfl
    rw [if_pos l, if_pos w]
    refine ⟨upd F 12 2, A, B, C, rfl, hF, (fun e he => by cases he), fun x hx => ?_⟩
    cases hx
    exact ⟨rfl, rfl, rfl, p1, p2, rfl, fun _ => p4 (by decide), p5, p6, p7, p8⟩
  · have l : ¬ nI (tkc tx n p) = 61 := fun q => w ((nI_eq (b := 61) (by omega) (by omega)).mp q)
    rw [if_neg l, if_neg w, if_neg (show ¬ (cf_27_0 o 2 (rdM N o (upd F 12 2) A B C)).1 = true from Bool.false_ne_true)]
    exact cres_f (e := 2) (F := upd F 12 2) hF h9
theorem c_opn {c : Nat} (hp : pc F A B C m s S t) (h9 : F 9 = nI p) (hl : s.length < 196) (hm : m ≠ 0) (ho : isn c = 1) : cp_38_0 o (nI c) (rdM N o F A B C) ∧ cres N o F p (cf_38_0 o (nI c) (rdM N o F A B C)) (if nst s < 10 then .inr (2, c :: s, S, t) else .inl 5) := by
  obtain ⟨p1, p2, p3, p4, p5, p6, p7, p8⟩ := hp
  have hn : nst s < 2 ^ 31 := by
    have : ∀ s : List Nat, nst s ≤ s.length := by
      intro s
      induction s with
      | nil => exact Nat.le_refl _
      | cons c s ih =>
        show nst s + isn c ≤ s.length + 1
        have : isn c ≤ 1 := by unfold isn; split <;> omega
        omega
    have := this s
    omega
  rw [cp_38_0, cf_38_0]
  simp only [rd_o, rd_pI, p6, nI_1]
  by_cases w : nst s < 10
  · have l : nI (nst s) < 10 := (nI_ltI (b := 10) hn (by omega)).mpr w
    have l2 : nI s.length < 196 := (nI_ltI (b := 196) (by omega) (by omega)).mpr hl
    have e15 : upd F 16 (nI (nst s + 1)) 15 = nI s.length := p5
    rw [if_pos l, if_pos w, cp_39_0, cf_39_0]
    simp only [rd_o, e15, rd_w4, rd_pI, nI_1, nI_clamp (show s.length < 2 ^ 31 by omega)]
    rw [if_pos l2, cf_39_30, rd_pI]
    refine ⟨⟨fun _ => ⟨fun _ => ⟨ib_n (by omega) (by omega), trivial⟩, fun _ => trivial⟩, fun _ => trivial⟩, _, _, _, _, rfl, fun j a b c d e f g h => ?_, (fun e he => by cases he), fun x hx => ?_⟩
    · simp only [up_a, a, b, c, d, e, f, g, h, if_false]
    · cases hx
      refine ⟨rfl, rfl, rfl, p1, ?_, rfl, fun _ => p4 hm, rfl, ?_, ⟨by rw [up_a, if_pos rfl]; rfl, stk_up (Nat.le_refl _) p7⟩, p8⟩
      · show F 5 = _
        rw [p2, if_neg hm]; rfl
      · show nI (nst s + 1) = nI (nst s + isn c)
        rw [ho]
  · have l : ¬ nI (nst s) < 10 := fun q => w ((nI_ltI (b := 10) hn (by omega)).mp q)
    rw [if_neg l, if_neg w]
    exact ⟨⟨fun q => absurd q l, fun _ => trivial⟩, cres_f (e := 5) (fun _ _ _ _ _ _ _ _ _ => rfl) h9⟩
theorem c_opd {v : Nat} {z : Bool} (hp : pc F A B C 2 s S t) (hl : s.length + S.length < 196) (hg : gst s) (h11 : F 11 = nI v) : cp_34_52 o z (rdM N o F A B C) ∧ cres N o F p (cf_34_52 o z (rdM N o F A B C)) (.inr (3, (tb s ((if z = true then 1 else 0, v) :: S)).1, (tb s ((if z = true then 1 else 0, v) :: S)).2, t)) := by
  obtain ⟨p1, p2, p3, p4, p5, p6, p7, p8⟩ := hp
  rw [cp_34_52, cf_34_52]
  obtain ⟨a1, a2⟩ := c_add (N := N) (o := o) (F := F) (A := A) (B := B) (C := C) (a := mz_b01 z) (b := nI v) (k := S.length) p1 (by omega)
  simp only [rd_o, h11]
  rw [a2]
  have ez : mz_b01 z = nI (if z = true then 1 else 0) := by cases z <;> rfl
  have ef : upd F 4 (nI (S.length + 1)) = f4 F (nI (((if z = true then 1 else 0, v) :: S : List (Nat × Nat))).length) (nI s.length) (nI (nst s)) := by
    rw [← f4_4 (x := F 4), f4_self rfl p5 p6]
    rfl
  have h2 : na ((if z = true then 1 else 0, v) :: S) = na S := by cases z <;> rfl
  obtain ⟨b1', A', B', b2', b3'⟩ := tb_c (N := N) (o := o) (F := F) (C := C) s ((if z = true then 1 else 0, v) :: S) (upd A S.length (mz_b01 z)) (upd B S.length (nI v)) (by show s.length + (S.length + 1) ≤ 196; omega) hg p7 ⟨by rw [up_a, if_pos rfl]; exact ez, by rw [up_a, if_pos rfl], wds_up (Nat.le_refl _) p8⟩
  obtain ⟨⟨k1, k2, k3, k4, k5⟩, -⟩ := tb_ok s ((if z = true then 1 else 0, v) :: S) hg
  rw [← ef] at b1' b2'
  rw [b2']
  refine ⟨⟨a1, b1'⟩, _, A', B', C, rfl, fun j a b c d e f g h => ?_, (fun e he => by cases he), fun x hx => ?_⟩
  · rw [up_a, if_neg e, f4_n a g h]
  · cases hx
    refine ⟨rfl, rfl, rfl, rfl, ?_, rfl, fun _ => p4 (by decide), rfl, rfl, k4 C id p7, b3'⟩
    show F 5 = _
    rw [p2, k3, h2]; rfl
theorem c_st2 (hp : pc F A B C 2 s S t) (hl : s.length + S.length < 196) (hg : gst s) (h9 : F 9 = nI p) (h10 : F 10 = nI (tkc tx n p)) (h11 : tkk tx n p = 2 → F 11 = nO 53 (wnm tx p (tke tx n p))) (h11' : tkk tx n p = 1 → F 11 = nI (nvd tx p (rl (fun i => dg (tx i)) n p))) (hk : tkk tx n p ≠ 4) (htx : ∀ j, tx j < 128) : cp_34_0 o (rdM N o F A B C) ∧ cres N o F p (cf_34_0 o (rdM N o F A B C)) (act tx n p (2, s, S, t)) := by
  have hc := tkc_lt (n := n) (p := p) htx
  obtain ⟨k1, k2, k3, k4⟩ := tkc_k (tx := tx) (n := n) (p := p) hk
  have hF : ∀ j, j ≠ 4 → j ≠ 5 → j ≠ 6 → j ≠ 7 → j ≠ 12 → j ≠ 13 → j ≠ 15 → j ≠ 16 → F j = F j := fun _ _ _ _ _ _ _ _ _ => rfl
  have eN : ∀ b, b < 128 → (nI (tkc tx n p) = nI b ↔ tkc tx n p = b) := fun b hb => nI_eq (by omega) (by omega)
  rw [cp_34_0, cf_34_0]
  show _ ∧ cres N o F p _ (opd (tkk tx n p) (tkc tx n p) (nvd tx p (rl (fun i => dg (tx i)) n p)) (wnm tx p (tke tx n p)) s S t)
  unfold opd
  simp only [rd_o, h10]
  by_cases w2 : tkk tx n p = 2
  · have l2 : nI (tkc tx n p) = 2 := by rw [k2.mpr w2]; rfl
    have l1 : ¬ nI (tkc tx n p) = 1 := by rw [l2]; decide
    rw [if_pos l2, if_neg (show ¬ tkk tx n p = 1 by omega), if_pos w2, h11 w2]
    by_cases w3 : wnm tx p (tke tx n p) < 53
    · obtain ⟨a1, a2⟩ := c_opd (N := N) (o := o) (p := p) (v := wnm tx p (tke tx n p)) (z := true) hp hl hg (by rw [h11 w2, nO_lt w3])
      rw [nO_lt w3, if_neg (show ¬ nI (wnm tx p (tke tx n p)) = -1 by rw [nI_m1 (by omega)]; exact id), if_pos w3, cp_34_22, cf_34_22, cp_34_38, cf_34_38]
      simp only [rd_o, h10]
      rw [if_neg l1, if_pos l2, if_neg l1]
      exact ⟨⟨fun _ => ⟨fun _ => trivial, fun _ => ⟨fun q => absurd q l1, fun _ => ⟨fun _ => ⟨fun q => absurd q l1, fun _ => a1⟩, fun q => absurd l2 q⟩⟩⟩, fun q => absurd l2 q⟩, a2⟩
    · rw [nO_ge w3, if_pos (show (-1 : Int32) = -1 from rfl), if_neg w3]
      exact ⟨⟨fun _ => ⟨fun _ => trivial, fun q => absurd rfl q⟩, fun q => absurd l2 q⟩, cres_f (e := 3) hF h9⟩
  · have l2 : ¬ nI (tkc tx n p) = 2 := fun q => w2 (k2.mp ((eN 2 (by omega)).mp q))
    rw [if_neg l2, cp_34_22, cf_34_22]
    simp only [rd_o, h10]
    by_cases w1 : tkk tx n p = 1
    · have l1 : nI (tkc tx n p) = 1 := by rw [k1.mpr w1]; rfl
      obtain ⟨a1, a2⟩ := c_opd (N := N) (o := o) (p := p) (v := nvd tx p (rl (fun i => dg (tx i)) n p)) (z := false) hp hl hg (h11' w1)
      rw [if_pos l1, if_pos w1, cp_34_38, cf_34_38]
      simp only [rd_o, h10]
      rw [if_pos l1]
      exact ⟨⟨fun q => absurd q l2, fun _ => ⟨fun _ => ⟨fun _ => a1, fun q => absurd l1 q⟩, fun q => absurd l1 q⟩⟩, a2⟩
    · have l1 : ¬ nI (tkc tx n p) = 1 := fun q => w1 (k1.mp ((eN 1 (by omega)).mp q))
      rw [if_neg l1, if_neg w1, if_neg l2, if_neg w2]
      by_cases w3 : tkc tx n p = 45
      · have l3 : nI (tkc tx n p) = 45 := by rw [w3]; rfl
        obtain ⟨a1, a2⟩ := c_opn (N := N) (o := o) (p := p) (c := 3) hp h9 (by omega) (by decide) rfl
        rw [if_pos l3, if_pos w3, cp_34_89, cf_34_89]
        simp only [rd_o, h10]
        rw [if_pos l3]
        exact ⟨⟨fun q => absurd q l2, fun _ => ⟨fun q => absurd q l1, fun _ => ⟨fun q => absurd q l2, fun _ => ⟨fun _ => ⟨fun _ => a1, fun q => absurd l3 q⟩, fun q => absurd l3 q⟩⟩⟩⟩, a2⟩
      · have l3 : ¬ nI (tkc tx n p) = 45 := fun q => w3 ((eN 45 (by omega)).mp q)
        rw [if_neg l3, if_neg w3]
        by_cases w4 : tkc tx n p = 40
        · have l4 : nI (tkc tx n p) = 40 := by rw [w4]; rfl
          obtain ⟨a1, a2⟩ := c_opn (N := N) (o := o) (p := p) (c := 40) hp h9 (by omega) (by decide) rfl
          rw [if_pos l4, if_pos w4, cp_34_89, cf_34_89]
          simp only [rd_o, h10]
          rw [if_neg l3]
          exact ⟨⟨fun q => absurd q l2, fun _ => ⟨fun q => absurd q l1, fun _ => ⟨fun q => absurd q l2, fun _ => ⟨fun q => absurd q l3, fun _ => ⟨fun _ => ⟨fun q => absurd q l3, fun _ => a1⟩, fun q => absurd l4 q⟩⟩⟩⟩⟩, a2⟩
        · have l4 : ¬ nI (tkc tx n p) = 40 := fun q => w4 ((eN 40 (by omega)).mp q)
          rw [if_neg l4, if_neg w4]
          exact ⟨⟨fun q => absurd q l2, fun _ => ⟨fun q => absurd q l1, fun _ => ⟨fun q => absurd q l2, fun _ => ⟨fun q => absurd q l3, fun _ => ⟨fun q => absurd q l4, fun _ => trivial⟩⟩⟩⟩⟩, cres_f (e := 2) hF h9⟩
end Act
