/-! PURE (50zq): the reference at a token. -/
/-- the reference's fields tell the parser's state -/
def pr (F W V E G K : Nat → Int32) (s : List Nat) (S : List (Nat × Nat)) : Prop := F 31 = nI (nw S) ∧ F 156 = nI s.length ∧ F 157 = nI (nst s) ∧ stk K rk s ∧ rws W V E G S
/-- the steps that the reference holds: an assignment is laid by its caller -/
def rst (x : PSt) : List (Nat × Nat) := if x.1 = 0 then x.2.2.1.tail else x.2.2.1
def rres (N : mz_N) (F E G : Nat → Int32) (p : Nat) (M : mz_N) (a : Nat ⊕ PSt) : Prop := ∃ F' W' V' K', M = rsM N F' W' V' E G K' ∧ (∀ j, j ≠ 31 → j ≠ 35 → j ≠ 154 → j ≠ 156 → j ≠ 157 → F' j = F j) ∧ (∀ e, a = .inl e → F' 154 = nI e ∧ F' 35 = nI p) ∧ (∀ x : PSt, a = .inr x → F' 154 = 0 ∧ F' 35 = F 35 ∧ pr F' W' V' E G K' x.2.1 (rst x))
section Prr
variable {N : mz_N} {n p t : Nat} {tx : Nat → Nat} {F W V E G K : Nat → Int32} {s : List Nat} {S : List (Nat × Nat)}
theorem rres_f {e : Nat} {F0 : Nat → Int32} (h0 : ∀ j, j ≠ 31 → j ≠ 35 → j ≠ 154 → j ≠ 156 → j ≠ 157 → F j = F0 j) (h4 : F 154 = 0) (h50 : F 150 = nI p) : rres N F0 E G p (cf_443_0 (nI e) (rsM N F W V E G K)) (.inl e) := by
  refine ⟨upd (upd F 154 (nI e)) 35 (F 150), W, V, K, rs_bl h4, fun j a b c d e' => ?_, fun e2 h2 => ?_, (fun x hx => by cases hx)⟩
  · rw [up_a, if_neg b, up_a, if_neg c]; exact h0 j a b c d e'
  · cases h2
    exact ⟨rfl, h50⟩
theorem g4_pr (hp : pr F W V E G K s S) : g4 F (nI (nw S)) (nI s.length) (nI (nst s)) = F := g4_self hp.1 hp.2.1 hp.2.2.1
theorem r_opd {v c : Nat} (hp : pr F W V E G K s S) (hl : s.length + S.length < 196) (hg : gst s) (hc : c = 0 ∨ c = 1) : cp_449_0 (nI c) (nI v) (rsM N F W V E G K) ∧ cp_450_0 (cf_449_0 (nI c) (nI v) (rsM N F W V E G K)) ∧ ∃ W' V', cf_450_0 (cf_449_0 (nI c) (nI v) (rsM N F W V E G K)) = rsM N (g4 F (nI (nw (tb s ((c, v) :: S)).2)) (nI (tb s ((c, v) :: S)).1.length) (nI (nst (tb s ((c, v) :: S)).1))) W' V' E G K ∧ rws W' V' E G (tb s ((c, v) :: S)).2 := by
  have hS := nanw S
  obtain ⟨a1, a2⟩ := rp_put (N := N) (F := F) (W := W) (V := V) (E := E) (G := G) (K := K) (a := nI c) (b := nI v) (k := nw S) hp.1 (by omega)
  have hc2 : c ≠ 2 ∧ rz c = c := by rcases hc with rfl | rfl <;> exact ⟨by decide, rfl⟩
  have en : nw ((c, v) :: S) = nw S + 1 := by show (if c = 2 then nw S else nw S + 1) = _; rw [if_neg hc2.1]
  have ef : upd F 31 (nI (nw S + 1)) = g4 F (nI (nw ((c, v) :: S))) (nI s.length) (nI (nst s)) := by
    rw [en, ← g4_31 (x := F 31), g4_self rfl hp.2.1 hp.2.2.1]
  obtain ⟨b1', W', V', b2', b3'⟩ := tb_r (N := N) (F := F) (E := E) (G := G) (K := K) s ((c, v) :: S) (upd W (nw S) (nI c)) (upd V (nw S) (nI v)) (by show s.length + (S.length + 1) ≤ 196; omega) hg hp.2.2.2.1 ⟨fun q => absurd q hc2.1, fun _ => ⟨by rw [up_a, if_pos rfl, hc2.2], by rw [up_a, if_pos rfl]⟩, rws_up (Nat.le_refl _) hp.2.2.2.2⟩
  rw [← ef] at b1' b2'
  rw [a2]
  exact ⟨a1, b1', W', V', b2', b3'⟩
theorem r_fac (hn : n ≤ 196) (hT : ∀ j, j < n → N.1 338 j = nI (tx j)) (htx : ∀ j, tx j < 128) (hp : pr F W V E G K s S) (hl : s.length + S.length < 196) (hg : gst s) (hk : tkk tx n p ≠ 4) (h147 : F 147 = nI n) (h149 : F 149 = nI (tkq tx n p)) (h150 : F 150 = nI p) (h151 : F 151 = nI (tke tx n p)) (h152 : tkk tx n p ≠ 0 → F 152 = nI (tx p)) (h153 : tkk tx n p = 1 → F 153 = nI (nvd tx p (rl (fun i => dg (tx i)) n p))) (h154 : F 154 = 0) :
    cp_448_0 (rsM N F W V E G K) ∧ rres N F E G p (cf_448_0 (rsM N F W V E G K)).2 (act tx n p (2, s, S, t)) ∧ ∀ y : PSt, act tx n p (2, s, S, t) = .inr y → (cf_448_0 (rsM N F W V E G K)).1 = decide (y.1 = 3) := by
  have hF : ∀ j, j ≠ 31 → j ≠ 35 → j ≠ 154 → j ≠ 156 → j ≠ 157 → F j = F j := fun _ _ _ _ _ _ => rfl
  obtain ⟨k1, k2, k3, k4⟩ := tkc_k (tx := tx) (n := n) (p := p) hk
  rw [cp_448_0, cf_448_0]
  show _ ∧ rres N F E G p _ (opd (tkk tx n p) (tkc tx n p) (nvd tx p (rl (fun i => dg (tx i)) n p)) (wnm tx p (tke tx n p)) s S t) ∧ ∀ y, opd (tkk tx n p) (tkc tx n p) (nvd tx p (rl (fun i => dg (tx i)) n p)) (wnm tx p (tke tx n p)) s S t = .inr y → _
  unfold opd
  simp only [rs_o, h149]
  by_cases w1 : tkk tx n p = 1
  · have l1 : nI (tkq tx n p) = 2 := by unfold tkq; rw [if_pos w1]; rfl
    obtain ⟨a1, a2, W', V', a3, a4⟩ := r_opd (N := N) (v := nvd tx p (rl (fun i => dg (tx i)) n p)) (c := 0) hp hl hg (Or.inl rfl)
    obtain ⟨⟨i1, i2, i3, i4, i5⟩, -⟩ := tb_ok s ((0, nvd tx p (rl (fun i => dg (tx i)) n p)) :: S) hg
    have a1' : cp_449_0 0 (nI (nvd tx p (rl (fun i => dg (tx i)) n p))) (rsM N F W V E G K) := a1
    have a2' : cp_450_0 (cf_449_0 0 (nI (nvd tx p (rl (fun i => dg (tx i)) n p))) (rsM N F W V E G K)) := a2
    have a3' : cf_450_0 (cf_449_0 0 (nI (nvd tx p (rl (fun i => dg (tx i)) n p))) (rsM N F W V E G K)) = _ := a3
    rw [if_pos l1, if_pos w1, h153 w1, a3']
    refine ⟨⟨fun _ => ⟨a1', a2'⟩, fun q => absurd l1 q⟩, ⟨_, W', V', K, rfl, fun j a b c d e => g4_n a d e, (fun e he => by cases he), fun x hx => ?_⟩, fun y hy => ?_⟩
    · cases hx
      exact ⟨h154, rfl, rfl, rfl, rfl, i4 K rk hp.2.2.2.1, a4⟩
    · cases hy; rfl
  · have l1 : ¬ nI (tkq tx n p) = 2 := by
      unfold tkq; rw [if_neg w1]
      split
      · decide
      · split <;> decide
    rw [if_neg l1, if_neg w1]
    by_cases w2 : tkk tx n p = 2
    · have l2 : nI (tkq tx n p) = 1 := by unfold tkq; rw [if_neg w1, if_pos w2]; rfl
      obtain ⟨t1, t2, t3⟩ := tke_ok (tx := tx) (n := n) (p := p) (by omega) hk
      obtain ⟨n1, n2⟩ := name_r (N := rsM N F W V E G K) (n := n) (p := p) (q := tke tx n p) (tx := tx) hn ⟨by rw [rs_o]; exact h147, fun j hj => by rw [rs_x]; exact hT j hj⟩ htx (by rw [rs_o]; exact h151) (by rw [rs_o]; exact h150) t2 t3
      rw [if_pos l2, if_pos w2, n2]
      by_cases w3 : wnm tx p (tke tx n p) < 53
      · have lw : ¬ nI (wnm tx p (tke tx n p)) < 0 := nI_pos (by omega)
        obtain ⟨a1, a2, W', V', a3, a4⟩ := r_opd (N := N) (v := wnm tx p (tke tx n p)) (c := 1) hp hl hg (Or.inr rfl)
        obtain ⟨⟨i1, i2, i3, i4, i5⟩, -⟩ := tb_ok s ((1, wnm tx p (tke tx n p)) :: S) hg
        have a1' : cp_449_0 1 (nI (wnm tx p (tke tx n p))) (rsM N F W V E G K) := a1
        have a2' : cp_450_0 (cf_449_0 1 (nI (wnm tx p (tke tx n p))) (rsM N F W V E G K)) := a2
        have a3' : cf_450_0 (cf_449_0 1 (nI (wnm tx p (tke tx n p))) (rsM N F W V E G K)) = _ := a3
        rw [nO_lt w3, if_neg lw, if_pos w3, cf_448_45, a3']
        refine ⟨⟨fun q => absurd q l1, fun _ => ⟨fun _ => ⟨n1, fun q => absurd q lw, fun _ => ⟨a1', a2'⟩⟩, fun q => absurd l2 q⟩⟩, ⟨_, W', V', K, rfl, fun j a b c d e => g4_n a d e, (fun e he => by cases he), fun x hx => ?_⟩, fun y hy => ?_⟩
        · cases hx
          exact ⟨h154, rfl, rfl, rfl, rfl, i4 K rk hp.2.2.2.1, a4⟩
        · cases hy; rfl
      · have lw : (-1 : Int32) < 0 := by decide
        have hp' : pr (upd (upd F 154 3) 35 (F 150)) W V E G K s S := ⟨hp.1, hp.2.1, hp.2.2.1, hp.2.2.2.1, hp.2.2.2.2⟩
        obtain ⟨a1, a2, W', V', a3, a4⟩ := r_opd (N := N) (v := 4294967295) (c := 1) hp' hl hg (Or.inr rfl)
        rw [show nI 4294967295 = -1 from rfl, show nI 1 = 1 from rfl] at a1 a2 a3
        rw [nO_ge w3, if_pos lw, if_neg w3, cf_448_45, rs_bl h154, a3]
        refine ⟨⟨fun q => absurd q l1, fun _ => ⟨fun _ => ⟨n1, fun _ => ⟨a1, a2⟩, fun q => absurd lw q⟩, fun q => absurd l2 q⟩⟩, ⟨_, W', V', K, rfl, fun j a b c d e => ?_, fun e he => ?_, (fun x hx => by cases hx)⟩, (fun y hy => by cases hy)⟩
        · rw [g4_n a d e, up_a, if_neg b, up_a, if_neg c]
        · cases he
          exact ⟨rfl, h150⟩
    · have l2 : ¬ nI (tkq tx n p) = 1 := by
        unfold tkq; rw [if_neg w1, if_neg w2]
        split <;> decide
      rw [if_neg l2, if_neg w2, cp_448_91, cf_448_91]
      by_cases w3 : tkk tx n p = 3
      · have l3 : nI (tkq tx n p) = 3 := by unfold tkq; rw [if_neg w1, if_neg w2, if_neg (by omega)]; rfl
        have ec : tkc tx n p = tx p := by unfold tkc; rw [if_pos w3]
        have hc := htx p
        rw [if_pos l3, ec]
        simp only [rs_o, h152 (by omega), hp.2.2.1]
        have hn0 : nst s ≤ s.length := by
          have : ∀ s : List Nat, nst s ≤ s.length := by
            intro s
            induction s with
            | nil => exact Nat.le_refl _
            | cons c s ih =>
              show nst s + isn c ≤ s.length + 1
              have : isn c ≤ 1 := by unfold isn; split <;> omega
              omega
          exact this s
        have opn : ∀ c, oks c → isn c = 1 → cp_454_0 (nI (rk c)) (rsM N F W V E G K) ∧ rres N F E G p (cf_454_0 (nI (rk c)) (rsM N F W V E G K)) (.inr (2, c :: s, S, t)) := fun c ho hi => by
          obtain ⟨b1', b2'⟩ := rp_hold (N := N) (F := F) (W := W) (V := V) (E := E) (G := G) (K := K) (c := c) (l := s.length) (m := nst s) hp.2.1 (by omega) ho hp.2.2.1
          rw [b2']
          refine ⟨b1', _, W, V, _, rfl, fun j a b c d e => ?_, (fun e he => by cases he), fun x hx => ?_⟩
          · rw [up_a, if_neg e, up_a, if_neg d]
          · cases hx
            exact ⟨h154, rfl, hp.1, rfl, rfl, ⟨by rw [up_a, if_pos rfl], stk_up (Nat.le_refl _) hp.2.2.2.1⟩, hp.2.2.2.2⟩
        have l10 : nI (nst s) < 10 ↔ nst s < 10 := nI_ltI (b := 10) (by omega) (by omega)
        by_cases w4 : tx p = 45
        · have l4 : nI (tx p) = 45 := by rw [w4]; rfl
          obtain ⟨b1', b2'⟩ := opn 3 (Or.inl rfl) rfl
          rw [if_pos l4, if_pos w4]
          by_cases w5 : nst s < 10
          · rw [if_pos (l10.mpr w5), if_pos w5, if_pos l4, cf_448_124]
            exact ⟨⟨fun q => absurd q l1, fun _ => ⟨fun q => absurd q l2, fun _ => ⟨fun _ => ⟨fun _ => ⟨fun _ => ⟨fun _ => b1', fun q => absurd l4 q⟩, fun _ => trivial⟩, fun q => absurd l4 q⟩, fun q => absurd l3 q⟩⟩⟩, b2', (fun y hy => by cases hy; rfl)⟩
          · rw [if_neg (fun q => w5 (l10.mp q)), if_neg w5]
            exact ⟨⟨fun q => absurd q l1, fun _ => ⟨fun q => absurd q l2, fun _ => ⟨fun _ => ⟨fun _ => ⟨fun q => absurd (l10.mp q) w5, fun _ => trivial⟩, fun q => absurd l4 q⟩, fun q => absurd l3 q⟩⟩⟩, rres_f (e := 5) hF h154 h150, (fun y hy => by cases hy)⟩
        · have l4 : ¬ nI (tx p) = 45 := fun q => w4 ((nI_eq (b := 45) (by omega) (by omega)).mp q)
          rw [if_neg l4, if_neg w4]
          by_cases w6 : tx p = 40
          · have l6 : nI (tx p) = 40 := by rw [w6]; rfl
            obtain ⟨b1', b2'⟩ := opn 40 (Or.inr (Or.inr (Or.inr (Or.inl rfl)))) rfl
            rw [if_pos l6, if_pos w6]
            by_cases w5 : nst s < 10
            · rw [if_pos (l10.mpr w5), if_pos w5, if_neg l4, cf_448_124]
              exact ⟨⟨fun q => absurd q l1, fun _ => ⟨fun q => absurd q l2, fun _ => ⟨fun _ => ⟨fun q => absurd q l4, fun _ => ⟨fun _ => ⟨fun _ => ⟨fun q => absurd q l4, fun _ => b1'⟩, fun _ => trivial⟩, fun q => absurd l6 q⟩⟩, fun q => absurd l3 q⟩⟩⟩, b2', (fun y hy => by cases hy; rfl)⟩
            · rw [if_neg (fun q => w5 (l10.mp q)), if_neg w5]
              exact ⟨⟨fun q => absurd q l1, fun _ => ⟨fun q => absurd q l2, fun _ => ⟨fun _ => ⟨fun q => absurd q l4, fun _ => ⟨fun _ => ⟨fun q => absurd (l10.mp q) w5, fun _ => trivial⟩, fun q => absurd l6 q⟩⟩, fun q => absurd l3 q⟩⟩⟩, rres_f (e := 5) hF h154 h150, (fun y hy => by cases hy)⟩
          · have l6 : ¬ nI (tx p) = 40 := fun q => w6 ((nI_eq (b := 40) (by omega) (by omega)).mp q)
            rw [if_neg l6, if_neg w6, cf_448_83]
            exact ⟨⟨fun q => absurd q l1, fun _ => ⟨fun q => absurd q l2, fun _ => ⟨fun _ => ⟨fun q => absurd q l4, fun _ => ⟨fun q => absurd q l6, fun _ => trivial⟩⟩, fun q => absurd l3 q⟩⟩⟩, rres_f (e := 2) hF h154 h150, (fun y hy => by cases hy)⟩
      · have l3 : ¬ nI (tkq tx n p) = 3 := by
          have h0 : tkk tx n p = 0 := by
            have : tkk tx n p ≤ 4 := by unfold tkk; repeat' split <;> try omega
            omega
          unfold tkq; rw [if_neg w1, if_neg w2, if_pos h0]
          decide
        rw [if_neg l3, if_neg (show ¬ tkc tx n p = 45 by omega), if_neg (show ¬ tkc tx n p = 40 by omega), cf_448_83]
        exact ⟨⟨fun q => absurd q l1, fun _ => ⟨fun q => absurd q l2, fun _ => ⟨fun q => absurd q l3, fun _ => trivial⟩⟩⟩, rres_f (e := 2) hF h154 h150, (fun y hy => by cases hy)⟩
end Prr
