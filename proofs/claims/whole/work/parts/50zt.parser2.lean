/-! PURE (50zt): the reference's parse. -/
def rfb (N : mz_N) (F0 : Nat → Int32) (n e p : Nat) (M : mz_N) : Prop := ∃ F W V E G K, M = rsM N F W V E G K ∧ rfr F0 F ∧ F 147 = nI n ∧ F 154 = nI e ∧ F 35 = nI p
def rsq (N : mz_N) (tx : Nat → Nat) (n : Nat) (F0 : Nat → Int32) (z : Nat × Nat × List (Nat × Nat)) (k : Nat) (M : mz_N) : Prop :=
  (z.1 ≠ 0 ∧ rfb N F0 n z.1 z.2.1 M) ∨ ∃ f' q' S' t, n + 1 - q' < f' ∧ q' ≤ n ∧ psk q' (0, [], S', t) ∧ z = pz tx n f' q' (0, [], S', t) ∧ na S' = k + 1 ∧ ∃ E G, rok N F0 E G n q' S' M
section Pr2
variable {N : mz_N} {n p q t : Nat} {tx : Nat → Nat} {F W V E G K : Nat → Int32} {s : List Nat} {S : List (Nat × Nat)}
theorem r_95 {k : Nat} {v : Int32} (h : F 28 = nI k) (hk : k ≤ 12) : cp_445_95 v (rsM N F W V E G K) ∧ cf_445_95 v (rsM N F W V E G K) = rsM N (upd F 28 (if F 154 = 0 then nI (k + 1) else nI k)) W V (upd E k (F 31)) (upd G k v) K := by
  rw [cp_445_95, cf_445_95]
  simp only [rs_o, h, rs_w4, rs_w3, nI_clamp (show k < 2 ^ 31 by omega)]
  have i1 : mz_ib (nI k) 13 := ib_n (by omega) (by omega)
  refine ⟨⟨i1, i1, fun _ => trivial, fun _ => trivial⟩, ?_⟩
  rw [cf_445_118, rs_o, h]
  by_cases w : F 154 = 0
  · rw [if_pos w, if_pos w, cf_445_135, rs_pI, show mz_b01 true = 1 from rfl, nI_1]
  · rw [if_neg w, if_neg w, cf_445_135, rs_pI, show mz_b01 false = 0 from rfl, Int32.add_zero]
theorem r_95f {F0 : Nat → Int32} {e k : Nat} {v : Int32} {M : mz_N} (hk : k ≤ 12) (he : 0 < e ∧ e < 10) (h : rfa N F0 E G n k e p M) : cp_445_95 v M ∧ rfb N F0 n e p (cf_445_95 v M) := by
  obtain ⟨F, W, V, K, h1, h2, h3, h4, h5, h6⟩ := h
  subst h1
  obtain ⟨a1, a2⟩ := r_95 (N := N) (F := F) (W := W) (V := V) (E := E) (G := G) (K := K) (v := v) h6 hk
  rw [a2]
  exact ⟨a1, _, _, _, _, _, _, rfl, fun j a b c d e g => by rw [up_a, if_neg a]; exact h2 j a b c d e g, h3, h4, h5⟩
theorem r_95k {F0 : Nat → Int32} {v : Nat} {M : mz_N} (hk : na S ≤ 12) (h : rok N F0 E G n q S M) : cp_445_95 (nI v) M ∧ ∃ E' G', rok N F0 E' G' n q ((2, v) :: S) (cf_445_95 (nI v) M) := by
  obtain ⟨F, W, V, K, h1, h2, h3, h4, h5, h6, h7, h8, h9⟩ := h
  subst h1
  obtain ⟨a1, a2⟩ := r_95 (N := N) (F := F) (W := W) (V := V) (E := E) (G := G) (K := K) (v := nI v) h7 hk
  rw [a2, if_pos h4]
  refine ⟨a1, _, _, _, _, _, _, rfl, fun j a b c d e g => by rw [up_a, if_neg a]; exact h2 j a b c d e g, h3, h4, h5, h6, rfl, h8, ⟨fun _ => ⟨by rw [up_a, if_pos rfl], by rw [up_a, if_pos rfl]; exact h8⟩, fun q => absurd rfl q, rws_up2 (Nat.le_refl _) h9⟩⟩
theorem r_84f {F0 : Nat → Int32} {e k : Nat} {v : Int32} {M : mz_N} (hk : k ≤ 12) (he : 0 < e ∧ e < 10) (h : rfa N F0 E G n k e p M) : cp_445_84 v M ∧ rfb N F0 n e p (cf_445_84 v M) := by
  obtain ⟨z1, z2⟩ := r_95f (v := v) hk he h
  obtain ⟨F, W, V, K, h1, h2, h3, h4, h5, h6⟩ := h
  have hne : ¬ M.1 232 154 = 0 := by rw [h1, rs_o, h4, nI_eq0 (by omega)]; omega
  rw [cp_445_84, cf_445_84, if_neg hne]
  exact ⟨⟨fun z => absurd z hne, fun _ => z1⟩, z2⟩
theorem r_stmt {F0 H : Nat → Int32} {f : Nat} (hn : n ≤ 196) (hT : ∀ j, j < n → N.1 338 j = nI (tx j)) (htx : ∀ j, tx j < 128) (hp : p ≤ n) (hx : psk p (0, [], S, t)) (hf : n + 1 - p ≤ f) (hk0 : tkk tx n p ≠ 0) (h4 : tkk tx n p ≠ 4) (hfr : rfr F0 H) (h147 : H 147 = nI n) (h148 : H 148 = nI (tke tx n p)) (h149 : H 149 = nI (tkq tx n p)) (h150 : H 150 = nI p) (h151 : H 151 = nI (tke tx n p)) (h154 : H 154 = 0) (h35 : H 35 = F0 35) (h28 : H 28 = nI (na S)) (h31 : H 31 = nI (nw S)) (hw : rws W V E G S) :
    cp_445_0 (rsM N H W V E G K) ∧ rsq N tx n F0 (pa tx n f p (0, [], S, t)) (na S) (cf_445_0 (rsM N H W V E G K)) := by
  have hna : na S ≤ 12 := hx.2.1
  obtain ⟨t1, t2, t3⟩ := tke_ok hk0 h4
  have ea : pa tx n f p (0, [], S, t) = match act tx n p (0, [], S, t) with
      | .inl e => (e, p, S)
      | .inr y => pz tx n f (tke tx n p) y := by
    unfold pa
    rw [if_neg (fun z => hk0 z.1)]
    rfl
  have bl : ∀ e : Nat, 0 < e → rsq N tx n F0 (e, p, S) (na S) (cf_443_0 (nI e) (rsM N H W V E G K)) := fun e he => by
    refine Or.inl ⟨by show e ≠ 0; omega, upd (upd H 154 (nI e)) 35 (H 150), W, V, E, G, K, rs_bl h154, fun j a b c d e' g => ?_, h147, rfl, h150⟩
    rw [up_a, if_neg c, up_a, if_neg (by omega)]; exact hfr j a b c d e' g
  have act0 : act tx n p (0, [], S, t) = (if na S < 12 then (if tkk tx n p = 2 then (if wnm tx p (tke tx n p) < 16 then .inr (1, [], S, wnm tx p (tke tx n p)) else .inl 3) else .inl 2) else .inl 6) := rfl
  rw [ea, act0, cp_445_0, cf_445_0]
  simp only [rs_o, h28, h149]
  by_cases w1 : na S < 12
  · have l1 : ¬ nI (na S) = 12 := fun z => by have := (nI_eq (b := 12) (by omega) (by omega)).mp z; omega
    rw [if_neg l1, if_pos w1]
    by_cases w2 : tkk tx n p = 2
    · have l2 : nI (tkq tx n p) = 1 := by unfold tkq; rw [w2]; rfl
      obtain ⟨n1, n2⟩ := name_r (N := rsM N H W V E G K) (n := n) (p := p) (q := tke tx n p) (tx := tx) hn ⟨by rw [rs_o]; exact h147, fun j hj => by rw [rs_x]; exact hT j hj⟩ htx (by rw [rs_o]; exact h151) (by rw [rs_o]; exact h150) t2 t3
      rw [if_pos l2, if_pos w2, n2]
      by_cases w3 : wnm tx p (tke tx n p) < 16
      · have lw : ¬ nI (wnm tx p (tke tx n p)) < 0 := nI_pos (by omega)
        have lw2 : ¬ (15 : Int32) < nI (wnm tx p (tke tx n p)) := fun z => by have := (nI_ltI (a := 15) (by omega) (by omega)).mp z; omega
        rw [nO_lt (by omega), if_neg lw, if_neg lw2, if_pos w3]
        generalize hwn : wnm tx p (tke tx n p) = wn at *
        show _ ∧ rsq N tx n F0 (pz tx n f (tke tx n p) (1, [], S, wn)) (na S) _
        obtain ⟨v1, H2, v2, v3⟩ := tk_r (N := N) (F := H) (W := W) (V := V) (E := E) (G := G) (K := K) hn h147 hT htx h148 h154 t3
        rw [show tke tx n p + rl (spc tx) n (tke tx n p) = sk tx n (tke tx n p) from rfl] at v3
        obtain ⟨s1, s2⟩ := sk_ok (tx := tx) t3
        obtain ⟨g1, g2, g3, g4'⟩ := v3
        have gfr : rfr F0 H2 := fun j a b c d e g => by
          rw [g1 j c (by omega) (by omega) (by omega) (by omega) (by omega) (by omega) (by omega)]
          exact hfr j a b c d e g
        have j147 : H2 147 = nI n := by rw [g1 147 (by decide) (by decide) (by decide) (by decide) (by decide) (by decide) (by decide) (by decide), h147]
        have j28 : H2 28 = nI (na S) := by rw [g1 28 (by decide) (by decide) (by decide) (by decide) (by decide) (by decide) (by decide) (by decide), h28]
        have j31 : H2 31 = nI (nw S) := by rw [g1 31 (by decide) (by decide) (by decide) (by decide) (by decide) (by decide) (by decide) (by decide), h31]
        obtain ⟨f1, rfl⟩ : ∃ f1, f = f1 + 1 := ⟨f - 1, by omega⟩
        rw [pz_s]
        have pre : ∀ {A B C D Z : Prop}, Z → ((nI (na S) = 12 → True) ∧ (¬ nI (na S) = 12 → (nI (tkq tx n p) = 1 → cp_446_0 (rsM N H W V E G K) ∧ (nI wn < 0 → A) ∧ (¬ nI wn < 0 → (15 < nI wn → B) ∧ (¬ 15 < nI wn → Z))) ∧ (¬ nI (tkq tx n p) = 1 → True))) := fun z => ⟨fun _ => trivial, fun _ => ⟨fun _ => ⟨n1, fun q => absurd q lw, fun _ => ⟨fun q => absurd q lw2, fun _ => z⟩⟩, fun _ => trivial⟩⟩
        rw [v2, rs_o]
        by_cases wl : lxf tx n (sk tx n (tke tx n p)) = 0
        · obtain ⟨x1, x2, x3, x4, x5, x6, x7⟩ := g3 wl
          have h4' := lxf_k wl
          obtain ⟨k1, k2, k3, k4⟩ := tkc_k (tx := tx) (n := n) (p := sk tx n (tke tx n p)) h4'
          have hc := htx (sk tx n (tke tx n p))
          have ea2 : pa tx n f1 (sk tx n (tke tx n p)) (1, [], S, wn) = match act tx n (sk tx n (tke tx n p)) (1, [], S, wn) with
              | .inl e => (e, sk tx n (tke tx n p), S)
              | .inr y => pz tx n f1 (tke tx n (sk tx n (tke tx n p))) y := by
            unfold pa
            rw [if_neg (fun z => absurd (show (1 : Nat) = 0 from z.2) (by decide))]
            rfl
          have act1 : act tx n (sk tx n (tke tx n p)) (1, [], S, wn) = (if tkc tx n (sk tx n (tke tx n p)) = 61 then .inr (2, [], S, wn) else .inl 2) := rfl
          rw [if_pos wl, ea2, act1, if_pos x1]
          have flt : cp_445_79 (nI wn) (rsM N H2 W V E G K) ∧ rsq N tx n F0 (2, sk tx n (tke tx n p), S) (na S) (cf_445_79 (nI wn) (rsM N H2 W V E G K)) := by
            rw [cp_445_79, cf_445_79]
            have hfa : rfa N F0 E G n (na S) 2 (sk tx n (tke tx n p)) (cf_443_0 2 (rsM N H2 W V E G K)) := by
              refine ⟨upd (upd H2 154 2) 35 (H2 150), W, V, K, rs_bl x1, fun j a b c d e' g => ?_, j147, rfl, g2, j28⟩
              rw [up_a, if_neg c, up_a, if_neg (by omega)]; exact gfr j a b c d e' g
            obtain ⟨z1, z2⟩ := r_84f (v := nI wn) hna (by omega) hfa
            exact ⟨z1, Or.inl ⟨show (2 : Nat) ≠ 0 by decide, z2⟩⟩
          by_cases w6 : tkc tx n (sk tx n (tke tx n p)) = 61
          · have k3' : tkk tx n (sk tx n (tke tx n p)) = 3 := by omega
            have l5 : H2 149 = 3 := by rw [x5]; unfold tkq; rw [k3']; rfl
            have etc : tx (sk tx n (tke tx n p)) = 61 := by
              have : tkc tx n (sk tx n (tke tx n p)) = tx (sk tx n (tke tx n p)) := by unfold tkc; rw [if_pos k3']
              omega
            have l6 : H2 152 = 61 := by rw [x6 (by omega), etc]; rfl
            rw [if_pos l5, if_pos l6, if_pos w6]
            obtain ⟨u1, u2, u3⟩ := tke_ok (tx := tx) (n := n) (p := sk tx n (tke tx n p)) (by omega) h4'
            obtain ⟨y1, y2⟩ := r_expr (N := N) (n := n) (tx := tx) (E := E) (G := G) (F0 := F0) hn hT htx f1 (tke tx n (sk tx n (tke tx n p))) (2, [], S, wn) (upd (upd H2 156 0) 157 0) W V K u3 ⟨trivial, hna, fun _ => ⟨w1, w3⟩, by show (2 : Nat) ≤ 3; omega, by have : 0 + S.length ≤ p := by { have := hx.2.2.2.2.1; exact this }; show 0 + S.length ≤ _; omega, fun z => absurd (show (2 : Nat) ≤ 1 from z) (by omega), fun _ => by have : 0 + S.length ≤ p := by { have := hx.2.2.2.2.1; exact this }; show 0 + S.length < _; omega⟩ (Or.inl rfl) (by omega) (fun j a b c d e g => by rw [up_a, if_neg g, up_a, if_neg e]; exact gfr j a b c d e g) j147 x3 x1 (by show H2 35 = _; rw [x2, h35]) j28 ⟨j31, rfl, rfl, trivial, hw⟩
            have e84 : cp_445_84 (nI wn) (rsM N H2 W V E G K) ∧ rsq N tx n F0 (pz tx n f1 (tke tx n (sk tx n (tke tx n p))) (2, [], S, wn)) (na S) (cf_445_84 (nI wn) (rsM N H2 W V E G K)) := by
              have e47 : cf_447_0 (rsM N H2 W V E G K) = mz_run cq_447_14 (decide (2 = 2), true, rsM N (upd (upd H2 156 0) 157 0) W V E G K) := by
                rw [cf_447_0, rs_pI, rs_pI]; rfl
              have p47 : cp_447_0 (rsM N H2 W V E G K) := by
                rw [cp_447_0, rs_pI, rs_pI]; exact y1
              rw [cp_445_84, cf_445_84, rs_o, if_pos x1, e47]
              rcases y2 with ⟨q1, q2⟩ | ⟨f', q', S', q1, q2, q3, q4, q5, q6⟩
              · have qe : 0 < (pz tx n f1 (tke tx n (sk tx n (tke tx n p))) (2, [], S, wn)).1 := by omega
                obtain ⟨F, W', V', K', h1, h2, h3, h4, h5, h6⟩ := id q2
                obtain ⟨a1, a2⟩ := r_95 (N := N) (F := F) (W := W') (V := V') (E := E) (G := G) (K := K') (v := nI wn) h6 hna
                have hm : mz_run cq_447_14 (decide (2 = 2), true, rsM N (upd (upd H2 156 0) 157 0) W V E G K) = rsM N F W' V' E G K' := h1
                rw [hm]
                refine ⟨⟨fun _ => ⟨p47, a1⟩, fun z => absurd x1 z⟩, Or.inl ⟨q1, ?_⟩⟩
                rw [a2]
                exact ⟨_, _, _, _, _, _, rfl, fun j a b c d e g => by rw [up_a, if_neg a]; exact h2 j a b c d e g, h3, h4, h5⟩
              · obtain ⟨a1, E', G', a2⟩ := r_95k (v := wn) (by have : na S' = na S := q5; omega) q6
                exact ⟨⟨fun _ => ⟨p47, a1⟩, fun z => absurd x1 z⟩, Or.inr ⟨f', q', (2, wn) :: S', wn, q1, q2, q3, q4, by show na S' + 1 = _; rw [q5], E', G', a2⟩⟩
            exact ⟨pre (A := True) (B := True) (C := True) (D := True) ⟨v1, fun _ => ⟨fun _ => ⟨fun _ => e84.1, fun z => absurd l6 z⟩, fun z => absurd l5 z⟩, fun z => absurd x1 z⟩, e84.2⟩
          · rw [if_neg w6]
            by_cases w7 : H2 149 = 3
            · have l6 : ¬ H2 152 = 61 := by
                have k3' : tkk tx n (sk tx n (tke tx n p)) = 3 := by
                  rw [x5] at w7
                  unfold tkq at w7
                  by_cases a : tkk tx n (sk tx n (tke tx n p)) = 1
                  · rw [if_pos a] at w7; exact absurd w7 (by decide)
                  · by_cases b : tkk tx n (sk tx n (tke tx n p)) = 2
                    · rw [if_neg a, if_pos b] at w7; exact absurd w7 (by decide)
                    · by_cases c : tkk tx n (sk tx n (tke tx n p)) = 0
                      · rw [if_neg a, if_neg b, if_pos c] at w7; exact absurd w7 (by decide)
                      · have : tkk tx n (sk tx n (tke tx n p)) ≤ 4 := by unfold tkk; repeat' split <;> try omega
                        omega
                rw [x6 (by omega)]
                intro z
                have z' := (nI_eq (b := 61) (by omega) (by omega)).mp z
                have : tkc tx n (sk tx n (tke tx n p)) = tx (sk tx n (tke tx n p)) := by unfold tkc; rw [if_pos k3']
                omega
              rw [if_pos w7, if_neg l6]
              exact ⟨pre (A := True) (B := True) (C := True) (D := True) ⟨v1, fun _ => ⟨fun _ => ⟨fun z => absurd z l6, fun _ => flt.1⟩, fun z => absurd w7 z⟩, fun z => absurd x1 z⟩, flt.2⟩
            · rw [if_neg w7]
              exact ⟨pre (A := True) (B := True) (C := True) (D := True) ⟨v1, fun _ => ⟨fun z => absurd z w7, fun _ => flt.1⟩, fun z => absurd x1 z⟩, flt.2⟩
        · obtain ⟨x1, x2⟩ := g4' wl
          have hlf : lxf tx n (sk tx n (tke tx n p)) < 10 := by unfold lxf; repeat' split <;> try omega
          have hne : ¬ H2 154 = 0 := by rw [x1, nI_eq0 (by omega)]; exact wl
          obtain ⟨z1, z2⟩ := r_84f (v := nI wn) hna (by omega) (show rfa N F0 E G n (na S) (lxf tx n (sk tx n (tke tx n p))) (sk tx n (tke tx n p)) (rsM N H2 W V E G K) from ⟨H2, W, V, K, rfl, gfr, j147, x1, x2, j28⟩)
          rw [if_neg wl, if_neg hne]
          exact ⟨pre (A := True) (B := True) (C := True) (D := True) ⟨v1, fun z => absurd z hne, fun _ => z1⟩, Or.inl ⟨wl, z2⟩⟩
      · rw [if_neg w3]
        show _ ∧ rsq N tx n F0 (3, p, S) (na S) _
        by_cases w4 : wnm tx p (tke tx n p) < 53
        · have lw : ¬ nI (wnm tx p (tke tx n p)) < 0 := nI_pos (by omega)
          have lw2 : (15 : Int32) < nI (wnm tx p (tke tx n p)) := (nI_ltI (a := 15) (by omega) (by omega)).mpr (by omega)
          rw [nO_lt w4, if_neg lw, if_pos lw2, cf_445_45]
          exact ⟨⟨fun _ => trivial, fun _ => ⟨fun _ => ⟨n1, fun z => absurd z lw, fun _ => ⟨fun _ => trivial, fun z => absurd lw2 z⟩⟩, fun _ => trivial⟩⟩, bl 3 (by omega)⟩
        · have lw : (-1 : Int32) < 0 := by decide
          rw [nO_ge w4, if_pos lw, cf_445_45]
          exact ⟨⟨fun _ => trivial, fun _ => ⟨fun _ => ⟨n1, fun _ => trivial, fun z => absurd lw z⟩, fun _ => trivial⟩⟩, bl 3 (by omega)⟩
    · have l2 : ¬ nI (tkq tx n p) = 1 := by
        unfold tkq
        by_cases a : tkk tx n p = 1
        · rw [if_pos a]; decide
        · rw [if_neg a, if_neg w2, if_neg hk0]; decide
      rw [if_neg l2, if_neg w2]
      exact ⟨⟨fun _ => trivial, fun _ => ⟨fun z => absurd z l2, fun _ => trivial⟩⟩, bl 2 (by omega)⟩
  · have e12 : na S = 12 := by omega
    have l1 : nI (na S) = 12 := by rw [e12]; rfl
    rw [if_pos l1, if_neg w1]
    exact ⟨⟨fun _ => trivial, fun z => absurd l1 z⟩, bl 6 (by omega)⟩
/-- what the reference's parse leaves -/
def rpr (N : mz_N) (F0 : Nat → Int32) (z : Nat × Nat × List (Nat × Nat)) (r : Int32 × mz_N) : Prop := ∃ F W V E G K, r = (nI z.1, rsM N F W V E G K) ∧ rfr F0 F ∧ F 154 = nI z.1 ∧ (z.1 ≠ 0 → F 35 = nI z.2.1) ∧ (z.1 = 0 → F 35 = F0 35 ∧ F 28 = nI (na z.2.2) ∧ F 31 = nI (nw z.2.2) ∧ rws W V E G z.2.2)
theorem pz_e (tx : Nat → Nat) (n : Nat) : ∀ f q x, (pz tx n f q x).1 ≤ 6 := by
  intro f
  induction f with
  | zero => intro q x; exact Nat.zero_le _
  | succ f ih =>
    intro q x
    rw [pz_s]
    by_cases wl : lxf tx n (sk tx n q) = 0
    · rw [if_pos wl]
      unfold pa
      split
      · exact Nat.zero_le _
      · split
        · rename_i e he
          exact (act_e he).2
        · exact ih _ _
    · rw [if_neg wl]
      show lxf tx n (sk tx n q) ≤ 6
      unfold lxf
      split
      · omega
      · split <;> omega
theorem pa_e (tx : Nat → Nat) (n f p : Nat) (x : PSt) : (pa tx n f p x).1 ≤ 6 := by
  unfold pa
  split
  · exact Nat.zero_le _
  · split
    · rename_i e he
      exact (act_e he).2
    · exact pz_e tx n _ _ _
theorem r_stp2 {v : Bool} (h : v = false ∨ ¬ F 154 = 0) : (∃ m, mz_ok cq_439_22 cd_439_22 m (v, rsM N F W V E G K)) ∧ mz_run cq_439_22 (v, rsM N F W V E G K) = (F 154, rsM N F W V E G K) := by
  refine lp_r (s := (v, rsM N F W V E G K)) (f := cq_439_22) (P := cd_439_22) (Q := fun r => r = (F 154, rsM N F W V E G K)) (t := (F 154, rsM N F W V E G K)) ?_ ?_ rfl
  · rw [cd_439_22]
    refine ⟨fun q => ⟨fun q2 => ?_, fun _ => trivial⟩, fun _ => trivial⟩
    rw [rs_o] at q2
    rcases h with h | h
    · have q' : v = true := q
      rw [h] at q'; cases q'
    · exact absurd q2 h
  · rw [cq_439_22]
    show (if v = true then (if (rsM N F W V E G K).1 232 154 = 0 then _ else Sum.inr ((rsM N F W V E G K).1 232 154, rsM N F W V E G K)) else Sum.inr ((rsM N F W V E G K).1 232 154, rsM N F W V E G K)) = _
    rcases h with h | h
    · rw [h, if_neg Bool.false_ne_true, rs_o]
    · rw [rs_o, if_neg h]
      split <;> rfl
theorem r_loop {F0 : Nat → Int32} (hn : n ≤ 196) (hT : ∀ j, j < n → N.1 338 j = nI (tx j)) (htx : ∀ j, tx j < 128) : ∀ (k f q t : Nat) (S : List (Nat × Nat)) (F W V E G K : Nat → Int32), 13 - na S ≤ k → q ≤ n → psk q (0, [], S, t) → n + 1 - q < f → rfr F0 F → F 147 = nI n → F 148 = nI q → F 154 = 0 → F 35 = F0 35 → F 28 = nI (na S) → F 31 = nI (nw S) → rws W V E G S →
    (∃ m, mz_ok cq_439_22 cd_439_22 m (true, rsM N F W V E G K)) ∧ rpr N F0 (pz tx n f q (0, [], S, t)) (mz_run cq_439_22 (true, rsM N F W V E G K)) := by
  intro k
  induction k with
  | zero =>
    intro f q t S F W V E G K hk _ hx
    have : na S ≤ 12 := hx.2.1
    omega
  | succ k ih =>
    intro f q t S F W V E G K hk hq hx hf hfr h147 h148 h154 h35 h28 h31 hw
    obtain ⟨s1, s2⟩ := sk_ok (tx := tx) hq
    obtain ⟨v1, H, v2, v3⟩ := tk_r (N := N) (F := F) (W := W) (V := V) (E := E) (G := G) (K := K) hn h147 hT htx h148 h154 hq
    rw [show q + rl (spc tx) n q = sk tx n q from rfl] at v3
    obtain ⟨g1, g2, g3, g4'⟩ := v3
    have gfr : rfr F0 H := fun j a b c d e g => by
      rw [g1 j c (by omega) (by omega) (by omega) (by omega) (by omega) (by omega) (by omega)]
      exact hfr j a b c d e g
    have j147 : H 147 = nI n := by rw [g1 147 (by decide) (by decide) (by decide) (by decide) (by decide) (by decide) (by decide) (by decide), h147]
    have j28 : H 28 = nI (na S) := by rw [g1 28 (by decide) (by decide) (by decide) (by decide) (by decide) (by decide) (by decide) (by decide), h28]
    have j31 : H 31 = nI (nw S) := by rw [g1 31 (by decide) (by decide) (by decide) (by decide) (by decide) (by decide) (by decide) (by decide), h31]
    obtain ⟨f', rfl⟩ : ∃ f', f = f' + 1 := ⟨f - 1, by omega⟩
    rw [pz_s]
    have hcq : ∀ X, cq_439_22 (true, rsM N F W V E G K) = X ↔ (if H 154 = 0 then (if H 149 = 0 then (.inl (false, rsM N H W V E G K)) else cf_439_56 true (rsM N H W V E G K)) else cf_439_56 true (rsM N H W V E G K)) = X := fun X => by
      rw [cq_439_22]
      show (if true = true then (if (rsM N F W V E G K).1 232 154 = 0 then (if (cf_440_0 (rsM N F W V E G K)).1 232 154 = 0 then (if (cf_440_0 (rsM N F W V E G K)).1 232 149 = 0 then _ else _) else _) else _) else _) = _ ↔ _
      rw [if_pos rfl, rs_o, if_pos h154, v2, rs_o]
    have hcd : (H 154 = 0 → ¬ H 149 = 0 → cp_445_0 (rsM N H W V E G K)) → cd_439_22 (true, rsM N F W V E G K) := fun hh => by
      rw [cd_439_22]
      show (_ → ((rsM N F W V E G K).1 232 154 = 0 → cp_440_0 (rsM N F W V E G K) ∧ ((cf_440_0 (rsM N F W V E G K)).1 232 154 = 0 → ((cf_440_0 (rsM N F W V E G K)).1 232 149 = 0 → True) ∧ (¬ (cf_440_0 (rsM N F W V E G K)).1 232 149 = 0 → cp_439_56 true (cf_440_0 (rsM N F W V E G K)))) ∧ (¬ (cf_440_0 (rsM N F W V E G K)).1 232 154 = 0 → cp_439_56 true (cf_440_0 (rsM N F W V E G K)))) ∧ _) ∧ _
      rw [v2, rs_o, cp_439_56, rs_o]
      exact ⟨fun _ => ⟨fun _ => ⟨v1, fun z => ⟨fun _ => trivial, fun z2 => ⟨fun _ => hh z z2, fun _ => trivial⟩⟩, fun z => ⟨fun z2 => absurd z2 z, fun _ => trivial⟩⟩, fun _ => trivial⟩, fun _ => trivial⟩
    by_cases wl : lxf tx n (sk tx n q) = 0
    · rw [if_pos wl]
      obtain ⟨x1, x2, x3, x4, x5, x6, x7⟩ := g3 wl
      have h4 := lxf_k wl
      by_cases w0 : tkk tx n (sk tx n q) = 0
      · have l9 : H 149 = 0 := by rw [x5]; unfold tkq; rw [w0]; rfl
        obtain ⟨z1, z2⟩ := r_stp2 (N := N) (F := H) (W := W) (V := V) (E := E) (G := G) (K := K) (v := false) (Or.inl rfl)
        refine lp_l (s := (true, rsM N F W V E G K)) (s2 := (false, rsM N H W V E G K)) (f := cq_439_22) (P := cd_439_22) (Q := fun r => rpr N F0 (pa tx n f' (sk tx n q) (0, [], S, t)) r) (hcd (fun _ z => absurd l9 z)) ((hcq _).mpr (by rw [if_pos x1, if_pos l9])) ⟨z1, ?_⟩
        rw [z2]
        have ea : pa tx n f' (sk tx n q) (0, [], S, t) = (0, sk tx n q, S) := by unfold pa; rw [if_pos ⟨w0, rfl⟩]
        rw [ea]
        exact ⟨H, W, V, E, G, K, by rw [x1]; rfl, gfr, x1, fun z => absurd rfl z, fun _ => ⟨by rw [x2, h35], j28, j31, hw⟩⟩
      · have l9 : ¬ H 149 = 0 := by
          rw [x5]
          unfold tkq
          by_cases a : tkk tx n (sk tx n q) = 1
          · rw [if_pos a]; decide
          · rw [if_neg a]
            by_cases b : tkk tx n (sk tx n q) = 2
            · rw [if_pos b]; decide
            · rw [if_neg b, if_neg w0]; decide
        obtain ⟨y1, y2⟩ := r_stmt (N := N) (n := n) (p := sk tx n q) (t := t) (tx := tx) (W := W) (V := V) (E := E) (G := G) (K := K) (S := S) (F0 := F0) (H := H) (f := f') hn hT htx s2 (psk_mono hx s1) (by omega) w0 h4 gfr j147 x3 x5 g2 x4 x1 (by rw [x2, h35]) j28 j31 hw
        have e56 : cf_439_56 true (rsM N H W V E G K) = .inl (true, cf_445_0 (rsM N H W V E G K)) := by rw [cf_439_56, rs_o, if_pos x1]
        refine lp_l (s := (true, rsM N F W V E G K)) (s2 := (true, cf_445_0 (rsM N H W V E G K))) (f := cq_439_22) (P := cd_439_22) (Q := fun r => rpr N F0 (pa tx n f' (sk tx n q) (0, [], S, t)) r) (hcd (fun _ _ => y1)) ((hcq _).mpr (by rw [if_pos x1, if_neg l9, e56])) ?_
        rcases y2 with ⟨q1, q2⟩ | ⟨f2, q2, S2, t2, r1, r2, r3, r4, r5, E2, G2, r6⟩
        · obtain ⟨F2, W2, V2, E2, G2, K2, o1, o2, o3, o4, o5⟩ := q2
          rw [o1]
          have hee : (pa tx n f' (sk tx n q) (0, [], S, t)).1 < 2 ^ 31 := by
            have := pa_e tx n f' (sk tx n q) (0, [], S, t)
            omega
          have hne : ¬ F2 154 = 0 := by rw [o4, nI_eq0 hee]; exact q1
          obtain ⟨z1, z2⟩ := r_stp2 (N := N) (F := F2) (W := W2) (V := V2) (E := E2) (G := G2) (K := K2) (v := true) (Or.inr hne)
          refine ⟨z1, ?_⟩
          rw [z2]
          exact ⟨F2, W2, V2, E2, G2, K2, by rw [o4], o2, o4, fun _ => o5, fun z => absurd z q1⟩
        · obtain ⟨F2, W2, V2, K2, o1, o2, o3, o4, o5, o6, o7, o8, o9⟩ := r6
          rw [o1, r4]
          exact ih f2 q2 t2 S2 F2 W2 V2 E2 G2 K2 (by omega) r2 r3 r1 o2 o3 o6 o4 o5 o7 o8 o9
    · rw [if_neg wl]
      obtain ⟨x1, x2⟩ := g4' wl
      have hlf : lxf tx n (sk tx n q) < 10 := by unfold lxf; repeat' split <;> try omega
      have hne : ¬ H 154 = 0 := by rw [x1, nI_eq0 (by omega)]; exact wl
      obtain ⟨z1, z2⟩ := r_stp2 (N := N) (F := H) (W := W) (V := V) (E := E) (G := G) (K := K) (v := true) (Or.inr hne)
      refine lp_l (s := (true, rsM N F W V E G K)) (s2 := (true, rsM N H W V E G K)) (f := cq_439_22) (P := cd_439_22) (Q := fun r => rpr N F0 (lxf tx n (sk tx n q), sk tx n q, S) r) (hcd (fun z => absurd z hne)) ((hcq _).mpr (by rw [if_neg hne, cf_439_56, rs_o, if_neg hne])) ⟨z1, ?_⟩
      rw [z2]
      exact ⟨H, W, V, E, G, K, by rw [x1], gfr, x1, fun _ => x2, fun z => absurd z wl⟩
theorem r_parse {N : mz_N} (hn : n ≤ 196) (h147 : N.1 232 147 = nI n) (hT : ∀ j, j < n → N.1 338 j = nI (tx j)) (htx : ∀ j, tx j < 128) : cp_439_0 N ∧ rpr N (N.1 232) (prs tx n) (cf_439_0 N) := by
  have e : mz_pI (mz_pI (mz_pI (mz_pI N 232 148 0) 232 154 0) 232 28 0) 232 31 0 = rsM N (upd (upd (upd (upd (N.1 232) 148 0) 154 0) 28 0) 31 0) (N.1 253) (N.1 254) (N.1 255) (N.1 256) (N.1 339) := by
    rw [← rs_pI, ← rs_pI, ← rs_pI, ← rs_pI, rs_self]
  obtain ⟨z1, z2⟩ := r_loop (N := N) (n := n) (tx := tx) (F0 := N.1 232) hn hT htx 13 (n + 3) 0 0 [] (upd (upd (upd (upd (N.1 232) 148 0) 154 0) 28 0) 31 0) (N.1 253) (N.1 254) (N.1 255) (N.1 256) (N.1 339) (by show 13 - 0 ≤ 13; omega) (Nat.zero_le _) ⟨trivial, Nat.zero_le _, fun q => absurd rfl q, Nat.zero_le _, Nat.zero_le _, fun _ => rfl, fun q => absurd rfl q⟩ (by omega) (fun j a b c d e g => by rw [up_a, if_neg b, up_a, if_neg a, up_a, if_neg (by omega), up_a, if_neg (by omega)]) h147 rfl rfl rfl rfl rfl trivial
  rw [cp_439_0, cf_439_0, e]
  exact ⟨z1, z2⟩
end Pr2
