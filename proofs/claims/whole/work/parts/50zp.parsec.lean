/-! PURE (50zp): the class parses so. -/
/-- what the class's parse leaves -/
def cpr (N : mz_N) (o n : Nat) (z : Nat × Nat × List (Nat × Nat)) (r : Bool × mz_N) : Prop := ∃ F A B C, r = (decide (z.1 = 0), rdM N o F A B C) ∧ F 1 = nI n ∧ F 6 = nI z.1 ∧ (z.1 ≠ 0 → F 7 = nI z.2.1) ∧ (z.1 = 0 → F 7 = 0 ∧ F 4 = nI z.2.2.length ∧ F 5 = nI (na z.2.2) ∧ wds A B z.2.2)
section Psc
variable {N : mz_N} {o n p q a1 : Nat} {tx : Nat → Nat} {F A B C : Nat → Int32}
theorem c_stop {F A B C : Nat → Int32} {i : Int32} : (∃ m, mz_ok (cq_23_78 o a1) (cd_23_78 o a1) m (false, i, rdM N o F A B C)) ∧ mz_run (cq_23_78 o a1) (false, i, rdM N o F A B C) = (false, rdM N o F A B C) := by
  refine lp_r (s := (false, i, rdM N o F A B C)) (f := cq_23_78 o a1) (P := cd_23_78 o a1) (Q := fun r => r = (false, rdM N o F A B C)) (t := (false, rdM N o F A B C)) ?_ ?_ rfl
  · rw [cd_23_78]
    exact ⟨fun _ => trivial, fun _ => ⟨fun q => absurd q Bool.false_ne_true, fun _ => trivial⟩⟩
  · rw [cq_23_78]
    show (if 196 < i then Sum.inr (false, rdM N o F A B C) else if false = true then _ else Sum.inr (false, rdM N o F A B C)) = _
    rw [if_neg Bool.false_ne_true]
    split <;> rfl
/-- a step of the class's loop by what the stage's method does -/
theorem c_156 {x : PSt} {i f : Nat} {r : Bool × mz_N} (hn : n ≤ 196) (hT : ∀ j, j < n → N.1 (o + 1) j = nI (tx j)) (htx : ∀ j, tx j < 128) (hi : i ≤ p) (hpn : p ≤ n) (hx : psk p x) (h4 : tkk tx n p ≠ 4) (h0 : ¬ (tkk tx n p = 0 ∧ x.1 = 0)) (h1 : F 1 = nI n) (h6 : F 6 = 0) (h7 : F 7 = 0) (h8 : F 8 = nI (tke tx n p)) (hr : cres N o F p r (act tx n p x))
    (ih : ∀ (p2 i2 : Nat) (y : PSt) (G A B C : Nat → Int32), i2 ≤ p2 → p2 ≤ n → psk p2 y → lxf tx n p2 = 0 → n + 1 - p2 < f → G 1 = nI n → G 6 = 0 → G 7 = 0 → G 8 = nI (tke tx n p2) → G 9 = nI p2 → G 10 = nI (tkc tx n p2) → (tkk tx n p2 = 1 → G 11 = nI (nvd tx p2 (rl (fun i => dg (tx i)) n p2))) → (tkk tx n p2 = 2 → G 11 = nO 53 (wnm tx p2 (tke tx n p2))) → pc G A B C y.1 y.2.1 y.2.2.1 y.2.2.2 → (∃ m, mz_ok (cq_23_78 o a1) (cd_23_78 o a1) m (true, nI i2, rdM N o G A B C)) ∧ cpr N o n (pa tx n (f - 1) p2 y) (mz_run (cq_23_78 o a1) (true, nI i2, rdM N o G A B C))) (hf : n + 1 - p < f + 1) :
    cp_23_156 o a1 r.1 (nI i) r.2 ∧ ∃ s2, cf_23_156 o a1 r.1 (nI i) r.2 = .inl s2 ∧ (∃ m, mz_ok (cq_23_78 o a1) (cd_23_78 o a1) m s2) ∧ cpr N o n (pa tx n f p x) (mz_run (cq_23_78 o a1) s2) := by
  obtain ⟨F', A', B', C', e2, e3, e4, e5⟩ := hr
  obtain ⟨b, M⟩ := r
  simp only at e2
  subst e2
  rw [cp_23_156, cf_23_156]
  unfold pa
  rw [if_neg h0]
  cases ea : act tx n p x with
  | inl e =>
    obtain ⟨q1, q2, q3⟩ := e4 e ea
    simp only at q1
    subst q1
    obtain ⟨z1, z2⟩ := c_stop (N := N) (o := o) (a1 := a1) (F := F') (A := A') (B := B') (C := C') (i := nI i + 1)
    refine ⟨⟨fun q => absurd q Bool.false_ne_true, fun _ => trivial⟩, (false, nI i + 1, rdM N o F' A' B' C'), by rw [if_neg Bool.false_ne_true, cf_23_171, cf_23_172], z1, ?_⟩
    rw [z2]
    have he := act_e ea
    refine ⟨F', A', B', C', ?_, ?_, q2, fun _ => q3, fun q => absurd (show e = 0 from q) (by omega)⟩
    · show (false, _) = (decide (e = 0), _)
      rw [decide_eq_false (by omega)]
    · rw [e3 1 (by decide) (by decide) (by decide) (by decide) (by decide) (by decide) (by decide) (by decide), h1]
  | inr y =>
    obtain ⟨q1, q2, q3, q4⟩ := e5 y ea
    simp only at q1
    subst q1
    obtain ⟨w1, w2⟩ := act_ok hx h4 ea
    obtain ⟨t1, t2, t3⟩ := tke_ok w2 h4
    have k1 : F' 1 = nI n := by rw [e3 1 (by decide) (by decide) (by decide) (by decide) (by decide) (by decide) (by decide) (by decide), h1]
    have k8 : F' 8 = nI (tke tx n p) := by rw [e3 8 (by decide) (by decide) (by decide) (by decide) (by decide) (by decide) (by decide) (by decide), h8]
    obtain ⟨v1, G, v2, v3⟩ := tk_c (N := N) (o := o) (F := F') (A := A') (B := B') (C := C') hn k1 hT htx k8 t3
    obtain ⟨s1, s2⟩ := sk_ok (tx := tx) t3
    rw [show tke tx n p + rl (spc tx) n (tke tx n p) = sk tx n (tke tx n p) from rfl] at v2 v3
    obtain ⟨g1, g2, g3, g4'⟩ := v3
    have j1 : G 1 = nI n := by rw [g1 1 (by decide) (by decide) (by decide) (by decide) (by decide) (by decide), k1]
    simp only [if_true]
    rw [v2]
    obtain ⟨f', rfl⟩ : ∃ f', f = f' + 1 := ⟨f - 1, by omega⟩
    by_cases wl : lxf tx n (sk tx n (tke tx n p)) = 0
    · obtain ⟨x1, x2, x3, x4, x5, x6⟩ := g3 wl
      have hpc : pc G A' B' C' y.1 y.2.1 y.2.2.1 y.2.2.2 := by
        obtain ⟨p1, p2, p3, p4, p5, p6, p7, p8⟩ := q4
        have gg : ∀ j, j ≠ 6 → j ≠ 7 → j ≠ 8 → j ≠ 9 → j ≠ 10 → j ≠ 11 → G j = F' j := g1
        exact ⟨by rw [gg 4 (by decide) (by decide) (by decide) (by decide) (by decide) (by decide)]; exact p1, by rw [gg 5 (by decide) (by decide) (by decide) (by decide) (by decide) (by decide)]; exact p2, by rw [gg 12 (by decide) (by decide) (by decide) (by decide) (by decide) (by decide)]; exact p3, fun h => by rw [gg 13 (by decide) (by decide) (by decide) (by decide) (by decide) (by decide)]; exact p4 h, by rw [gg 15 (by decide) (by decide) (by decide) (by decide) (by decide) (by decide)]; exact p5, by rw [gg 16 (by decide) (by decide) (by decide) (by decide) (by decide) (by decide)]; exact p6, p7, p8⟩
      obtain ⟨i1, i2, i3, i4, i5, i6, i7⟩ := w1
      have ihx := ih (sk tx n (tke tx n p)) (i + 1) y G A' B' C' (by omega) s2 ⟨i1, i2, i3, i4, by omega, i6, fun h => by have := i7 h; omega⟩ wl (by omega) j1 (by rw [x1, q2, h6]) (by rw [x2, q3, h7]) x3 g2 x4 x5 x6 hpc
      refine ⟨⟨fun _ => ⟨v1, fun _ => trivial, fun _ => trivial⟩, fun _ => trivial⟩, (true, nI (i + 1), rdM N o G A' B' C'), ?_, ihx.1, ?_⟩
      · rw [wl]
        show (if decide (0 = 0) = true then _ else _) = _
        rw [if_pos (by decide), cf_23_172, nI_1]
      · have e := ihx.2
        show cpr N o n (pz tx n (f' + 1) (tke tx n p) y) _
        rw [pz_s, if_pos wl]
        exact e
    · obtain ⟨x1, x2⟩ := g4' wl
      obtain ⟨z1, z2⟩ := c_stop (N := N) (o := o) (a1 := a1) (F := G) (A := A') (B := B') (C := C') (i := nI i + 1)
      refine ⟨⟨fun _ => ⟨v1, fun _ => trivial, fun _ => trivial⟩, fun _ => trivial⟩, (false, nI i + 1, rdM N o G A' B' C'), ?_, z1, ?_⟩
      · show (if decide (lxf tx n (sk tx n (tke tx n p)) = 0) = true then _ else _) = _
        rw [if_neg (by rw [decide_eq_true_eq]; exact wl), cf_23_171, cf_23_172]
      · show cpr N o n (pz tx n (f' + 1) (tke tx n p) y) _
        rw [pz_s, if_neg wl, z2]
        exact ⟨G, A', B', C', by show (false, _) = (decide (lxf tx n (sk tx n (tke tx n p)) = 0), _); rw [decide_eq_false wl], j1, x1, fun _ => x2, fun q => absurd q wl⟩
theorem lxf_k (h : lxf tx n p = 0) : tkk tx n p ≠ 4 := fun q => by unfold lxf at h; rw [if_pos q] at h; cases h
theorem c_loop (hn : n ≤ 196) (hT : ∀ j, j < n → N.1 (o + 1) j = nI (tx j)) (htx : ∀ j, tx j < 128) : ∀ (f p i : Nat) (x : PSt) (G A B C : Nat → Int32), i ≤ p → p ≤ n → psk p x → lxf tx n p = 0 → n + 1 - p < f → G 1 = nI n → G 6 = 0 → G 7 = 0 → G 8 = nI (tke tx n p) → G 9 = nI p → G 10 = nI (tkc tx n p) → (tkk tx n p = 1 → G 11 = nI (nvd tx p (rl (fun i => dg (tx i)) n p))) → (tkk tx n p = 2 → G 11 = nO 53 (wnm tx p (tke tx n p))) → pc G A B C x.1 x.2.1 x.2.2.1 x.2.2.2 → (∃ m, mz_ok (cq_23_78 o a1) (cd_23_78 o a1) m (true, nI i, rdM N o G A B C)) ∧ cpr N o n (pa tx n (f - 1) p x) (mz_run (cq_23_78 o a1) (true, nI i, rdM N o G A B C)) := by
  intro f
  induction f with
  | zero => intro p i x G A B C _ _ _ _ h; omega
  | succ f ih =>
    intro p i x G A B C hi hp hx hl hf g1 g6 g7 g8 g9 g10 g11 g12 hpc
    obtain ⟨m, s, S, t⟩ := x
    simp only at hpc
    have h4 := lxf_k hl
    obtain ⟨k1, k2, k3, k4⟩ := tkc_k (tx := tx) (n := n) (p := p) h4
    have hc := tkc_lt (n := n) (p := p) htx
    have hm : m ≤ 3 := hx.2.2.2.1
    obtain ⟨p1, p2, p3, p4, p5, p6, p7, p8⟩ := id hpc
    have li : ¬ (196 : Int32) < nI i := fun q => by have := (nI_ltI (a := 196) (by omega) (by omega)).mp q; omega
    have l10 : G 10 = 0 ↔ tkk tx n p = 0 := by rw [g10, nI_eq0 (by omega)]; exact k3
    have l12 : G 12 = 0 ↔ m = 0 := by rw [p3, nI_eq0 (by omega)]
    have l12' : G 12 = 1 ↔ m = 1 := by rw [p3]; exact nI_eq (b := 1) (by omega) (by omega)
    have l12'' : G 12 = 2 ↔ m = 2 := by rw [p3]; exact nI_eq (b := 2) (by omega) (by omega)
    show _ ∧ cpr N o n (pa tx n f p (m, s, S, t)) _
    by_cases w0 : tkk tx n p = 0 ∧ m = 0
    · refine lp_r (s := (true, nI i, rdM N o G A B C)) (f := cq_23_78 o a1) (P := cd_23_78 o a1) (Q := fun r => cpr N o n (pa tx n f p (m, s, S, t)) r) (t := (true, rdM N o G A B C)) ?_ ?_ ?_
      · rw [cd_23_78]
        simp only [rd_o]
        exact ⟨fun _ => trivial, fun _ => ⟨fun _ => ⟨fun _ => ⟨fun _ => trivial, fun q => absurd (l12.mpr w0.2) q⟩, fun q => absurd (l10.mpr w0.1) q⟩, fun _ => trivial⟩⟩
      · rw [cq_23_78]
        simp only [rd_o]
        rw [if_neg li, if_pos trivial, if_pos (l10.mpr w0.1), if_pos (l12.mpr w0.2)]
      · unfold pa
        rw [if_pos w0]
        refine ⟨G, A, B, C, rfl, g1, g6, fun q => absurd rfl q, fun _ => ⟨g7, p1, ?_, p8⟩⟩
        rw [p2, w0.2]; rfl
    · have hx0 := hx
      obtain ⟨hg, hna, hmm, -, hll, -, h7⟩ := hx
      have hll' : s.length + S.length ≤ p := hll
      have key : cp_23_104 o a1 (nI i) (rdM N o G A B C) ∧ ∃ s2, cf_23_104 o a1 (nI i) (rdM N o G A B C) = .inl s2 ∧ (∃ m, mz_ok (cq_23_78 o a1) (cd_23_78 o a1) m s2) ∧ cpr N o n (pa tx n f p (m, s, S, t)) (mz_run (cq_23_78 o a1) s2) := by
        rw [cp_23_104, cf_23_104]
        simp only [rd_o]
        have fin : ∀ r : Bool × mz_N, cres N o G p r (act tx n p (m, s, S, t)) → cp_23_156 o a1 r.1 (nI i) r.2 ∧ ∃ s2, cf_23_156 o a1 r.1 (nI i) r.2 = .inl s2 ∧ (∃ m, mz_ok (cq_23_78 o a1) (cd_23_78 o a1) m s2) ∧ cpr N o n (pa tx n f p (m, s, S, t)) (mz_run (cq_23_78 o a1) s2) := fun r hr => c_156 hn hT htx hi hp hx0 h4 w0 g1 g6 g7 g8 hr (fun p2 i2 y G A B C a b c d e f g h i j k l m n => ih p2 i2 y G A B C a b c d e f g h i j k l m n) hf
        by_cases m0 : m = 0
        · subst m0
          obtain ⟨a1', a2'⟩ := c_st0 (N := N) (o := o) hpc g9 g10 g12 hna h4 htx
          obtain ⟨b1', b2'⟩ := fin _ a2'
          rw [if_pos (l12.mpr rfl)]
          exact ⟨⟨fun _ => ⟨a1', b1'⟩, fun q => absurd (l12.mpr rfl) q⟩, b2'⟩
        · rw [if_neg (fun q => m0 (l12.mp q))]
          by_cases m1 : m = 1
          · subst m1
            obtain ⟨b1', b2'⟩ := fin _ (c_st1 (N := N) (o := o) hpc g9 g10 htx)
            rw [if_pos (l12'.mpr rfl)]
            exact ⟨⟨fun q => absurd (l12.mp q) m0, fun _ => ⟨fun _ => b1', fun q => absurd (l12'.mpr rfl) q⟩⟩, b2'⟩
          · rw [if_neg (fun q => m1 (l12'.mp q))]
            have hs : s.length + S.length < 196 := by
              have : s.length + S.length < p := h7 m0
              omega
            by_cases m2 : m = 2
            · subst m2
              obtain ⟨a1', a2'⟩ := c_st2 (N := N) (o := o) hpc hs hg g9 g10 g12 g11 h4 htx
              obtain ⟨b1', b2'⟩ := fin _ a2'
              rw [if_pos (l12''.mpr rfl)]
              exact ⟨⟨fun q => absurd (l12.mp q) m0, fun _ => ⟨fun q => absurd (l12'.mp q) m1, fun _ => ⟨fun _ => ⟨a1', b1'⟩, fun q => absurd (l12''.mpr rfl) q⟩⟩⟩, b2'⟩
            · have m3 : m = 3 := by omega
              subst m3
              obtain ⟨a1', a2'⟩ := c_st3 (N := N) (o := o) hpc hs hg g9 g10 htx
              obtain ⟨b1', b2'⟩ := fin _ a2'
              rw [if_neg (fun q => m2 (l12''.mp q))]
              exact ⟨⟨fun q => absurd (l12.mp q) m0, fun _ => ⟨fun q => absurd (l12'.mp q) m1, fun _ => ⟨fun q => absurd (l12''.mp q) m2, fun _ => ⟨a1', b1'⟩⟩⟩⟩, b2'⟩
      obtain ⟨y1, s2, y2, y3⟩ := key
      refine lp_l (s := (true, nI i, rdM N o G A B C)) (f := cq_23_78 o a1) (P := cd_23_78 o a1) (Q := fun r => cpr N o n (pa tx n f p (m, s, S, t)) r) (s2 := s2) ?_ ?_ y3
      · rw [cd_23_78]
        exact ⟨fun _ => trivial, fun _ => ⟨fun _ => ⟨fun _ => ⟨fun _ => trivial, fun _ => y1⟩, fun _ => y1⟩, fun _ => trivial⟩⟩
      · rw [cq_23_78]
        simp only [rd_o]
        rw [if_neg li, if_pos trivial]
        by_cases v1 : G 10 = 0
        · rw [if_pos v1, if_neg (fun q => w0 ⟨l10.mp v1, l12.mp q⟩)]; exact y2
        · rw [if_neg v1]; exact y2
/-- the whole parse -/
def prs (tx : Nat → Nat) (n : Nat) : Nat × Nat × List (Nat × Nat) := pz tx n (n + 3) 0 (0, [], [], 0)
theorem c_parse (hn : n ≤ 196) (hT : ∀ j, j < n → N.1 a1 j = nI (tx j)) (htx : ∀ j, tx j < 128) (ha : a1 ≠ o) (ha1 : a1 ≠ o + 1) : cp_23_0 o a1 (nI n) N ∧ ∃ T, (∀ j, j < n → T j = nI (tx j)) ∧ cpr (mz_sI N (o + 1) T) o n (prs tx n) (cf_23_0 o a1 (nI n) N) := by
  have em : mz_imin (mz_imin (nI n) 196) 196 = nI n := by
    unfold mz_imin
    have h : ¬ (196 : Int32) < nI n := fun q => by have := (nI_ltI (a := 196) (by omega) (by omega)).mp q; omega
    rw [if_neg h, if_neg h]
  rw [cp_23_0, cf_23_0, em]
  have e1 : (mz_pI N o 1 (nI n)).1 o 1 = nI n := by rw [pI_s, sI_e]; rfl
  have e2 : (mz_pI N o 1 (nI n)).1 a1 = N.1 a1 := by rw [pI_s, sI_n ha]
  rw [e1]
  have hcp : mz_cpk 0 0 (nI n) 196 196 := ⟨by decide, by decide, nI_pos (by omega), by rw [nI_clamp (by omega)]; exact Nat.le_trans (Nat.le_of_eq (Nat.zero_add n)) hn, by rw [nI_clamp (by omega)]; exact Nat.le_trans (Nat.le_of_eq (Nat.zero_add n)) hn⟩
  generalize hT2 : va_cpy (N.1 a1) (N.1 (o + 1)) 0 0 n = T
  have hTj : ∀ j, j < n → T j = nI (tx j) := fun j hj => by
    rw [← hT2, cpy_a, if_pos ⟨by omega, by omega⟩, Nat.sub_zero, Nat.zero_add]
    exact hT j hj
  have e3 : mz_yI (mz_pI N o 1 (nI n)) a1 0 (o + 1) 0 (nI n) = rdM (mz_sI N (o + 1) T) o (upd (N.1 o) 1 (nI n)) (N.1 (o + 2)) (N.1 (o + 3)) (N.1 (o + 4)) := by
    have h := rd_self (N := mz_sI N (o + 1) T) (o := o)
    rw [sI_n (show o ≠ o + 1 by omega), sI_n (show o + 2 ≠ o + 1 by omega), sI_n (show o + 3 ≠ o + 1 by omega), sI_n (show o + 4 ≠ o + 1 by omega)] at h
    rw [← rd_pI, h, yI_s, e2, show (mz_pI N o 1 (nI n)).1 (o + 1) = N.1 (o + 1) by rw [pI_s, sI_n (by omega)], nI_clamp (by omega), show Int32.toNatClampNeg 0 = 0 from rfl, hT2, pI_s, pI_s, sI_com (a := o) (by omega), sI_n (show o ≠ o + 1 by omega)]
  rw [e3, cp_23_30, cf_23_30, cp_23_70, cf_23_70]
  simp only [rd_pI]
  generalize hF0 : upd (upd (upd (upd (upd (upd (upd (upd (upd (N.1 o) 1 (nI n)) 4 0) 5 0) 6 0) 7 0) 8 0) 12 0) 15 0) 16 0 = F0
  have hT' : ∀ j, j < n → (mz_sI N (o + 1) T).1 (o + 1) j = nI (tx j) := fun j hj => by rw [sI_e]; exact hTj j hj
  have f1 : F0 1 = nI n := by rw [← hF0]; rfl
  have f8 : F0 8 = nI 0 := by rw [← hF0]; rfl
  obtain ⟨v1, G, v2, v3⟩ := tk_c (N := mz_sI N (o + 1) T) (o := o) (F := F0) (A := N.1 (o + 2)) (B := N.1 (o + 3)) (C := N.1 (o + 4)) hn f1 hT' htx f8 (Nat.zero_le n)
  obtain ⟨s1, s2⟩ := sk_ok (tx := tx) (Nat.zero_le n)
  rw [show 0 + rl (spc tx) n 0 = sk tx n 0 from rfl] at v2 v3
  obtain ⟨g1, g2, g3, g4'⟩ := v3
  have j1 : G 1 = nI n := by rw [g1 1 (by decide) (by decide) (by decide) (by decide) (by decide) (by decide), f1]
  rw [v2]
  have ep : prs tx n = if lxf tx n (sk tx n 0) = 0 then pa tx n (n + 2) (sk tx n 0) (0, [], [], 0) else (lxf tx n (sk tx n 0), sk tx n 0, []) := pz_s tx n (n + 2) 0 (0, [], [], 0)
  rw [ep]
  by_cases wl : lxf tx n (sk tx n 0) = 0
  · obtain ⟨x1, x2, x3, x4, x5, x6⟩ := g3 wl
    have gg : ∀ j, j ≠ 6 → j ≠ 7 → j ≠ 8 → j ≠ 9 → j ≠ 10 → j ≠ 11 → G j = F0 j := g1
    have hpc : pc G (N.1 (o + 2)) (N.1 (o + 3)) (N.1 (o + 4)) 0 [] [] 0 := ⟨by rw [gg 4 (by decide) (by decide) (by decide) (by decide) (by decide) (by decide), ← hF0]; rfl, by rw [gg 5 (by decide) (by decide) (by decide) (by decide) (by decide) (by decide), ← hF0]; rfl, by rw [gg 12 (by decide) (by decide) (by decide) (by decide) (by decide) (by decide), ← hF0]; rfl, fun h => absurd rfl h, by rw [gg 15 (by decide) (by decide) (by decide) (by decide) (by decide) (by decide), ← hF0]; rfl, by rw [gg 16 (by decide) (by decide) (by decide) (by decide) (by decide) (by decide), ← hF0]; rfl, trivial, trivial⟩
    obtain ⟨z1, z2⟩ := c_loop (N := mz_sI N (o + 1) T) (o := o) (a1 := a1) hn hT' htx (n + 3) (sk tx n 0) 0 (0, [], [], 0) G (N.1 (o + 2)) (N.1 (o + 3)) (N.1 (o + 4)) (by omega) s2 ⟨trivial, Nat.zero_le _, fun q => absurd rfl q, Nat.zero_le _, Nat.zero_le _, fun _ => rfl, fun q => absurd rfl q⟩ wl (by omega) j1 (by rw [x1, ← hF0]; rfl) (by rw [x2, ← hF0]; rfl) x3 g2 x4 x5 x6 hpc
    rw [if_pos wl, decide_eq_true wl]
    exact ⟨⟨hcp, v1, z1⟩, T, hTj, z2⟩
  · obtain ⟨x1, x2⟩ := g4' wl
    obtain ⟨z1, z2⟩ := c_stop (N := mz_sI N (o + 1) T) (o := o) (a1 := a1) (F := G) (A := N.1 (o + 2)) (B := N.1 (o + 3)) (C := N.1 (o + 4)) (i := 0)
    rw [if_neg wl, decide_eq_false wl]
    refine ⟨⟨hcp, v1, z1⟩, T, hTj, ?_⟩
    show cpr _ o n _ (mz_run (cq_23_78 o a1) (false, 0, rdM (mz_sI N (o + 1) T) o G (N.1 (o + 2)) (N.1 (o + 3)) (N.1 (o + 4))))
    rw [z2]
    exact ⟨G, _, _, _, by show (false, _) = (decide (lxf tx n (sk tx n 0) = 0), _); rw [decide_eq_false wl], j1, x1, fun _ => x2, fun q => absurd q wl⟩
end Psc
