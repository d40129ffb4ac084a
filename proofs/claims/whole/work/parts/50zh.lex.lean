/-! PURE (50zh): the reader's cells; the class reads a token. -/
/-- the reader's own cells set -/
def rdM (N : mz_N) (o : Nat) (F A B C : Nat → Int32) : mz_N := mz_sI (mz_sI (mz_sI (mz_sI N (o + 2) A) (o + 3) B) (o + 4) C) o F
/-- a fault of the characters at p: 0 none -/
def lxf (tx : Nat → Nat) (n p : Nat) : Nat := if tkk tx n p = 4 then 1 else if tkk tx n p = 1 ∧ 6 < rl (fun i => dg (tx i)) n p then 4 else 0
/-- the class's word for the token at p -/
def tkc (tx : Nat → Nat) (n p : Nat) : Nat := if tkk tx n p = 3 then tx p else tkk tx n p
section Lex
variable {N : mz_N} {o n p q : Nat} {tx : Nat → Nat} {F A B C : Nat → Int32}
theorem rd_o : (rdM N o F A B C).1 o = F := by unfold rdM; rw [sI_e]
theorem rd_1 : (rdM N o F A B C).1 (o + 1) = N.1 (o + 1) := by unfold rdM; rw [sI_n (by omega), sI_n (by omega), sI_n (by omega), sI_n (by omega)]
theorem rd_2 : (rdM N o F A B C).1 (o + 2) = A := by unfold rdM; rw [sI_n (by omega), sI_n (by omega), sI_n (by omega), sI_e]
theorem rd_3 : (rdM N o F A B C).1 (o + 3) = B := by unfold rdM; rw [sI_n (by omega), sI_n (by omega), sI_e]
theorem rd_4 : (rdM N o F A B C).1 (o + 4) = C := by unfold rdM; rw [sI_n (by omega), sI_e]
theorem rd_L : (rdM N o F A B C).2 = N.2 := rfl
theorem rd_n {c : Nat} (h : c ≠ o) (h2 : c ≠ o + 2) (h3 : c ≠ o + 3) (h4 : c ≠ o + 4) : (rdM N o F A B C).1 c = N.1 c := by unfold rdM; rw [sI_n h, sI_n h4, sI_n h3, sI_n h2]
theorem rd_sI {G : Nat → Int32} : mz_sI (rdM N o F A B C) o G = rdM N o G A B C := by unfold rdM; rw [sI_sI]
theorem rd_pI {k : Nat} {v : Int32} : mz_pI (rdM N o F A B C) o k v = rdM N o (upd F k v) A B C := by rw [pI_s, rd_o, rd_sI]
theorem sI_com {M : mz_N} {a c : Nat} {f g : Nat → Int32} (h : a ≠ c) : mz_sI (mz_sI M a f) c g = mz_sI (mz_sI M c g) a f := by
  unfold mz_sI
  refine Prod.ext (funext fun d => ?_) rfl
  by_cases h1 : d = a
  · subst h1; simp [h]
  · simp [h1]
theorem rd_w2 {i v : Int32} : mz_wI (rdM N o F A B C) (o + 2) i v = rdM N o F (upd A i.toNatClampNeg v) B C := by
  rw [wI_s, rd_2]; unfold rdM
  rw [sI_com (a := o) (by omega), sI_com (a := o + 4) (by omega), sI_com (a := o + 3) (by omega), sI_sI]
theorem rd_w3 {i v : Int32} : mz_wI (rdM N o F A B C) (o + 3) i v = rdM N o F A (upd B i.toNatClampNeg v) C := by
  rw [wI_s, rd_3]; unfold rdM
  rw [sI_com (a := o) (by omega), sI_com (a := o + 4) (by omega), sI_sI]
theorem rd_w4 {i v : Int32} : mz_wI (rdM N o F A B C) (o + 4) i v = rdM N o F A B (upd C i.toNatClampNeg v) := by
  rw [wI_s, rd_4]; unfold rdM
  rw [sI_com (a := o) (by omega), sI_sI]
theorem rd_self : rdM N o (N.1 o) (N.1 (o + 2)) (N.1 (o + 3)) (N.1 (o + 4)) = N := by
  unfold rdM
  rw [sI_same]
  rw [sI_same, sI_same, sI_same]
def r2 (f g : Nat) (a c : Int32) (F : Nat → Int32) : Nat → Int32 := fun j => if j = g then c else if j = f then a else F j
theorem rd_r2 {f g : Nat} {a c : Int32} : row2 (rdM N o F A B C) o f g a c = rdM N o (r2 f g a c F) A B C := by unfold row2 r2; rw [rd_o, rd_sI]
/-- what reading a token leaves in the reader's fields -/
def lxF (tx : Nat → Nat) (n p : Nat) (F G : Nat → Int32) : Prop := (∀ j, j ≠ 6 → j ≠ 7 → j ≠ 8 → j ≠ 9 → j ≠ 10 → j ≠ 11 → G j = F j) ∧ G 9 = nI p ∧ (lxf tx n p = 0 → G 6 = F 6 ∧ G 7 = F 7 ∧ G 8 = nI (tke tx n p) ∧ G 10 = nI (tkc tx n p) ∧ (tkk tx n p = 1 → G 11 = nI (nvd tx p (rl (fun i => dg (tx i)) n p))) ∧ (tkk tx n p = 2 → G 11 = nO 53 (wnm tx p (tke tx n p)))) ∧ (lxf tx n p ≠ 0 → G 6 = nI (lxf tx n p) ∧ G 7 = nI p)
theorem tk_c0 (hn : n ≤ 196) (h1 : F 1 = nI n) (ht : ∀ j, j < n → N.1 (o + 1) j = nI (tx j)) (htx : ∀ j, tx j < 128) (h8 : F 8 = nI p) (hp : p ≤ n) : cp_24_38 o (rdM N o F A B C) ∧ ∃ G, cf_24_38 o (rdM N o F A B C) = (decide (lxf tx n p = 0), rdM N o G A B C) ∧ lxF tx n p F G := by
  have hgt : ∀ G : Nat → Int32, p < n → mz_gI (rdM N o G A B C) (o + 1) (nI p) = nI (tx p) := fun G h => by rw [gI_a, rd_1, nI_clamp (by omega)]; exact ht p h
  obtain ⟨c1, -, c3, -, -⟩ := ch_ok (tx p) (htx p)
  have c5 := ch_sg (tx p) (htx p)
  have a8 : (upd F 9 (nI p)) 8 = nI p := h8
  have a1 : (upd F 9 (nI p)) 1 = nI n := h1
  rw [cp_24_38, cf_24_38]
  simp only [rd_o, rd_pI, h8, a8, a1]
  by_cases w : p < n
  · have l : nI p < nI n := (nI_ltI (by omega) (by omega)).mpr w
    have i1 : mz_ib (nI p) 196 := ib_n (by omega) (by omega)
    simp only [l, if_true, hgt _ w, c1, c3]
    by_cases d1 : dg (tx p) = true
    · -- a number
      have hk : tkk tx n p = 1 := by unfold tkk; rw [if_pos w, if_pos d1]
      have hke : tke tx n p = p + rl (fun i => dg (tx i)) n p := by unfold tke; rw [if_pos hk]
      rw [if_pos d1, cp_26_0, cf_26_0, rd_pI, rd_pI]
      obtain ⟨z1, z2⟩ := num_c (N := rdM N o (upd (upd (upd F 9 (nI p)) 10 1) 11 0) A B C) (o := o) (n := n) (p := p) (tx := tx) hn ⟨by rw [rd_o]; exact h1, fun j hj => by rw [rd_1]; exact ht j hj⟩ htx (by rw [rd_o]; exact h8) (by rw [rd_o]; rfl) (by rw [rd_o]; rfl) hp
      have hr := rl_ok (P := fun i => dg (tx i)) hp
      generalize hz : rl (fun i => dg (tx i)) n p = k at *
      rw [z2, rd_r2, cf_26_87]
      simp only [rd_o, cf_27_0, rd_pI]
      rw [show r2 11 8 (nI (nvd tx p k)) (nI (p + k)) (upd (upd (upd F 9 (nI p)) 10 1) 11 0) 8 = nI (p + k) from rfl, show r2 11 8 (nI (nvd tx p k)) (nI (p + k)) (upd (upd (upd F 9 (nI p)) 10 1) 11 0) 9 = nI p from rfl, show nI (p + k) - nI p = nI k by rw [pk_sub (by omega), Nat.add_sub_cancel_left]]
      by_cases w6 : 6 < k
      · have l6 : (6 : Int32) < nI k := (nI_ltI (a := 6) (by omega) (by omega)).mpr w6
        have hl : lxf tx n p = 4 := by unfold lxf; rw [hk, if_neg (by decide), hz, if_pos ⟨rfl, w6⟩]
        rw [if_pos l6, if_neg Bool.false_ne_true, hl]
        refine ⟨⟨fun _ => ⟨i1, fun _ => z1, fun q => absurd d1 q⟩, fun q => absurd trivial q⟩, _, rfl, fun j a b c d e f => ?_, rfl, (fun q => by rw [hl] at q; cases q), fun _ => ⟨by rw [hl]; rfl, rfl⟩⟩
        simp only [r2, up_a, a, b, c, d, e, f, if_false]
      · have l6 : ¬ (6 : Int32) < nI k := fun q => w6 ((nI_ltI (a := 6) (by omega) (by omega)).mp q)
        have hl : lxf tx n p = 0 := by unfold lxf; rw [hk, if_neg (by decide), hz, if_neg (fun q => w6 q.2)]
        rw [if_neg l6, hl]
        refine ⟨⟨fun _ => ⟨i1, fun _ => z1, fun q => absurd d1 q⟩, fun q => absurd trivial q⟩, _, rfl, fun j a b c d e f => ?_, rfl, fun _ => ⟨rfl, rfl, by rw [hke]; rfl, by unfold tkc; rw [hk]; rfl, fun _ => by rw [hz]; rfl, (fun q => by rw [hk] at q; cases q)⟩, fun q => absurd hl q⟩
        simp only [r2, up_a, a, b, c, d, e, f, if_false]
    · rw [if_neg d1]
      by_cases d2 : lt' (tx p) = true
      · -- a word
        have hk : tkk tx n p = 2 := by unfold tkk; rw [if_pos w, if_neg d1, if_pos d2]
        have hke : tke tx n p = p + rl (wrc tx) n p := by unfold tke; rw [if_neg (by rw [hk]; decide), if_pos hk]
        have hl : lxf tx n p = 0 := by unfold lxf; rw [hk, if_neg (by decide), if_neg (fun q => by cases q.1)]
        rw [if_pos d2, cp_29_0, cf_29_0, rd_pI]
        have hr := rl_ok (P := wrc tx) hp
        have hpos := rl_pos (P := wrc tx) w (by unfold wrc; rw [d2]; rfl)
        have hT : ∀ G : Nat → Int32, G 1 = nI n → rd_t (rdM N o G A B C) o n tx := fun G hG => ⟨by rw [rd_o]; exact hG, fun j hj => by rw [rd_1]; exact ht j hj⟩
        obtain ⟨y1, y2⟩ := name_c (N := rdM N o (upd (upd (upd F 9 (nI p)) 10 2) 8 (nI (p + rl (wrc tx) n p))) A B C) (o := o) (n := n) (p := p) (q := p + rl (wrc tx) n p) (tx := tx) hn (hT _ h1) htx (by rw [rd_o]; rfl) (by rw [rd_o]; rfl) (by omega) hr.1
        obtain ⟨z1, z2⟩ := word_c (N := rdM N o (upd (upd F 9 (nI p)) 10 2) A B C) (o := o) (n := n) (p := p) (tx := tx) hn (hT _ h1) htx (by rw [rd_o]; exact h8) hp (by rw [rd_pI]; exact y1)
        rw [z2, rd_pI, y2, rd_pI, hl]
        refine ⟨⟨fun _ => ⟨i1, fun q => absurd q d1, fun _ => ⟨p28 _, fun _ => z1, fun q => absurd d2 q⟩⟩, fun q => absurd trivial q⟩, _, rfl, fun j a b c d e f => ?_, rfl, fun _ => ⟨rfl, rfl, by rw [hke]; rfl, by unfold tkc; rw [hk]; rfl, (fun q => by rw [hk] at q; cases q), fun _ => by rw [hke]; rfl⟩, fun q => absurd hl q⟩
        simp only [up_a, a, b, c, d, e, f, if_false]
      · rw [if_neg d2]
        by_cases d3 : sg' (tx p) = true
        · have hk : tkk tx n p = 3 := by unfold tkk; rw [if_pos w, if_neg d1, if_neg d2, if_pos d3]
          have hke : tke tx n p = p + 1 := by unfold tke; rw [if_neg (by rw [hk]; decide), if_neg (by rw [hk]; decide), if_pos hk]
          have hl : lxf tx n p = 0 := by unfold lxf; rw [hk, if_neg (by decide), if_neg (fun q => by cases q.1)]
          have e5 : ¬ mz_ix (mz_i2c (nI (tx p))) [61, 59, 40, 41, 43, 45, 42, 60, 62, 63, 58] 0 < 0 := by
            rw [d3] at c5; exact of_decide_eq_false c5
          rw [if_neg e5, hl]
          refine ⟨⟨fun _ => ⟨i1, fun q => absurd q d1, fun _ => ⟨p28 _, fun q => absurd q d2, fun _ => trivial⟩⟩, fun q => absurd trivial q⟩, _, rfl, fun j a b c d e f => ?_, rfl, fun _ => ⟨rfl, rfl, ?_, by unfold tkc; rw [if_pos hk]; rfl, (fun q => by rw [hk] at q; cases q), (fun q => by rw [hk] at q; cases q)⟩, fun q => absurd hl q⟩
          · simp only [up_a, a, b, c, d, e, f, if_false]
          · rw [hke]
            show F 8 + 1 = _
            rw [h8, nI_1]
        · have hk : tkk tx n p = 4 := by unfold tkk; rw [if_pos w, if_neg d1, if_neg d2, if_neg d3]
          have hl : lxf tx n p = 1 := by unfold lxf; rw [if_pos hk]
          have e5 : mz_ix (mz_i2c (nI (tx p))) [61, 59, 40, 41, 43, 45, 42, 60, 62, 63, 58] 0 < 0 := by
            rw [show sg' (tx p) = false by simpa using d3] at c5; exact of_decide_eq_true c5
          rw [if_pos e5, cf_27_0, rd_pI, rd_pI, rd_o, hl]
          refine ⟨⟨fun _ => ⟨i1, fun q => absurd q d1, fun _ => ⟨p28 _, fun q => absurd q d2, fun _ => trivial⟩⟩, fun q => absurd trivial q⟩, _, rfl, fun j a b c d e f => ?_, rfl, (fun q => by rw [hl] at q; cases q), fun _ => ⟨by rw [hl]; rfl, rfl⟩⟩
          simp only [up_a, a, b, c, d, e, f, if_false]
  · have l : ¬ nI p < nI n := fun q => w ((nI_ltI (by omega) (by omega)).mp q)
    have hk : tkk tx n p = 0 := by unfold tkk; rw [if_neg w]
    have hke : tke tx n p = p := by unfold tke; rw [if_neg (by rw [hk]; decide), if_neg (by rw [hk]; decide), if_neg (by rw [hk]; decide)]
    have hl : lxf tx n p = 0 := by unfold lxf; rw [hk, if_neg (by decide), if_neg (fun q => by cases q.1)]
    simp only [l, if_false, rd_pI]
    rw [hl]
    refine ⟨⟨False.elim, fun _ => trivial⟩, _, rfl, fun j a b c d e f => ?_, rfl, fun _ => ⟨rfl, rfl, by rw [hke]; exact h8, by unfold tkc; rw [hk]; rfl, (fun q => by rw [hk] at q; cases q), (fun q => by rw [hk] at q; cases q)⟩, fun q => absurd hl q⟩
    simp only [up_a, a, b, c, d, e, f, if_false]
theorem tk_c (hn : n ≤ 196) (h1 : F 1 = nI n) (ht : ∀ j, j < n → N.1 (o + 1) j = nI (tx j)) (htx : ∀ j, tx j < 128) (h8 : F 8 = nI q) (hq : q ≤ n) : cp_24_0 o (rdM N o F A B C) ∧ ∃ G, cf_24_0 o (rdM N o F A B C) = (decide (lxf tx n (q + rl (spc tx) n q) = 0), rdM N o G A B C) ∧ lxF tx n (q + rl (spc tx) n q) F G := by
  have hr := rl_ok (P := spc tx) hq
  obtain ⟨y1, G, y2, y3⟩ := tk_c0 (N := N) (o := o) (F := upd F 8 (nI (q + rl (spc tx) n q))) (A := A) (B := B) (C := C) hn h1 ht htx rfl hr.1
  obtain ⟨z1, z2⟩ := skip_c (N := rdM N o F A B C) (o := o) (n := n) (p := q) (tx := tx) hn ⟨by rw [rd_o]; exact h1, fun j hj => by rw [rd_1]; exact ht j hj⟩ htx (by rw [rd_o]; exact h8) hq (by rw [rd_pI]; exact y1)
  refine ⟨z1, G, by rw [z2, rd_pI]; exact y2, ?_⟩
  obtain ⟨x1, x2, x3, x4⟩ := y3
  exact ⟨fun j a b c d e f => by rw [x1 j a b c d e f, up_a, if_neg c], x2, x3, x4⟩
end Lex
