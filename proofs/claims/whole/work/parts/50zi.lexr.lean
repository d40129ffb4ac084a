/-! PURE (50zi): the reference reads a token. -/
def rsM (N : mz_N) (F W V E G K : Nat → Int32) : mz_N := mz_sI (mz_sI (mz_sI (mz_sI (mz_sI (mz_sI N 253 W) 254 V) 255 E) 256 G) 339 K) 232 F
/-- the reference's word for the kind of the token at p -/
def tkq (tx : Nat → Nat) (n p : Nat) : Nat := if tkk tx n p = 1 then 2 else if tkk tx n p = 2 then 1 else if tkk tx n p = 0 then 0 else 3
section Lxr
variable {N : mz_N} {n p q : Nat} {tx : Nat → Nat} {F W V E G K : Nat → Int32}
theorem rs_o : (rsM N F W V E G K).1 232 = F := by unfold rsM; rw [sI_e]
theorem rs_W : (rsM N F W V E G K).1 253 = W := rfl
theorem rs_V : (rsM N F W V E G K).1 254 = V := rfl
theorem rs_E : (rsM N F W V E G K).1 255 = E := rfl
theorem rs_G : (rsM N F W V E G K).1 256 = G := rfl
theorem rs_K : (rsM N F W V E G K).1 339 = K := rfl
theorem rs_x : (rsM N F W V E G K).1 338 = N.1 338 := rfl
theorem rs_L : (rsM N F W V E G K).2 = N.2 := rfl
theorem rs_n {c : Nat} (h : c ≠ 232) (h2 : c ≠ 253) (h3 : c ≠ 254) (h4 : c ≠ 255) (h5 : c ≠ 256) (h6 : c ≠ 339) : (rsM N F W V E G K).1 c = N.1 c := by unfold rsM; rw [sI_n h, sI_n h6, sI_n h5, sI_n h4, sI_n h3, sI_n h2]
theorem rs_sI {F' : Nat → Int32} : mz_sI (rsM N F W V E G K) 232 F' = rsM N F' W V E G K := by unfold rsM; rw [sI_sI]
theorem rs_pI {k : Nat} {v : Int32} : mz_pI (rsM N F W V E G K) 232 k v = rsM N (upd F k v) W V E G K := by rw [pI_s, rs_o, rs_sI]
theorem rs_w1 {i v : Int32} : mz_wI (rsM N F W V E G K) 253 i v = rsM N F (upd W i.toNatClampNeg v) V E G K := by
  rw [wI_s, rs_W]; unfold rsM
  rw [sI_com (a := 232) (by decide), sI_com (a := 339) (by decide), sI_com (a := 256) (by decide), sI_com (a := 255) (by decide), sI_com (a := 254) (by decide), sI_sI]
theorem rs_w2 {i v : Int32} : mz_wI (rsM N F W V E G K) 254 i v = rsM N F W (upd V i.toNatClampNeg v) E G K := by
  rw [wI_s, rs_V]; unfold rsM
  rw [sI_com (a := 232) (by decide), sI_com (a := 339) (by decide), sI_com (a := 256) (by decide), sI_com (a := 255) (by decide), sI_sI]
theorem rs_w3 {i v : Int32} : mz_wI (rsM N F W V E G K) 255 i v = rsM N F W V (upd E i.toNatClampNeg v) G K := by
  rw [wI_s, rs_E]; unfold rsM
  rw [sI_com (a := 232) (by decide), sI_com (a := 339) (by decide), sI_com (a := 256) (by decide), sI_sI]
theorem rs_w4 {i v : Int32} : mz_wI (rsM N F W V E G K) 256 i v = rsM N F W V E (upd G i.toNatClampNeg v) K := by
  rw [wI_s, rs_G]; unfold rsM
  rw [sI_com (a := 232) (by decide), sI_com (a := 339) (by decide), sI_sI]
theorem rs_w5 {i v : Int32} : mz_wI (rsM N F W V E G K) 339 i v = rsM N F W V E G (upd K i.toNatClampNeg v) := by
  rw [wI_s, rs_K]; unfold rsM
  rw [sI_com (a := 232) (by decide), sI_sI]
theorem rs_self : rsM N (N.1 232) (N.1 253) (N.1 254) (N.1 255) (N.1 256) (N.1 339) = N := by
  unfold rsM
  rw [sI_same, sI_same, sI_same, sI_same, sI_same, sI_same]
theorem rs_r2 {f g : Nat} {a c : Int32} : row2 (rsM N F W V E G K) 232 f g a c = rsM N (r2 f g a c F) W V E G K := by unfold row2 r2; rw [rs_o, rs_sI]
theorem rs_bl {v : Int32} (h : F 154 = 0) : cf_443_0 v (rsM N F W V E G K) = rsM N (upd (upd F 154 v) 35 (F 150)) W V E G K := by
  rw [cf_443_0, rs_o, if_pos h, rs_pI, rs_pI, rs_o]
  rfl
/-- what reading a token leaves in the reference's fields -/
def lxR (tx : Nat → Nat) (n p : Nat) (F H : Nat → Int32) : Prop := (∀ j, j ≠ 35 → j ≠ 148 → j ≠ 149 → j ≠ 150 → j ≠ 151 → j ≠ 152 → j ≠ 153 → j ≠ 154 → H j = F j) ∧ H 150 = nI p ∧ (lxf tx n p = 0 → H 154 = 0 ∧ H 35 = F 35 ∧ H 148 = nI (tke tx n p) ∧ H 151 = nI (tke tx n p) ∧ H 149 = nI (tkq tx n p) ∧ (tkk tx n p ≠ 0 → H 152 = nI (tx p)) ∧ (tkk tx n p = 1 → H 153 = nI (nvd tx p (rl (fun i => dg (tx i)) n p)))) ∧ (lxf tx n p ≠ 0 → H 154 = nI (lxf tx n p) ∧ H 35 = nI p)
theorem tk_r0 (hn : n ≤ 196) (h1 : F 147 = nI n) (ht : ∀ j, j < n → N.1 338 j = nI (tx j)) (htx : ∀ j, tx j < 128) (h8 : F 148 = nI p) (h4 : F 154 = 0) (hp : p ≤ n) : cp_440_38 (rsM N F W V E G K) ∧ ∃ H, cf_440_38 (rsM N F W V E G K) = rsM N H W V E G K ∧ lxR tx n p F H := by
  have hgt : ∀ F' : Nat → Int32, p < n → mz_gI (rsM N F' W V E G K) 338 (nI p) = nI (tx p) := fun F' h => by rw [gI_a, rs_x, nI_clamp (by omega)]; exact ht p h
  obtain ⟨-, c1, -, c3, c5⟩ := ch_ok (tx p) (htx p)
  have a9 : upd F 150 (nI p) 148 = nI p := h8
  have a8 : (upd (upd F 150 (nI p)) 151 (nI p)) 148 = nI p := h8
  have a1 : (upd (upd F 150 (nI p)) 151 (nI p)) 147 = nI n := h1
  rw [cp_440_38, cf_440_38]
  simp only [rs_o, rs_pI, h8, a9, a8, a1]
  by_cases w : p < n
  · have l : ¬ nI p = nI n := fun z => by have := (nI_eq (by omega) (by omega)).mp z; omega
    have i1 : mz_ib (nI p) 196 := ib_n (by omega) (by omega)
    rw [if_neg l, cp_440_71, cf_440_71]
    simp only [rs_o, rs_pI, a8, hgt _ w, c1, c3, c5]
    by_cases d2 : lt' (tx p) = true
    · have d1 : ¬ dg (tx p) = true := by
        have := htx p
        simp only [lt', dg, decide_eq_true_eq] at d2 ⊢
        omega
      have hk : tkk tx n p = 2 := by unfold tkk; rw [if_pos w, if_neg d1, if_pos d2]
      have hke : tke tx n p = p + rl (wrc tx) n p := by unfold tke; rw [if_neg (by rw [hk]; decide), if_pos hk]
      have hl : lxf tx n p = 0 := by unfold lxf; rw [hk, if_neg (by decide), if_neg (fun q => by cases q.1)]
      rw [if_pos d2]
      obtain ⟨z1, z2⟩ := word_r (N := rsM N (upd (upd (upd (upd F 150 (nI p)) 151 (nI p)) 152 (nI (tx p))) 149 1) W V E G K) (n := n) (p := p) (tx := tx) hn ⟨by rw [rs_o]; exact h1, fun j hj => by rw [rs_x]; exact ht j hj⟩ htx (by rw [rs_o]; rfl) hp
      rw [z2, cf_440_302]
      simp only [rs_o, rs_pI]
      refine ⟨⟨fun z => absurd z l, fun _ => ⟨i1, p441 _, fun _ => z1, fun q => absurd d2 q⟩⟩, _, rfl, fun j a b c d e f g h => ?_, rfl, fun _ => ⟨h4, rfl, by rw [hke]; rfl, by rw [hke]; rfl, by unfold tkq; rw [hk]; rfl, fun _ => rfl, (fun q => by rw [hk] at q; cases q)⟩, fun q => absurd hl q⟩
      simp only [up_a, a, b, c, d, e, f, g, h, if_false]
    · rw [if_neg d2]
      by_cases d1 : dg (tx p) = true
      · have hk : tkk tx n p = 1 := by unfold tkk; rw [if_pos w, if_pos d1]
        have hke : tke tx n p = p + rl (fun i => dg (tx i)) n p := by unfold tke; rw [if_pos hk]
        rw [if_pos d1]
        obtain ⟨z1, z2⟩ := num_r (N := rsM N (upd (upd (upd (upd (upd F 150 (nI p)) 151 (nI p)) 152 (nI (tx p))) 149 2) 153 0) W V E G K) (n := n) (p := p) (tx := tx) hn ⟨by rw [rs_o]; exact h1, fun j hj => by rw [rs_x]; exact ht j hj⟩ htx (by rw [rs_o]; rfl) (by rw [rs_o]; exact h8) (by rw [rs_o]; rfl) hp (by unfold cp_440_253 cp_440_302; exact ⟨fun _ => trivial, fun _ => trivial⟩)
        have hr := rl_ok (P := fun i => dg (tx i)) hp
        generalize hz : rl (fun i => dg (tx i)) n p = k at *
        rw [z2, rs_r2, cf_440_253, rs_bl (show r2 153 151 (nI (nvd tx p k)) (nI (p + k)) (upd (upd (upd (upd (upd F 150 (nI p)) 151 (nI p)) 152 (nI (tx p))) 149 2) 153 0) 154 = 0 from h4)]
        simp only [rs_o, rs_pI, cf_440_302]
        rw [show r2 153 151 (nI (nvd tx p k)) (nI (p + k)) (upd (upd (upd (upd (upd F 150 (nI p)) 151 (nI p)) 152 (nI (tx p))) 149 2) 153 0) 151 = nI (p + k) from rfl, show r2 153 151 (nI (nvd tx p k)) (nI (p + k)) (upd (upd (upd (upd (upd F 150 (nI p)) 151 (nI p)) 152 (nI (tx p))) 149 2) 153 0) 148 = nI p from h8, show nI (p + k) - nI p = nI k by rw [pk_sub (by omega), Nat.add_sub_cancel_left]]
        by_cases w6 : 6 < k
        · have l6 : (6 : Int32) < nI k := (nI_ltI (a := 6) (by omega) (by omega)).mpr w6
          have hl : lxf tx n p = 4 := by unfold lxf; rw [hk, if_neg (by decide), hz, if_pos ⟨rfl, w6⟩]
          rw [if_pos l6]
          refine ⟨⟨fun z => absurd z l, fun _ => ⟨i1, p441 _, fun q => absurd q d2, fun _ => ⟨fun _ => z1, fun q => absurd d1 q⟩⟩⟩, _, rfl, fun j a b c d e f g h => ?_, rfl, (fun q => by rw [hl] at q; cases q), fun _ => ⟨by rw [hl]; rfl, rfl⟩⟩
          simp only [r2, up_a, a, b, c, d, e, f, g, h, if_false]
        · have l6 : ¬ (6 : Int32) < nI k := fun q => w6 ((nI_ltI (a := 6) (by omega) (by omega)).mp q)
          have hl : lxf tx n p = 0 := by unfold lxf; rw [hk, if_neg (by decide), hz, if_neg (fun q => w6 q.2)]
          rw [if_neg l6]
          refine ⟨⟨fun z => absurd z l, fun _ => ⟨i1, p441 _, fun q => absurd q d2, fun _ => ⟨fun _ => z1, fun q => absurd d1 q⟩⟩⟩, _, rfl, fun j a b c d e f g h => ?_, rfl, fun _ => ⟨h4, rfl, by rw [hke]; rfl, by rw [hke]; rfl, by unfold tkq; rw [hk]; rfl, fun _ => rfl, fun _ => by rw [hz]; rfl⟩, fun q => absurd hl q⟩
          simp only [r2, up_a, a, b, c, d, e, f, g, h, if_false]
      · rw [if_neg d1]
        by_cases d3 : sg' (tx p) = true
        · have hk : tkk tx n p = 3 := by unfold tkk; rw [if_pos w, if_neg d1, if_neg d2, if_pos d3]
          have hke : tke tx n p = p + 1 := by unfold tke; rw [if_neg (by rw [hk]; decide), if_neg (by rw [hk]; decide), if_pos hk]
          have hl : lxf tx n p = 0 := by unfold lxf; rw [hk, if_neg (by decide), if_neg (fun q => by cases q.1)]
          rw [if_pos d3, cf_440_302]
          simp only [rs_o, rs_pI]
          refine ⟨⟨fun z => absurd z l, fun _ => ⟨i1, p441 _, fun q => absurd q d2, fun _ => ⟨fun q => absurd q d1, fun _ => ⟨fun _ => trivial, fun q => absurd d3 q⟩⟩⟩⟩, _, rfl, fun j a b c d e f g h => ?_, rfl, fun _ => ⟨h4, rfl, by rw [hke]; show nI p + 1 = _; rw [nI_1], by rw [hke]; show nI p + 1 = _; rw [nI_1], by unfold tkq; rw [hk]; rfl, fun _ => rfl, (fun q => by rw [hk] at q; cases q)⟩, fun q => absurd hl q⟩
          simp only [up_a, a, b, c, d, e, f, g, h, if_false]
        · have hk : tkk tx n p = 4 := by unfold tkk; rw [if_pos w, if_neg d1, if_neg d2, if_neg d3]
          have hl : lxf tx n p = 1 := by unfold lxf; rw [if_pos hk]
          rw [if_neg d3, cf_440_297, rs_bl (show upd (upd (upd (upd (upd F 150 (nI p)) 151 (nI p)) 152 (nI (tx p))) 149 3) 151 (upd (upd (upd (upd F 150 (nI p)) 151 (nI p)) 152 (nI (tx p))) 149 3 151 + 1) 154 = 0 from h4), cf_440_302]
          simp only [rs_o, rs_pI]
          refine ⟨⟨fun z => absurd z l, fun _ => ⟨i1, p441 _, fun q => absurd q d2, fun _ => ⟨fun q => absurd q d1, fun _ => ⟨fun q => absurd q d3, fun _ => trivial⟩⟩⟩⟩, _, rfl, fun j a b c d e f g h => ?_, rfl, (fun q => by rw [hl] at q; cases q), fun _ => ⟨by rw [hl]; rfl, rfl⟩⟩
          simp only [up_a, a, b, c, d, e, f, g, h, if_false]
  · have hpn : p = n := by omega
    have l : nI p = nI n := by rw [hpn]
    have hk : tkk tx n p = 0 := by unfold tkk; rw [if_neg w]
    have hke : tke tx n p = p := by unfold tke; rw [if_neg (by rw [hk]; decide), if_neg (by rw [hk]; decide), if_neg (by rw [hk]; decide)]
    have hl : lxf tx n p = 0 := by unfold lxf; rw [hk, if_neg (by decide), if_neg (fun q => by cases q.1)]
    rw [if_pos l, cf_440_65, rs_pI]
    refine ⟨⟨fun _ => trivial, fun q => absurd l q⟩, _, rfl, fun j a b c d e f g h => ?_, rfl, fun _ => ⟨h4, rfl, by rw [hke]; exact h8, by rw [hke]; rfl, by unfold tkq; rw [hk]; rfl, fun q => absurd hk q, (fun q => by rw [hk] at q; cases q)⟩, fun q => absurd hl q⟩
    simp only [up_a, a, b, c, d, e, f, g, h, if_false]
theorem tk_r (hn : n ≤ 196) (h1 : F 147 = nI n) (ht : ∀ j, j < n → N.1 338 j = nI (tx j)) (htx : ∀ j, tx j < 128) (h8 : F 148 = nI q) (h4 : F 154 = 0) (hq : q ≤ n) : cp_440_0 (rsM N F W V E G K) ∧ ∃ H, cf_440_0 (rsM N F W V E G K) = rsM N H W V E G K ∧ lxR tx n (q + rl (spc tx) n q) F H := by
  have hr := rl_ok (P := spc tx) hq
  obtain ⟨y1, H, y2, y3⟩ := tk_r0 (N := N) (F := upd F 148 (nI (q + rl (spc tx) n q))) (W := W) (V := V) (E := E) (G := G) (K := K) hn h1 ht htx rfl h4 hr.1
  obtain ⟨z1, z2⟩ := skip_r (N := rsM N F W V E G K) (n := n) (p := q) (tx := tx) hn ⟨by rw [rs_o]; exact h1, fun j hj => by rw [rs_x]; exact ht j hj⟩ htx (by rw [rs_o]; exact h8) hq (by rw [rs_pI]; exact y1)
  refine ⟨z1, H, by rw [z2, rs_pI]; exact y2, ?_⟩
  obtain ⟨x1, x2, x3, x4⟩ := y3
  exact ⟨fun j a b c d e f g h => by rw [x1 j a b c d e f g h, up_a, if_neg b], x2, x3, x4⟩
end Lxr
