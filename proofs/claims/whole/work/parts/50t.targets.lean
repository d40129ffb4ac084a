/-! PURE (50t): targets at first. -/
section Tgt
variable {N : mz_N}
theorem fillr_ok {a n p q : Nat} {v : Int32} (h1 : p ≤ q) (h2 : q ≤ n) (hn : n < 2 ^ 31) : cp_45_0 a n (nI p) (nI q) v N ∧ cf_45_0 a n (nI p) (nI q) v N = mz_sI N a (fun j => if p ≤ j ∧ j < q then v else N.1 a j) := by
  have key : cp_45_10 a n (nI q) v (nI p) N ∧ cf_45_10 a n (nI q) v (nI p) N = mz_sI N a (fun j => if p ≤ j ∧ j < q then v else N.1 a j) := by
    refine mz_lpn (f := cq_45_10 a n (nI q) v) (P := cd_45_10 a n (nI q) v) (Q := fun t => t = mz_sI N a (fun j => if p ≤ j ∧ j < q then v else N.1 a j)) q (fun t s => ∃ f, s = (nI t, mz_sI N a f) ∧ p ≤ t ∧ ∀ j, f j = if p ≤ j ∧ j < t then v else N.1 a j) ?_ ?_ h1 ⟨N.1 a, by rw [sI_same], Nat.le_refl _, fun j => by rw [if_neg (by omega)]⟩
    · rintro t s ht ⟨f, rfl, h3, hf⟩
      have hlt : nI t < nI q := (nI_ltI (by omega) (by omega)).mpr ht
      rw [cd_45_10, cq_45_10]
      simp only [hlt, if_true, nI_1]
      refine ⟨⟨fun _ => ib_n (by omega) (by omega), fun w => absurd trivial w⟩, Or.inl ⟨_, rfl, upd f t v, ?_, by omega, ?_⟩⟩
      · rw [wI_s, sI_e, sI_sI, nI_clamp (by omega)]
      · intro j
        rw [up_a, hf]
        by_cases y : j = t
        · rw [if_pos y, if_pos (by omega)]
        · rw [if_neg y]
          by_cases w : p ≤ j ∧ j < t
          · rw [if_pos w, if_pos (by omega)]
          · rw [if_neg w, if_neg (by omega)]
    · rintro s ⟨f, rfl, h3, hf⟩
      have hlt : ¬ nI q < nI q := fun w => by have := (nI_ltI (by omega) (by omega)).mp w; omega
      rw [cd_45_10, cq_45_10]
      simp only [hlt, if_false]
      refine ⟨⟨False.elim, fun _ => trivial⟩, _, rfl, ?_⟩
      rw [funext hf]
  have r1 : ¬ nI q < nI p := fun w => by have := (nI_ltI (by omega) (by omega)).mp w; omega
  have r2 : ¬ nI n < nI q := fun w => by have := (nI_ltI (by omega) (by omega)).mp w; omega
  exact ⟨⟨⟨fun w => r1 w, fun _ => ⟨fun w => (nI_lt0 (show p < 2 ^ 31 by omega)).mp w, fun _ => ⟨fun w => r2 w, fun _ => trivial⟩⟩⟩, key.1⟩, key.2⟩
/-- targets at first -/
def tg0 (j : Nat) : Nat := if j < 10 then 200 else if j = 14 then 0 else 1
theorem tg_c : cp_44_0 N ∧ ∃ f, cf_44_0 N = mz_sI N 53 f ∧ ∀ j, f j = if j < 16 then nI (tg0 j) else N.1 53 j := by
  obtain ⟨p1, p2⟩ := fillr_ok (N := N) (a := 53) (n := 53) (p := 0) (q := 10) (v := 200) (by omega) (by omega) (by omega)
  have p1' : cp_45_0 53 53 0 10 200 N := p1
  have p2' : cf_45_0 53 53 0 10 200 N = _ := p2
  rw [cp_44_0, cf_44_0, p2']
  generalize hK : mz_sI N 53 (fun j => if 0 ≤ j ∧ j < 10 then 200 else N.1 53 j) = K
  obtain ⟨q1, q2⟩ := fillr_ok (N := K) (a := 53) (n := 53) (p := 10) (q := 16) (v := 1) (by omega) (by omega) (by omega)
  have q1' : cp_45_0 53 53 10 16 1 K := q1
  have q2' : cf_45_0 53 53 10 16 1 K = _ := q2
  rw [q2']
  refine ⟨⟨p1', q1'⟩, fun j => if j = 14 then 0 else if 10 ≤ j ∧ j < 16 then 1 else if 0 ≤ j ∧ j < 10 then 200 else N.1 53 j, ?_, ?_⟩
  · subst hK
    rw [show (14 : Int32) = nI 14 from rfl, wI_s, sI_e, sI_sI, sI_e, sI_sI, nI_clamp (by omega)]
    congr 1
  · intro j
    show (if j = 14 then (0 : Int32) else if 10 ≤ j ∧ j < 16 then 1 else if 0 ≤ j ∧ j < 10 then 200 else N.1 53 j) = _
    unfold tg0
    by_cases w : j < 16
    · rw [if_pos w]
      by_cases y : j = 14
      · rw [if_pos y, if_neg (by omega), if_pos y]; rfl
      · rw [if_neg y]
        by_cases z : j < 10
        · rw [if_neg (by omega), if_pos (by omega), if_pos z]; rfl
        · rw [if_pos (by omega), if_neg z, if_neg y]; rfl
    · rw [if_neg w, if_neg (by omega), if_neg (by omega), if_neg (by omega)]
theorem tg_r : cp_437_0 N ∧ ∃ g, cf_437_0 N = mz_sI N 257 g ∧ ∀ j, g j = if 0 ≤ j ∧ j < 0 + 16 then nI (tg0 (j - 0)) else N.1 257 j :=
  lp_fill (f := cq_437_2) (P := cd_437_2) (N := N) 257 0 16 (fun t => nI (tg0 t)) id (by omega) (fun t ht g => by
    have hlt : nI t < 16 := (nI_ltI (b := 16) (by omega) (by omega)).mpr ht
    have i1 : mz_ib (nI t) 16 := ib_n ht (by omega)
    rw [cd_437_2, cq_437_2]
    simp only [hlt, if_true, cp_437_36, cf_437_36, nI_1, Nat.zero_add]
    refine ⟨⟨fun _ => ⟨fun _ => i1, fun _ => ⟨fun _ => i1, fun _ => i1⟩⟩, fun w => absurd trivial w⟩, ?_⟩
    unfold tg0
    by_cases w : t < 10
    · have l : nI t < 10 := (nI_ltI (b := 10) (by omega) (by omega)).mpr w
      rw [if_pos l, if_pos w]; rfl
    · have l : ¬ nI t < 10 := fun q => w ((nI_ltI (b := 10) (by omega) (by omega)).mp q)
      rw [if_neg l, if_neg w]
      by_cases y : t = 14
      · have l2 : nI t = 14 := by rw [y]; rfl
        rw [if_pos l2, if_pos y]; rfl
      · have l2 : ¬ nI t = 14 := fun q => y ((nI_eq (b := 14) (by omega) (by omega)).mp q)
        rw [if_neg l2, if_neg y]; rfl) (fun g => by
    have hlt : ¬ nI 16 < 16 := by decide
    rw [cd_437_2, cq_437_2]
    simp only [hlt, if_false]
    exact ⟨⟨False.elim, fun _ => trivial⟩, rfl⟩)
end Tgt
