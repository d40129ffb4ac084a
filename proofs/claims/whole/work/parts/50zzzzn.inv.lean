/-! PURE (50zzzzn): what stays true of kept and durable things. -/
section Dk
variable {D H : Kp} {q ix : Nat}
theorem KB_8 (hD : KB q D) (hH : KB q H) : KB q (dec D H 8 ix) := by
  obtain ⟨d1, d2, d3, d4, d5, d6, d7, d8, d9, d10, d11, d12, d13, d14, d15, d16, d17⟩ := hD
  refine ⟨d1, d2, d3, d4, d5, d6, fun j hj => ?_, fun j hj => ?_, fun j hj => ?_, d10, d11, d12, d13, d14, d15, d16, d17⟩
  · show ∃ m, m ≤ _ ∧ up (D.2.1 2) ix (H.2.1 2 ix) j = nI m
    rw [up_d]; split
    · rename_i w; rw [← w]; exact hH.m0 j hj
    · exact d7 j hj
  · show ∃ m, m ≤ _ ∧ up (D.2.1 3) ix (H.2.1 3 ix) j = nI m
    rw [up_d]; split
    · rename_i w; rw [← w]; exact hH.m1 j hj
    · exact d8 j hj
  · show ∃ m, m ≤ _ ∧ up (D.2.1 4) ix (H.2.1 4 ix) j = nI m
    rw [up_d]; split
    · rename_i w; rw [← w]; exact hH.m2 j hj
    · exact d9 j hj
theorem KB_9 (hD : KB q D) (hH : KB q H) : KB q (dec D H 9 ix) := by
  obtain ⟨d1, d2, d3, d4, d5, d6, d7, d8, d9, d10, d11, d12, d13, d14, d15, d16, d17⟩ := hD
  exact ⟨d1, d2, d3, d4, d5, d6, d7, d8, d9, hH.tm, hH.gs, hH.cr, d13, d14, d15, d16, d17⟩
theorem KB_10 (hD : KB q D) (hH : KB q H) : KB q (dec D H 10 ix) := by
  obtain ⟨d1, d2, d3, d4, d5, d6, d7, d8, d9, d10, d11, d12, d13, d14, d15, d16, d17⟩ := hD
  refine ⟨d1, d2, d3, d4, hH.cap, fun j h1 h4 => ?_, fun j hj => ?_, fun j hj => ?_, d9, d10, d11, d12, d13, d14, d15, d16, d17⟩
  · show ∃ r, r ≤ _ ∧ rg 0 4 (H.2.1 6) (D.2.1 6) j = nI r
    unfold rg
    rw [if_pos ⟨Nat.zero_le _, by omega⟩]
    exact hH.pr j h1 h4
  · show ∃ m, m ≤ _ ∧ up (D.2.1 2) 10 (H.2.1 2 10) j = nI m
    rw [up_d]; split
    · exact hH.m0 10 (by omega)
    · exact d7 j hj
  · show ∃ m, m ≤ _ ∧ up (D.2.1 3) 10 (H.2.1 3 10) j = nI m
    rw [up_d]; split
    · exact hH.m1 10 (by omega)
    · exact d8 j hj
theorem KB_11 (hD : KB q D) (hH : KB q H) : KB q (dec D H 11 ix) := by
  obtain ⟨d1, d2, d3, d4, d5, d6, d7, d8, d9, d10, d11, d12, d13, d14, d15, d16, d17⟩ := hD
  refine ⟨d1, d2, d3, d4, d5, d6, d7, d8, d9, d10, d11, d12, fun v hv => ?_, d14, d15, d16, d17⟩
  show ∃ w, w ≤ _ ∧ up (D.2.1 8) ix (H.2.1 8 ix) v = nI w
  rw [up_d]; split
  · rename_i w; rw [← w]; exact hH.wr v hv
  · exact d13 v hv
theorem KB_12 (hD : KB q D) (hH : KB q H) : KB q (dec D H 12 ix) := by
  obtain ⟨d1, d2, d3, d4, d5, d6, d7, d8, d9, d10, d11, d12, d13, d14, d15, d16, d17⟩ := hD
  refine ⟨d1, d2, d3, d4, d5, d6, d7, d8, d9, d10, d11, d12, d13, d14, fun j hj => ?_, fun j hj => ?_, fun j hj => ?_⟩
  · show up (D.1 8) ix (H.1 8 ix) j = 1 → ∃ n, n ≤ _ ∧ up (D.2.1 11) ix (H.2.1 11 ix) j = nI n
    rw [up_d, up_d]
    by_cases w : j = ix
    · rw [if_pos w, if_pos w, ← w]; exact hH.tn j hj
    · rw [if_neg w, if_neg w]; exact d15 j hj
  · show up (D.1 8) ix (H.1 8 ix) j = 1 → up (D.1 9) ix (H.1 9 ix) j < 5 ∧ up (D.1 10) ix (H.1 10 ix) j < 48 ∧ up (D.1 11) ix (H.1 11 ix) j ≤ 3
    rw [up_d, up_d, up_d, up_d]
    by_cases w : j = ix
    · rw [if_pos w, if_pos w, if_pos w, if_pos w, ← w]; exact hH.tf j hj
    · rw [if_neg w, if_neg w, if_neg w, if_neg w]; exact d16 j hj
  · show up (D.1 8) ix (H.1 8 ix) j = 1 → ∃ t, t ≤ _ ∧ up (D.2.1 10) ix (H.2.1 10 ix) j = nI t
    rw [up_d, up_d]
    by_cases w : j = ix
    · rw [if_pos w, if_pos w, ← w]; exact hH.tt j hj
    · rw [if_neg w, if_neg w]; exact d17 j hj
/-- keys that a minute writes -/
def mgk (gk : Nat → Nat) (n : Nat) : Prop := ∀ i, i < n → 8 ≤ kdk (gk i) ∧ kdk (gk i) ≤ 12
theorem KB_DG {gk : Nat → Nat} (hD : KB q D) (hH : KB q H) : ∀ n, mgk gk n → KB q (DG gk D H n) ∧ ∀ f, f < 7 ∨ 12 ≤ f → (DG gk D H n).1 f = D.1 f := by
  intro n
  induction n with
  | zero => intro _; exact ⟨hD, fun _ _ => rfl⟩
  | succ n ih =>
    intro h
    obtain ⟨i1, i2⟩ := ih (fun i hi => h i (by omega))
    have hk := h n (by omega)
    have e : DG gk D H (n + 1) = dec (DG gk D H n) H (kdk (gk n)) (ixk (gk n)) := rfl
    rw [e]
    generalize DG gk D H n = E at i1 i2
    generalize ixk (gk n) = jx
    generalize kdk (gk n) = kd at hk
    rcases (show kd = 8 ∨ kd = 9 ∨ kd = 10 ∨ kd = 11 ∨ kd = 12 by omega) with w | w | w | w | w <;> subst w
    · exact ⟨KB_8 i1 hH, i2⟩
    · exact ⟨KB_9 i1 hH, i2⟩
    · exact ⟨KB_10 i1 hH, i2⟩
    · refine ⟨KB_11 i1 hH, fun f hf => ?_⟩
      show up E.1 7 _ f = _
      rw [up_d, if_neg (by omega)]; exact i2 f hf
    · refine ⟨KB_12 i1 hH, fun f hf => ?_⟩
      show up (up (up (up E.1 8 _) 9 _) 10 _) 11 _ f = _
      rw [up_d, if_neg (by omega), up_d, if_neg (by omega), up_d, if_neg (by omega), up_d, if_neg (by omega)]; exact i2 f hf
end Dk
/-- durable and live things agree but for the books and the parts -/
def KA (D H : Kp) : Prop := ∀ k, k < 135 → (kdk k < 8 ∨ 12 ≤ kdk k) → kag D H (kdk k) (ixk k)
/-- no two tickets have one number -/
def tDs (H : Kp) : Prop := ∀ i j, i < 16 → j < 16 → H.1 8 i = 1 → H.1 8 j = 1 → H.2.1 11 i = H.2.1 11 j → i = j
def Jd (q : Nat) (D : Kp) : Prop := (KB q D) ∧ (plB (D.1 0) (D.1 1)) ∧ ((prs (D.1 4) (D.1 5 0)).1 = 0) ∧ (tDs D) ∧ (txo D) ∧ (∀ j, j < 20 → D.1 12 j = 1 → D.1 13 j < 5 ∧ D.1 14 j < 110)
theorem Jd.kb {q : Nat} {D : Kp} (h : Jd q D) : KB q D := h.1
theorem Jd.pl {q : Nat} {D : Kp} (h : Jd q D) : plB (D.1 0) (D.1 1) := h.2.1
theorem Jd.pr {q : Nat} {D : Kp} (h : Jd q D) : (prs (D.1 4) (D.1 5 0)).1 = 0 := h.2.2.1
theorem Jd.ds {q : Nat} {D : Kp} (h : Jd q D) : tDs D := h.2.2.2.1
theorem Jd.tx {q : Nat} {D : Kp} (h : Jd q D) : txo D := h.2.2.2.2.1
theorem Jd.dr {q : Nat} {D : Kp} (h : Jd q D) : ∀ j, j < 20 → D.1 12 j = 1 → D.1 13 j < 5 ∧ D.1 14 j < 110 := h.2.2.2.2.2
section Ka
variable {D H G : Kp} {q : Nat} {l : List (Nat × Nat)}
theorem KA_12 (h : KA D H) {j : Nat} (hj : j < 16) : D.1 8 j = H.1 8 j ∧ (D.1 8 j = 1 → D.1 9 j = H.1 9 j ∧ D.1 10 j = H.1 10 j ∧ D.1 11 j = H.1 11 j ∧ D.2.1 10 j = H.2.1 10 j ∧ D.2.1 11 j = H.2.1 11 j) := by
  have k0 := kyo_12 j hj
  obtain ⟨e1, e2⟩ := kyo_inv k0
  have := h (kyo 12 j) k0 (by rw [e1]; omega)
  rw [e1, e2] at this
  exact this
theorem tDs_A (h : KA D H) (hd : tDs H) : tDs D := fun i j hi hj h1 h2 h3 => by
  obtain ⟨a1, a2⟩ := KA_12 h hi
  obtain ⟨b1', b2⟩ := KA_12 h hj
  refine hd i j hi hj (by rw [← a1]; exact h1) (by rw [← b1']; exact h2) ?_
  rw [← (a2 h1).2.2.2.2, ← (b2 h2).2.2.2.2]; exact h3
/-- kinds that a change of parts, books, tickets leaves alone -/
theorem kag_f (e1 : ∀ f, f < 7 ∨ 12 ≤ f → G.1 f = H.1 f) (e2 : ∀ f, f = 0 ∨ f = 1 ∨ f = 12 → G.2.1 f = H.2.1 f) {k : Nat} (hk : k < 135) (hk2 : kdk k < 8 ∨ 12 < kdk k) : kag H G (kdk k) (ixk k) := by
  obtain ⟨b1', b2, _⟩ := kdk_ok k hk
  have r := kag_refl (E := H) (kd := kdk k) (ix := ixk k) b1' b2
  generalize ixk k = ix at r ⊢
  generalize kdk k = kd at *
  unfold kag at r ⊢
  rw [e1 0 (by omega), e1 1 (by omega), e1 2 (by omega), e1 3 (by omega), e1 4 (by omega), e1 5 (by omega), e1 6 (by omega), e1 12 (by omega), e1 13 (by omega), e1 14 (by omega), e1 15 (by omega), e1 16 (by omega), e1 17 (by omega), e1 18 (by omega), e1 19 (by omega), e1 20 (by omega), e1 21 (by omega), e2 0 (by omega), e2 1 (by omega), e2 12 (by omega)]
  rcases (show kd = 1 ∨ kd = 2 ∨ kd = 3 ∨ kd = 4 ∨ kd = 5 ∨ kd = 6 ∨ kd = 7 ∨ kd = 13 ∨ kd = 14 ∨ kd = 15 by omega) with w | w | w | w | w | w | w | w | w | w <;> subst w <;> exact r
theorem KA_DG (h : KA D H) (ha : gka l) (ht : ∀ k, k ∈ l → kxt G k.1 k.2) (hg : ∀ k, k < 135 → (kdk k < 8 ∨ 12 ≤ kdk k) → (¬ ∃ i, i < l.length ∧ gkl l i = k) → kag H G (kdk k) (ixk k)) : KA (DG (gkl l) D G l.length) G := fun k hk hk2 => by
  obtain ⟨b1', b2, _⟩ := kdk_ok k hk
  have hgk : ∀ i, i < l.length → gkl l i < 135 := fun i hi => by
    obtain ⟨x, m, e⟩ := gkl_i hi
    rw [e]; exact (ha x m).2.2
  have hgt : ∀ i, i < l.length → kxt G (kdk (gkl l i)) (ixk (gkl l i)) := fun i hi => by
    obtain ⟨x, m, e⟩ := gkl_i hi
    obtain ⟨e1, e2⟩ := kyo_inv (ha x m).2.2
    rw [e, e1, e2]; exact ht x m
  obtain ⟨d1, d2⟩ := DG_kag (D := D) (H := G) (gk := gkl l) (gc := l.length) hgk hgt l.length (Nat.le_refl _) k hk
  by_cases w : ∃ i, i < l.length ∧ gkl l i = k
  · exact d1 w
  · exact kag_trans b1' b2 (d2 w) (kag_trans b1' b2 (h k hk hk2) (hg k hk hk2 w))
theorem Jd_DG (hD : Jd q D) (hG : KB q G) (hds : tDs G) (hA : KA (DG (gkl l) D G l.length) G) (hm : ∀ k, k ∈ l → 8 ≤ k.1 ∧ k.1 ≤ 12) (ha : gka l) : Jd q (DG (gkl l) D G l.length) := by
  have hg : mgk (gkl l) l.length := fun i hi => by
    obtain ⟨x, m, e⟩ := gkl_i hi
    rw [e, (kyo_inv (ha x m).2.2).1]
    exact hm x m
  obtain ⟨k1, k2⟩ := KB_DG hD.kb hG l.length hg
  exact ⟨k1, by rw [k2 0 (by omega), k2 1 (by omega)]; exact hD.pl, by rw [k2 4 (by omega), k2 5 (by omega)]; exact hD.pr, tDs_A hA hds, by unfold txo; rw [k2 4 (by omega), k2 5 (by omega)]; exact hD.tx, by rw [k2 12 (by omega), k2 13 (by omega), k2 14 (by omega)]; exact hD.dr⟩
theorem Jd_m {q' : Nat} (hq : q ≤ q') (h : Jd q D) : Jd q' D := ⟨KB_m hq h.kb, h.pl, h.pr, h.ds, h.tx, h.dr⟩
end Ka
