/-! PURE (50k): a group makes the house's things durable. -/
theorem kag_symm {D E : Kp} {kd ix : Nat} (b1' : 1 ≤ kd) (b2 : kd ≤ 15) (h : kag D E kd ix) : kag E D kd ix := by
  have hcase : kd = 1 ∨ kd = 2 ∨ kd = 3 ∨ kd = 4 ∨ kd = 5 ∨ kd = 6 ∨ kd = 7 ∨ kd = 8 ∨ kd = 9 ∨ kd = 10 ∨ kd = 11 ∨ kd = 12 ∨ kd = 13 ∨ kd = 14 ∨ kd = 15 := by omega
  rcases hcase with w | w | w | w | w | w | w | w | w | w | w | w | w | w | w
  · subst w; exact fun j a c => (h j a c).symm
  · subst w; exact fun j a c => (h j a c).symm
  · subst w; exact fun j a c => (h j a c).symm
  · subst w; exact fun j a c => (h j a c).symm
  · subst w; exact fun j a c => (h j a c).symm
  · subst w
    replace h : if ix = 7 then D.1 5 0 = E.1 5 0 else ∀ j, 28 * ix ≤ j → j < 28 * ix + 28 → D.1 4 j = E.1 4 j := h
    show if ix = 7 then E.1 5 0 = D.1 5 0 else ∀ j, 28 * ix ≤ j → j < 28 * ix + 28 → E.1 4 j = D.1 4 j
    by_cases w : ix = 7
    · rw [if_pos w] at h ⊢; exact h.symm
    · rw [if_neg w] at h ⊢; exact fun j a c => (h j a c).symm
  · subst w
    replace h : if ix = 0 then ∀ j, j < 11 → D.2.1 1 j = E.2.1 1 j else ∀ j, j < 11 → D.1 6 j = E.1 6 j := h
    show if ix = 0 then ∀ j, j < 11 → E.2.1 1 j = D.2.1 1 j else ∀ j, j < 11 → E.1 6 j = D.1 6 j
    by_cases w : ix = 0
    · rw [if_pos w] at h ⊢; exact fun j a => (h j a).symm
    · rw [if_neg w] at h ⊢; exact fun j a => (h j a).symm
  · subst w; exact ⟨h.1.symm, h.2.1.symm, h.2.2.1.symm, h.2.2.2.1.symm, h.2.2.2.2.symm⟩
  · subst w; exact ⟨fun j a => (h.1 j a).symm, fun j a => (h.2 j a).symm⟩
  · subst w; exact ⟨h.1.symm, h.2.1.symm, fun j a => (h.2.2 j a).symm⟩
  · subst w; exact ⟨h.1.symm, h.2.1.symm, h.2.2.1.symm, h.2.2.2.symm⟩
  · subst w
    refine ⟨h.1.symm, fun q => ?_⟩
    obtain ⟨y1, y2, y3, y4, y5⟩ := h.2 (h.1.trans q)
    exact ⟨y1.symm, y2.symm, y3.symm, y4.symm, y5.symm⟩
  · subst w
    refine ⟨h.1.symm, fun q => ?_⟩
    obtain ⟨y1, y2⟩ := h.2 (h.1.trans q)
    exact ⟨y1.symm, y2.symm⟩
  · subst w
    refine ⟨h.1.symm, fun q => ?_⟩
    obtain ⟨y1, y2, y3, y4⟩ := h.2 (h.1.trans q)
    exact ⟨y1.symm, y2.symm, y3.symm, y4.symm⟩
  · subst w
    refine ⟨h.1.symm, fun q => ?_⟩
    obtain ⟨y1, y2⟩ := h.2 (h.1.trans q)
    exact ⟨y1.symm, y2.symm⟩
/-- the durable house behind n keys of a group -/
def DG (gk : Nat → Nat) (D H : Kp) : Nat → Kp
  | 0 => D
  | i + 1 => dec (DG gk D H i) H (kdk (gk i)) (ixk (gk i))
section Gpd
variable {kt : Nat → Bool} {kb : Nat → Nat → Nat} {D H : Kp} {gk : Nat → Nat} {gc : Nat}
theorem DG_kag (hg : ∀ i, i < gc → gk i < 135) (ht : ∀ i, i < gc → kxt H (kdk (gk i)) (ixk (gk i))) : ∀ n, n ≤ gc → ∀ k, k < 135 → ((∃ i, i < n ∧ gk i = k) → kag (DG gk D H n) H (kdk k) (ixk k)) ∧ ((¬ ∃ i, i < n ∧ gk i = k) → kag (DG gk D H n) D (kdk k) (ixk k)) := by
  intro n
  induction n with
  | zero =>
    intro _ k hk
    obtain ⟨a1, a2, -⟩ := kdk_ok k hk
    exact ⟨fun ⟨i, h, _⟩ => absurd h (Nat.not_lt_zero _), fun _ => kag_refl a1 a2⟩
  | succ n ih =>
    intro hn k hk
    have hI := ih (by omega) k hk
    obtain ⟨a1, a2, -⟩ := kdk_ok k hk
    have hgn := hg n (by omega)
    obtain ⟨c1, c2, -⟩ := kdk_ok (gk n) hgn
    have e : DG gk D H (n + 1) = dec (DG gk D H n) H (kdk (gk n)) (ixk (gk n)) := rfl
    rw [e]
    by_cases w : gk n = k
    · subst w
      exact ⟨fun _ => dec_self c1 c2 (ht n (by omega)), fun q => absurd ⟨n, by omega, rfl⟩ q⟩
    · have ho := dec_oth (H := DG gk D H n) (G := H) c1 c2 (ixk_lt _ hgn) a1 a2 (ixk_lt k hk) (key_ne hgn hk w)
      refine ⟨fun ⟨i, h1, h2⟩ => kag_trans a1 a2 ho (hI.1 ⟨i, ?_, h2⟩), fun q => kag_trans a1 a2 ho (hI.2 (fun ⟨i, h1, h2⟩ => q ⟨i, by omega, h2⟩))⟩
      by_cases y : i = n
      · rw [y] at h2; exact absurd h2 w
      · omega
theorem gkt_iff {n k : Nat} : (gkt gk kt n k = true ↔ (∃ i, i < n ∧ gk i = k) ∨ kt k = true) := by
  induction n with
  | zero =>
    show kt k = true ↔ _
    exact ⟨Or.inr, fun q => q.elim (fun ⟨i, h, _⟩ => absurd h (Nat.not_lt_zero _)) id⟩
  | succ n ih =>
    rw [show gkt gk kt (n + 1) = up (gkt gk kt n) (gk n) true from rfl, up_d]
    by_cases w : k = gk n
    · rw [if_pos w]; exact ⟨fun _ => Or.inl ⟨n, by omega, w.symm⟩, fun _ => rfl⟩
    · rw [if_neg w, ih]
      constructor
      · rintro (⟨i, h1, h2⟩ | h)
        · exact Or.inl ⟨i, by omega, h2⟩
        · exact Or.inr h
      · rintro (⟨i, h1, h2⟩ | h)
        · refine Or.inl ⟨i, ?_, h2⟩
          by_cases y : i = n
          · rw [y] at h2; exact absurd h2.symm w
          · omega
        · exact Or.inr h
theorem gkb_iff {x : Nat → Nat → Nat} {n k : Nat} : ((∃ i, i < n ∧ gk i = k) → gkb gk x kb n k = x k) ∧ ((¬ ∃ i, i < n ∧ gk i = k) → gkb gk x kb n k = kb k) := by
  induction n with
  | zero => exact ⟨fun ⟨i, h, _⟩ => absurd h (Nat.not_lt_zero _), fun _ => rfl⟩
  | succ n ih =>
    rw [show gkb gk x kb (n + 1) = up (gkb gk x kb n) (gk n) (x (gk n)) from rfl, up_d]
    by_cases w : k = gk n
    · rw [if_pos w, w]; exact ⟨fun _ => rfl, fun q => absurd ⟨n, by omega, rfl⟩ q⟩
    · rw [if_neg w]
      refine ⟨fun ⟨i, h1, h2⟩ => ih.1 ⟨i, ?_, h2⟩, fun q => ih.2 (fun ⟨i, h1, h2⟩ => q ⟨i, by omega, h2⟩)⟩
      by_cases y : i = n
      · rw [y] at h2; exact absurd h2.symm w
      · omega
theorem DG_mem : ∀ n f j, (DG gk D H n).1 f j = D.1 f j ∨ (DG gk D H n).1 f j = H.1 f j ∨ ((f = 12 ∨ f = 15 ∨ f = 19) ∧ (DG gk D H n).1 f j = 1) := by
  intro n
  induction n with
  | zero => intro f j; exact Or.inl rfl
  | succ n ih =>
    intro f j
    have e : DG gk D H (n + 1) = dec (DG gk D H n) H (kdk (gk n)) (ixk (gk n)) := rfl
    rw [e]
    rcases dec_mem (H := DG gk D H n) (G := H) (kd := kdk (gk n)) (ix := ixk (gk n)) f j with h | h | h
    · rw [h]; exact ih f j
    · exact Or.inr (Or.inl h)
    · exact Or.inr (Or.inr h)
theorem DG_4 (hg : ∀ i, i < gc → gk i < 135) : ∀ n, n ≤ gc → (DG gk D H n).2.1 4 10 = D.2.1 4 10 := by
  intro n
  induction n with
  | zero => intro _; rfl
  | succ n ih =>
    intro hn
    obtain ⟨c1, c2, -⟩ := kdk_ok (gk n) (hg n (by omega))
    rw [show DG gk D H (n + 1) = dec (DG gk D H n) H (kdk (gk n)) (ixk (gk n)) from rfl, dec_4 c1 c2 (ixk_lt _ (hg n (by omega)))]
    exact ih (by omega)
/-- the program is of the group as a whole, or not at all -/
def gtx (gk : Nat → Nat) (gc : Nat) : Prop := (∀ ix, ix < 8 → ∃ i, i < gc ∧ gk i = kyo 6 ix) ∨ ∀ i, i < gc → kdk (gk i) ≠ 6
theorem st_DG (hD : st_D kt kb D) (hH : kpb H) (hg : ∀ i, i < gc → gk i < 135) (ht : ∀ i, i < gc → kxt H (kdk (gk i)) (ixk (gk i))) (hl : ∀ i, i < gc → kpl H (kdk (gk i)) (ixk (gk i))) (hx : gtx gk gc) : st_D (gkt gk kt gc) (gkb gk (xk H) kb gc) (DG gk D H gc) := by
  obtain ⟨hb, h4, hk⟩ := hD
  have hA := DG_kag (D := D) (H := H) hg ht gc (Nat.le_refl _)
  have hm := DG_mem (gk := gk) (D := D) (H := H) gc
  have h4' := DG_4 (D := D) (H := H) hg gc (Nat.le_refl _)
  have key6 : ∀ ix, ix < 8 → kyo 6 ix < 135 ∧ kdk (kyo 6 ix) = 6 ∧ ixk (kyo 6 ix) = ix := by decide +kernel
  generalize hE : DG gk D H gc = E at *
  obtain ⟨a0, a1, a2, a3, a5, a4, at4, a6, a7, a8, a9, a12, a13, a15, a16, a19, a20⟩ := hb
  obtain ⟨c0, c1, c2, c3, c5, c4, ct4, c6, c7, c8, c9, c12, c13, c15, c16, c19, c20⟩ := hH
  -- the text
  have hT : ∃ X : Kp, (X.1 5 0 ≤ 196 ∧ ∀ j, X.1 5 0 ≤ j → X.1 4 j = 0) ∧ E.1 5 0 = X.1 5 0 ∧ ∀ j, j < 196 → E.1 4 j = X.1 4 j := by
    have hcov : ∀ X : Kp, (∀ ix, ix < 8 → kag E X 6 ix) → E.1 5 0 = X.1 5 0 ∧ ∀ j, j < 196 → E.1 4 j = X.1 4 j := by
      intro X h
      refine ⟨h 7 (by omega), fun j hj => ?_⟩
      have q : if j / 28 = 7 then E.1 5 0 = X.1 5 0 else ∀ i, 28 * (j / 28) ≤ i → i < 28 * (j / 28) + 28 → E.1 4 i = X.1 4 i := h (j / 28) (by omega)
      rw [if_neg (by omega)] at q
      exact q j (by omega) (by omega)
    rcases hx with hx | hx
    · refine ⟨H, ⟨c5, ct4⟩, hcov H (fun ix hix => ?_)⟩
      obtain ⟨k1, k2, k3⟩ := key6 ix hix
      have := (hA _ k1).1 (hx ix hix)
      rw [k2, k3] at this
      exact this
    · refine ⟨D, ⟨a5, at4⟩, hcov D (fun ix hix => ?_)⟩
      obtain ⟨k1, k2, k3⟩ := key6 ix hix
      have := (hA _ k1).2 (fun ⟨i, h1, h2⟩ => hx i h1 (by rw [h2]; exact k2))
      rw [k2, k3] at this
      exact this
  have hE8 : ∀ j, E.1 8 j ≤ 1 := fun j => by
    have := a8 j; have := c8 j
    rcases hm 8 j with h | h | h
    · rw [h]; assumption
    · rw [h]; assumption
    · rw [h.2]; exact Nat.le_refl _
  refine ⟨?_, h4'.trans h4, fun k hkk => ?_⟩
  · have lt : ∀ f B, ¬ (f = 12 ∨ f = 15 ∨ f = 19) → (∀ j, D.1 f j < B) → (∀ j, H.1 f j < B) → ∀ j, E.1 f j < B := by
      intro f B hf h1 h2 j
      rcases hm f j with h | h | h
      · rw [h]; exact h1 j
      · rw [h]; exact h2 j
      · exact absurd h.1 hf
    have le1 : ∀ f, (∀ j, D.1 f j ≤ 1) → (∀ j, H.1 f j ≤ 1) → ∀ j, E.1 f j ≤ 1 := by
      intro f h1 h2 j
      rcases hm f j with h | h | h
      · rw [h]; exact h1 j
      · rw [h]; exact h2 j
      · rw [h.2]; exact Nat.le_refl _
    obtain ⟨X, ⟨x1, x2⟩, x3, x4⟩ := hT
    refine ⟨lt 0 4 (by omega) a0 c0, lt 1 16 (by omega) a1 c1, lt 2 256 (by omega) a2 c2, lt 3 256 (by omega) a3 c3, by rw [x3]; exact x1, lt 4 128 (by omega) a4 c4, fun j hj => ?_, lt 6 256 (by omega) a6 c6, le1 7 a7 c7, hE8, fun j => ⟨lt 9 256 (by omega) (fun j => (a9 j).1) (fun j => (c9 j).1) j, lt 10 256 (by omega) (fun j => (a9 j).2.1) (fun j => (c9 j).2.1) j, lt 11 256 (by omega) (fun j => (a9 j).2.2) (fun j => (c9 j).2.2) j⟩, le1 12 a12 c12, fun j => ⟨lt 13 256 (by omega) (fun j => (a13 j).1) (fun j => (c13 j).1) j, lt 14 256 (by omega) (fun j => (a13 j).2) (fun j => (c13 j).2) j⟩, le1 15 a15 c15, fun j => ⟨lt 16 256 (by omega) (fun j => (a16 j).1) (fun j => (c16 j).1) j, lt 17 256 (by omega) (fun j => (a16 j).2.1) (fun j => (c16 j).2.1) j, le1 18 (fun j => (a16 j).2.2) (fun j => (c16 j).2.2) j⟩, le1 19 a19 c19, fun j => ⟨lt 20 256 (by omega) (fun j => (a20 j).1) (fun j => (c20 j).1) j, lt 21 256 (by omega) (fun j => (a20 j).2) (fun j => (c20 j).2) j⟩⟩
    by_cases w : j < 196
    · rw [x4 j w]; exact x2 j (by rw [← x3]; exact hj)
    · rcases hm 4 j with h | h | h
      · rw [h]; exact at4 j (by omega)
      · rw [h]; exact ct4 j (by omega)
      · omega
  · obtain ⟨q1, q2, -⟩ := kdk_ok k hkk
    obtain ⟨y1, y2⟩ := hA k hkk
    obtain ⟨z1, z2⟩ := hk k hkk
    have hgb := gkb_iff (gk := gk) (kb := kb) (x := xk H) (n := gc) (k := k)
    by_cases w : ∃ i, i < gc ∧ gk i = k
    · refine ⟨fun _ => ?_, fun q => ?_⟩
      · have hag := y1 w
        obtain ⟨i, hi, ei⟩ := w
        have t1 := ht i hi
        have l1 := hl i hi
        rw [ei] at t1 l1
        have t2 := kxt_congr q1 q2 hag t1
        refine ⟨t2, kpl_congr q1 q2 hag l1, fun j hj => ?_⟩
        rw [hgb.1 ⟨i, hi, ei⟩]
        exact (congrFun (kx_congr q1 q2 hE8 t2 hag) j).symm
      · rw [gkt_iff.mpr (Or.inl w)] at q; cases q
    · have hag := y2 w
      refine ⟨fun q => ?_, fun q => ?_⟩
      · have hkt : kt k = true := by
          rcases gkt_iff.mp q with h | h
          · exact absurd h w
          · exact h
        obtain ⟨t1, l1, e1⟩ := z1 hkt
        have t2 := kxt_congr q1 q2 hag t1
        refine ⟨t2, kpl_congr q1 q2 hag l1, fun j hj => ?_⟩
        rw [hgb.2 w, e1 j hj]
        exact (congrFun (kx_congr q1 q2 hE8 t2 hag) j).symm
      · have hkt : kt k = false := by
          cases e : kt k with
          | false => rfl
          | true => rw [gkt_iff.mpr (Or.inr e)] at q; cases q
        exact kag_trans q1 q2 (z2 hkt) (kag_symm q1 q2 hag)
end Gpd
