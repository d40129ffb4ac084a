/-! PURE (50zzzza): the day's group. -/
def dK : Nat → List (Nat × Nat)
  | 0 => []
  | t + 1 => (8, t) :: dK t
def dM : Nat → List (Nat × Nat)
  | 0 => (10, 0) :: (9, 0) :: dK 10
  | t + 1 => (11, t) :: dM t
theorem dK_l : ∀ t, (dK t).length = t := by
  intro t
  induction t with
  | zero => rfl
  | succ t ih => show (dK t).length + 1 = _; rw [ih]
theorem dM_l : ∀ t, (dM t).length = t + 12 := by
  intro t
  induction t with
  | zero => show (dK 10).length + 1 + 1 = _; rw [dK_l]
  | succ t ih => show (dM t).length + 1 = _; rw [ih]
theorem kyo_8 : ∀ v, v < 10 → kyo 8 v < 135 := by decide
theorem kyo_10 : kyo 10 0 < 135 := by decide
theorem dK_a : ∀ t, t ≤ 10 → gka (dK t) := by
  intro t
  induction t with
  | zero => intro _; exact gka_n
  | succ t ih => intro ht; exact gka_c (by omega) (by omega) (kyo_8 t (by omega)) (ih (by omega))
theorem dM_a : ∀ t, t ≤ 3 → gka (dM t) := by
  intro t
  induction t with
  | zero => intro _; exact gka_c (by omega) (by omega) kyo_10 (gka_c (by omega) (by omega) kyo_9 (dK_a 10 (by omega)))
  | succ t ih => intro ht; exact gka_c (by omega) (by omega) (kyo_11 t (by omega)) (ih (by omega))
theorem dK_m : ∀ t, ∀ k, k ∈ dK t → k.1 = 8 := by
  intro t
  induction t with
  | zero => exact al_n
  | succ t ih => exact al_c rfl ih
theorem dM_m : ∀ t, ∀ k, k ∈ dM t → 8 ≤ k.1 ∧ k.1 ≤ 11 := by
  intro t
  induction t with
  | zero => exact al_c (show 8 ≤ 10 ∧ 10 ≤ 11 by omega) (al_c (show 8 ≤ 9 ∧ 9 ≤ 11 by omega) (fun k hk => by have := dK_m 10 k hk; omega))
  | succ t ih => exact al_c (show 8 ≤ 11 ∧ 11 ≤ 11 by omega) ih
section Dy
variable {N N1 N2 : mz_N} {b : Bool} {B : Nat} {s : st_S} {D H : Kp}
theorem day_c (h : cp_121_0 (gjc N (dM 3)) b) : cp_277_0 N b ∧ cf_277_0 N b = cf_121_0 (gjc N (dM 3)) b := by
  rw [cp_277_0, cf_277_0, cp_277_9, cf_277_9]
  have L2 : cp_277_53 0 (gjc N (dM 0)) b ∧ cf_277_53 0 (gjc N (dM 0)) b = cf_121_0 (gjc N (dM 3)) b := by
    rw [cp_277_53, cf_277_53]
    refine mz_lps (f := cq_277_53 b) (P := cd_277_53 b) (t := cf_121_0 (gjc N (dM 3)) b) 3 (fun t => (nI t, gjc N (dM t))) (fun t ht => ?_) ?_ (k := 0) (Nat.zero_le _)
    · have l : nI t < 3 := (nI_ltI (b := 3) (by omega) (by omega)).mpr ht
      have pp : cp_119_0 11 (nI t) (gjc N (dM t)) := gjc_p (N := N) (k := (11, t)) (l := dM t) (dM_a (t + 1) (by omega)) (by rw [dM_l]; omega)
      rw [cd_277_53, cq_277_53]
      simp only [l, if_true, nI_1]
      exact ⟨⟨fun _ => pp, fun z => absurd trivial z⟩, rfl⟩
    · have l : ¬ nI 3 < 3 := by decide
      rw [cd_277_53, cq_277_53]
      simp only [l, if_false]
      exact ⟨⟨False.elim, fun _ => h⟩, trivial⟩
  refine mz_lps (f := cq_277_9 b) (P := cd_277_9 b) (t := cf_121_0 (gjc N (dM 3)) b) 10 (fun t => (nI t, gjc N (dK t))) (fun t ht => ?_) ?_ (k := 0) (Nat.zero_le _)
  · have l : nI t < 10 := (nI_ltI (b := 10) (by omega) (by omega)).mpr ht
    have pp : cp_119_0 8 (nI t) (gjc N (dK t)) := gjc_p (N := N) (k := (8, t)) (l := dK t) (dK_a (t + 1) (by omega)) (by rw [dK_l]; omega)
    rw [cd_277_9, cq_277_9]
    simp only [l, if_true, nI_1]
    exact ⟨⟨fun _ => pp, fun z => absurd trivial z⟩, rfl⟩
  · have l : ¬ nI 10 < 10 := by decide
    have p1 : cp_119_0 9 0 (gjc N (dK 10)) := gjc_p (N := N) (k := (9, 0)) (l := dK 10) (gka_c (by omega) (by omega) kyo_9 (dK_a 10 (by omega))) (by rw [dK_l]; omega)
    have p2 : cp_119_0 10 0 (cf_119_0 9 0 (gjc N (dK 10))) := gjc_p (N := N) (k := (10, 0)) (l := (9, 0) :: dK 10) (dM_a 0 (by omega)) (by show (dK 10).length + 1 < 16; rw [dK_l]; omega)
    rw [cd_277_9, cq_277_9]
    simp only [l, if_false]
    exact ⟨⟨False.elim, fun _ => ⟨p1, p2, L2.1⟩⟩, congrArg Sum.inr L2.2⟩
theorem day_r (h : cp_474_0 (gjr N (dM 3))) : cp_507_121 0 (cf_471_0 N) ∧ cf_507_121 0 (cf_471_0 N) = cf_474_0 (gjr N (dM 3)) := by
  rw [cp_507_121, cf_507_121]
  have L2 : cp_507_156 0 (gjr N (dM 0)) ∧ cf_507_156 0 (gjr N (dM 0)) = cf_474_0 (gjr N (dM 3)) := by
    rw [cp_507_156, cf_507_156]
    refine mz_lps (f := cq_507_156) (P := cd_507_156) (t := cf_474_0 (gjr N (dM 3))) 3 (fun t => (nI t, gjr N (dM t))) (fun t ht => ?_) ?_ (k := 0) (Nat.zero_le _)
    · have l : nI t < 3 := (nI_ltI (b := 3) (by omega) (by omega)).mpr ht
      have pp : cp_472_0 11 (nI t) (gjr N (dM t)) := gjr_p (N := N) (k := (11, t)) (l := dM t) (dM_a (t + 1) (by omega)) (by rw [dM_l]; omega)
      rw [cd_507_156, cq_507_156]
      simp only [l, if_true, nI_1]
      exact ⟨⟨fun _ => pp, fun z => absurd trivial z⟩, rfl⟩
    · have l : ¬ nI 3 < 3 := by decide
      rw [cd_507_156, cq_507_156]
      simp only [l, if_false]
      exact ⟨⟨False.elim, fun _ => h⟩, trivial⟩
  refine mz_lps (f := cq_507_121) (P := cd_507_121) (t := cf_474_0 (gjr N (dM 3))) 10 (fun t => (nI t, gjr N (dK t))) (fun t ht => ?_) ?_ (k := 0) (Nat.zero_le _)
  · have l : nI t < 10 := (nI_ltI (b := 10) (by omega) (by omega)).mpr ht
    have pp : cp_472_0 8 (nI t) (gjr N (dK t)) := gjr_p (N := N) (k := (8, t)) (l := dK t) (dK_a (t + 1) (by omega)) (by rw [dK_l]; omega)
    rw [cd_507_121, cq_507_121]
    simp only [l, if_true, nI_1]
    exact ⟨⟨fun _ => pp, fun z => absurd trivial z⟩, rfl⟩
  · have l : ¬ nI 10 < 10 := by decide
    have p1 : cp_472_0 9 0 (gjr N (dK 10)) := gjr_p (N := N) (k := (9, 0)) (l := dK 10) (gka_c (by omega) (by omega) kyo_9 (dK_a 10 (by omega))) (by rw [dK_l]; omega)
    have p2 : cp_472_0 10 0 (cf_472_0 9 0 (gjr N (dK 10))) := gjr_p (N := N) (k := (10, 0)) (l := (9, 0) :: dK 10) (dM_a 0 (by omega)) (by show (dK 10).length + 1 < 16; rw [dK_l]; omega)
    rw [cd_507_121, cq_507_121]
    simp only [l, if_false]
    exact ⟨⟨False.elim, fun _ => ⟨p1, p2, L2.1⟩⟩, congrArg Sum.inr L2.2⟩
theorem day_ok (hB : B + 1 < 2 ^ 30) (h : KS B s D H N1 b N2) :
    cp_277_0 N1 b ∧ cp_507_121 0 (cf_471_0 N2) ∧ ∃ w K1 K2, cf_277_0 N1 b = (w, K1) ∧ cf_507_121 0 (cf_471_0 N2) = (w, K2) ∧ cyF N1 K1 ∧ ryF N2 K2 ∧
      (w = true → ∃ s', KS (B + 1) s' (DG (gkl (dM 3)) D H (dM 3).length) H K1 b K2) ∧ (w = false → Dwn (B + 1) D K1 K2) := by
  obtain ⟨o1, o2, w, K1, K2, o3, o4, o5⟩ := wr_ok (l := dM 3) hB h (dM_a 3 (by omega)) (by rw [dM_l]; omega) (fun k hk => kxt_n (by have := dM_m 3 k hk; omega)) (fun k hk => kpl_n (by have := dM_m 3 k hk; omega) (by have := dM_m 3 k hk; omega) (by have := dM_m 3 k hk; omega)) (gtx_n (dM_a 3 (by omega)) (fun k hk => by have := dM_m 3 k hk; omega))
  obtain ⟨a1, a2⟩ := day_c o1
  obtain ⟨b1', b2⟩ := day_r o2
  exact ⟨a1, b1', w, K1, K2, by rw [a2, o3], by rw [b2, o4], o5⟩
end Dy
