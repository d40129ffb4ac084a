/-! PURE (50zzzzzzzy): the start: the reference is made; the law as a whole. -/
section Stc
variable {N M K : mz_N} {v1 : Int64} {L : Nat} {xs : Nat → Int32}
/-- the reference's cells, all new -/
def stN (N : mz_N) : Nat → mz_N
  | 0 => N
  | n + 1 => mz_nN (stN N n) (232 + n)
theorem stN_lo (N : mz_N) : ∀ n c, c < 232 ∨ 342 ≤ c → n ≤ 110 → (stN N n).1 c = N.1 c ∧ (stN N n).2 c = N.2 c := by
  intro n
  induction n with
  | zero => intro c _ _; exact ⟨rfl, rfl⟩
  | succ n ih =>
    intro c hc hn
    obtain ⟨a, b⟩ := ih c hc (by omega)
    have w : c ≠ 232 + n := by omega
    exact ⟨(if_neg w).trans a, (if_neg w).trans b⟩
theorem stN_z (N : mz_N) : ∀ n c, 232 ≤ c → c < 232 + n → (stN N n).1 c = (fun _ => 0) ∧ (stN N n).2 c = fun _ => 0 := by
  intro n
  induction n with
  | zero => intro c h1 h2; omega
  | succ n ih =>
    intro c h1 h2
    by_cases w : c = 232 + n
    · exact ⟨if_pos w, if_pos w⟩
    · obtain ⟨a, b⟩ := ih c h1 (by omega)
      exact ⟨(if_neg w).trans a, (if_neg w).trans b⟩
/-- before the first row is written -/
def stQ (v1 : Int64) (N : mz_N) : mz_N := mz_pI (mz_pL (mz_pL (stN N 110) 232 1 v1) 232 134 1) 232 136 (-1)
theorem e408 (v1 : Int64) (N : mz_N) : cf_408_0 v1 (mz_nN N 232) = cf_414_0 (mz_pI (cf_409_0 0 0 1 (stQ v1 N)).2 232 135 1) := rfl
theorem p408 (v1 : Int64) (N : mz_N) (h1 : cp_409_0 0 0 1 (stQ v1 N)) (h2 : cp_414_0 (mz_pI (cf_409_0 0 0 1 (stQ v1 N)).2 232 135 1)) : cp_408_0 v1 (mz_nN N 232) := ⟨h1, h2, trivial⟩
theorem hdp_0 : hdp 0 = fun _ => 0 := by
  funext i
  unfold hdp
  split
  · rw [lb_lN]; show 0 % 2 ^ 64 / 2 ^ (8 * i) % 256 = 0; rw [Nat.zero_mod, Nat.zero_div]
  · rfl
/-- the reference, before it begins -/
def stB (v1 : Int64) (N K : mz_N) : Prop := (∀ c, c < 232 ∨ 342 ≤ c → K.1 c = N.1 c ∧ K.2 c = N.2 c) ∧ (r_dk d00 K) ∧ (K.1 232 133 = nI 0) ∧ (K.2 232 134 = lN 1) ∧ (K.1 232 135 = nI 1) ∧ (K.1 331 = fun _ => 0) ∧ (K.1 330 = fun _ => 0) ∧ (K.2 232 1 = v1)
theorem stB.e {v1 : Int64} {N K : mz_N} (h : stB v1 N K) : ∀ c, c < 232 ∨ 342 ≤ c → K.1 c = N.1 c ∧ K.2 c = N.2 c := h.1
theorem stB.d {v1 : Int64} {N K : mz_N} (h : stB v1 N K) : r_dk d00 K := h.2.1
theorem stB.s3 {v1 : Int64} {N K : mz_N} (h : stB v1 N K) : K.1 232 133 = nI 0 := h.2.2.1
theorem stB.s4 {v1 : Int64} {N K : mz_N} (h : stB v1 N K) : K.2 232 134 = lN 1 := h.2.2.2.1
theorem stB.s5 {v1 : Int64} {N K : mz_N} (h : stB v1 N K) : K.1 232 135 = nI 1 := h.2.2.2.2.1
theorem stB.kb {v1 : Int64} {N K : mz_N} (h : stB v1 N K) : K.1 331 = fun _ => 0 := h.2.2.2.2.2.1
theorem stB.kt {v1 : Int64} {N K : mz_N} (h : stB v1 N K) : K.1 330 = fun _ => 0 := h.2.2.2.2.2.2.1
theorem stB.sd {v1 : Int64} {N K : mz_N} (h : stB v1 N K) : K.2 232 1 = v1 := h.2.2.2.2.2.2.2
theorem r_made (v1 : Int64) (N : mz_N) : cp_409_0 0 0 1 (stQ v1 N) ∧ stB v1 N (mz_pI (cf_409_0 0 0 1 (stQ v1 N)).2 232 135 1) := by
  have z : ∀ c, 232 ≤ c → c < 342 → (stN N 110).1 c = (fun _ => 0) := fun c h1 h2 => (stN_z N 110 c h1 (by omega)).1
  have q1 : ∀ c, c ≠ 232 → (stQ v1 N).1 c = (stN N 110).1 c := fun c hc => by unfold stQ; rw [pI_s, sI_n hc]; rfl
  have q2 : (stQ v1 N).1 232 = upd (fun _ => 0) 136 (-1) := by
    unfold stQ
    rw [pI_s, sI_e]
    show upd ((stN N 110).1 232) 136 (-1) = _
    rw [z 232 (by omega) (by omega)]
  have q3 : (stQ v1 N).2 232 134 = 1 ∧ (stQ v1 N).2 232 1 = v1 := ⟨rfl, rfl⟩
  have q4 : ∀ c, c ≠ 232 → (stQ v1 N).2 c = (stN N 110).2 c := fun c hc => by unfold stQ; rw [pI_s, sI_2, pL_s, sL_n hc, pL_s, sL_n hc]
  have lo : ∀ c, c < 232 ∨ 342 ≤ c → (stQ v1 N).1 c = N.1 c ∧ (stQ v1 N).2 c = N.2 c := fun c hc => ⟨(q1 c (by omega)).trans (stN_lo N 110 c hc (by omega)).1, (q4 c (by omega)).trans (stN_lo N 110 c hc (by omega)).2⟩
  have q329 : (stQ v1 N).1 329 = fun _ => 0 := (q1 329 (by decide)).trans (z 329 (by omega) (by omega))
  have q330 : (stQ v1 N).1 330 = fun _ => 0 := (q1 330 (by decide)).trans (z 330 (by omega) (by omega))
  have q331 : (stQ v1 N).1 331 = fun _ => 0 := (q1 331 (by decide)).trans (z 331 (by omega) (by omega))
  generalize stQ v1 N = Q at *
  have rw0' : r_w Q (fun _ _ => 0) (-1) Q := by
    refine ⟨fr_refl _ _, fun a ha j hj => by rw [q329]; rfl, ?_⟩
    rw [q2]
    funext k
    simp only [up_a]
    split <;> rfl
  obtain ⟨p1, K, k1, k2, _⟩ := r_head (N := Q) (d := fun _ _ => 0) (to := 0) (m := 0) (g := 1) (z := -1) (M := Q) (by omega) (by omega) (by rw [q2]; rfl) rw0'
  have p1' : cp_409_0 0 0 1 Q := p1
  have k1' : cf_409_0 0 0 1 Q = (decide ((-1 : Int32) ≠ 0), K) := k1
  obtain ⟨m1, m2, m3⟩ := k2 (by decide)
  rw [hdp_0] at m2
  refine ⟨p1', ?_⟩
  rw [k1']
  have o1 : ∀ c, c ≠ 232 → (mz_pI K 232 135 1).1 c = K.1 c := fun c hc => by rw [pI_s, sI_n hc]
  have o2 : (mz_pI K 232 135 1).2 = Q.2 := by rw [pI_s, sI_2, m1.2]
  refine ⟨fun c hc => ⟨?_, ?_⟩, fun a ha j hj => ?_, ?_, ?_, ?_, ?_, ?_, ?_⟩
  · show (mz_pI K 232 135 1).1 c = N.1 c
    rw [o1 c (by omega), m1.1 c (by
      have w1 : c ≠ 232 := by omega
      have w2 : c ≠ 329 := by omega
      have w3 : c ≠ 332 := by omega
      have w4 : c ≠ 341 := by omega
      simp [w1, w2, w3, w4])]
    exact (lo c hc).1
  · show (mz_pI K 232 135 1).2 c = N.2 c
    rw [o2]; exact (lo c hc).2
  · show (mz_pI K 232 135 1).1 329 (9600 * a + j) = _
    rw [o1 329 (by decide)]; exact m2 a ha j hj
  · show (mz_pI K 232 135 1).1 232 133 = nI 0
    rw [pI_s, sI_e, up_a, if_neg (by decide), m3, q2]; rfl
  · show (mz_pI K 232 135 1).2 232 134 = lN 1
    rw [o2, q3.1]; rfl
  · show (mz_pI K 232 135 1).1 232 135 = nI 1
    rw [pI_s, sI_e, up_a, if_pos rfl]; rfl
  · show (mz_pI K 232 135 1).1 331 = _
    rw [o1 331 (by decide), m1.1 331 rfl]; exact q331
  · show (mz_pI K 232 135 1).1 330 = _
    rw [o1 330 (by decide), m1.1 330 rfl]; exact q330
  · show (mz_pI K 232 135 1).2 232 1 = v1
    rw [o2]; exact q3.2
/-- both are made: both are alike -/
theorem start_ok (v1 : Int64) (N : mz_N) : cp_0_0 v1 N ∧ cp_408_0 v1 (mz_nN (cf_0_0 v1 N).1 232) ∧ Sm 1 1 (mz_nN (cf_408_0 v1 (mz_nN (cf_0_0 v1 N).1 232)) 342) (cf_0_0 v1 N).2 (mz_nN (cf_408_0 v1 (mz_nN (cf_0_0 v1 N).1 232)) 342) := by
  obtain ⟨p1, hA⟩ := c_made v1 N
  rw [cp_0_0, cf_0_0]
  generalize mz_pL (cf_1_0 (mz_nN N 1)) 56 15 v1 = A at hA ⊢
  have AN : ∀ B2, stB v1 (cf_17_0 A false).1 B2 → cp_17_0 A false ∧ cp_414_0 B2 ∧ ∃ K1, cf_17_0 A false = (K1, !false) ∧ oF A B2 K1 (cf_414_0 B2) ∧ (cf_414_0 B2).1 232 0 = B2.1 232 0 ∧ Up (0 + 1) 1 K1 (!false) (cf_414_0 B2) := fun B2 hB => by
    refine anew_ok (s := (d00, -1, 0, 1, 1, (fun _ => false), fun _ _ => 0)) (D := rD (fun _ => false) (fun _ _ => 0)) (by omega) d00_S rfl hA.d hA.s4 hA.s5 hA.s6 hA.s7 (fun k _ j _ => by rw [hA.kb]; rfl) (fun k _ => by rw [hA.kt]; rfl) hB.d hB.s3 hB.s4 hB.s5 (fun k _ z => by cases z) (fun k _ => by rw [hB.kt]; rfl) (rD_Jd LG0 (fun _ _ => by show 0 < 256; omega) (fun _ _ _ _ => rfl)) (fun u _ => ⟨0, by omega, by rw [hA.zv]; rfl⟩) (by rw [hA.sd, hB.sd])
  obtain ⟨p2, hB⟩ := r_made v1 (cf_17_0 A false).1
  obtain ⟨a1, a2, K1, a3, a4, a5, a6⟩ := AN _ hB
  have e17 : (cf_17_0 A false).1 = K1 := by rw [a3]
  have e17b : (cf_17_0 A false).2 = !false := by rw [a3]
  refine ⟨⟨p1, a1, trivial⟩, p408 v1 _ p2 a2, ?_⟩
  show Sm 1 1 (mz_nN (cf_408_0 v1 (mz_nN (cf_17_0 A false).1 232)) 342) (cf_17_0 A false).2 (mz_nN (cf_408_0 v1 (mz_nN (cf_17_0 A false).1 232)) 342)
  rw [e408, e17b]
  rw [e17] at hB a4 a6 ⊢
  generalize mz_pI (cf_409_0 0 0 1 (stQ v1 K1)).2 232 135 1 = B2 at hB a4 a6 ⊢
  have s1 : Sm 1 1 (cf_414_0 B2) (!false) (cf_414_0 B2) := Sm_one (Or.inl a6) (fun c hc => by
    obtain ⟨y1, y2⟩ := a4.2 c (by omega)
    obtain ⟨x1, x2⟩ := hB.e c (by omega)
    exact ⟨y1.trans x1, y2.trans x2⟩)
  generalize cf_414_0 B2 = K2 at s1 ⊢
  exact Sm_e (fun c hc => ⟨if_neg (by omega), if_neg (by omega)⟩) (fun c _ hc => ⟨if_neg (by omega), if_neg (by omega)⟩) s1
/-- THE LAW, as functions -/
theorem law_ok (hL : L ≤ 449) (N : mz_N) : cp_622_0 L xs N ∧ (cf_622_0 L xs N).1 = true := by
  have c1 : cp_101_0 L xs 0 := by
    refine ⟨fun w => ?_, fun _ => trivial⟩
    have h : 0 < L := (nI_ltI (a := 0) (b := L) (by omega) (by omega)).mp w
    exact ib_n (k := 0) h (by omega)
  obtain ⟨p1, p2, p3⟩ := start_ok (cf_101_0 L xs 0).toInt64 (mz_nN N 0)
  obtain ⟨p4, p5⟩ := law_loop (xs := xs) hL (by omega) (by omega) p3
  exact ⟨⟨c1, p1, c1, p2, p4⟩, p5⟩
end Stc
