/-! PURE (50zzzzl): a space touches few edges. -/
theorem cnt_sur {r : Nat → Bool} {g : Nat → Nat} {m : Nat} : ∀ n (p : Nat → Bool), (∀ i, i < m → p i = true → ∃ j, j < n ∧ r j = true ∧ g j = i) → cnt p m ≤ cnt r n := by
  intro n
  induction n with
  | zero =>
    intro p h
    have : cnt p m = 0 := cnt_non2 m (fun i hi => by
      cases hp : p i with
      | false => rfl
      | true => obtain ⟨j, hj, _⟩ := h i hi hp; omega)
    omega
  | succ n ih =>
    intro p h
    cases hr : r n with
    | false =>
      rw [cnt_sn hr]
      refine ih p (fun i hi hp => ?_)
      obtain ⟨j, h1, h2, h3⟩ := h i hi hp
      refine ⟨j, ?_, h2, h3⟩
      rcases Nat.lt_or_ge j n with w | w
      · exact w
      · have : j = n := by omega
        rw [this, hr] at h2; cases h2
    | true =>
      rw [cnt_s hr]
      have h1 := ih (fun i => if i = g n then false else p i) (fun i hi hp => by
        by_cases w : i = g n
        · rw [if_pos w] at hp; cases hp
        · rw [if_neg w] at hp
          obtain ⟨j, h1, h2, h3⟩ := h i hi hp
          refine ⟨j, ?_, h2, h3⟩
          rcases Nat.lt_or_ge j n with z | z
          · exact z
          · have : j = n := by omega
            rw [this] at h3; exact absurd h3.symm w)
      by_cases w : g n < m ∧ p (g n) = true
      · have h2 := cnt_off (p := p) (q := fun i => if i = g n then false else p i) (k := g n) w.1 w.2 (if_pos rfl) (fun i hi => if_neg hi)
        omega
      · have h2 : cnt p m = cnt (fun i => if i = g n then false else p i) m := cnt_cg (fun i hi => by
          by_cases z : i = g n
          · rw [if_pos z]
            cases hp : p i with
            | false => rfl
            | true => exact absurd ⟨by rw [← z]; exact hi, by rw [← z]; exact hp⟩ w
          · rw [if_neg z])
        omega
theorem cnt_4 {p : Nat → Bool} : ∀ n, cnt (fun j => p (j / 4)) (4 * n) = 4 * cnt p n := by
  intro n
  induction n with
  | zero => rfl
  | succ n ih =>
    have e : 4 * (n + 1) = 4 * n + 1 + 1 + 1 + 1 := by omega
    have d0 : (4 * n) / 4 = n := by omega
    have d1 : (4 * n + 1) / 4 = n := by omega
    have d2 : (4 * n + 1 + 1) / 4 = n := by omega
    have d3 : (4 * n + 1 + 1 + 1) / 4 = n := by omega
    rw [e]
    cases h : p n with
    | true => rw [cnt_s (n := 4 * n + 1 + 1 + 1) (by rw [d3]; exact h), cnt_s (n := 4 * n + 1 + 1) (by rw [d2]; exact h), cnt_s (n := 4 * n + 1) (by rw [d1]; exact h), cnt_s (n := 4 * n) (by rw [d0]; exact h), cnt_s h, ih]; omega
    | false => rw [cnt_sn (n := 4 * n + 1 + 1 + 1) (by rw [d3]; exact h), cnt_sn (n := 4 * n + 1 + 1) (by rw [d2]; exact h), cnt_sn (n := 4 * n + 1) (by rw [d1]; exact h), cnt_sn (n := 4 * n) (by rw [d0]; exact h), cnt_sn h, ih]
theorem cnt_sum {p : Nat → Bool} : ∀ n, cnt p n = sumN (fun i => b1 (p i)) n := by
  intro n
  induction n with
  | zero => rfl
  | succ n ih =>
    show _ = sumN (fun i => b1 (p i)) n + b1 (p n)
    rw [← ih]
    cases h : p n with
    | true => rw [cnt_s h]; rfl
    | false => rw [cnt_sn h]; rfl
theorem sumN_swap (f : Nat → Nat → Nat) : ∀ n m, sumN (fun x => sumN (f x) m) n = sumN (fun y => sumN (fun x => f x y) n) m := by
  intro n
  induction n with
  | zero =>
    intro m
    show 0 = sumN (fun y => 0) m
    induction m with
    | zero => rfl
    | succ m ih => show 0 = sumN (fun y => 0) m + 0; rw [← ih]
  | succ n ih =>
    intro m
    show sumN (fun x => sumN (f x) m) n + sumN (f n) m = sumN (fun y => sumN (fun x => f x y) n + f n y) m
    rw [ih, sumN_add (fun y => sumN (fun x => f x y) n) (f n) m]
theorem sumN_pick (a C n : Nat) : sumN (fun x => if a = x then C else 0) n ≤ C := by
  have h : sumN (fun x => if a = x then C else 0) n = C * sumN (fun x => if a = x then 1 else 0) n := by
    rw [← sumN_mul]
    refine sumN_congr (fun i _ => ?_)
    split <;> omega
  rw [h, sumN_one]
  split
  · omega
  · omega
theorem ge_hit : ∀ j, j < 110 → (ge_sd j < 4 → (if ge_bf j < 48 then ge_bf j else ge_bh j) < 48 ∧ ∃ d, d < 4 ∧ ge_ed (if ge_bf j < 48 then ge_bf j else ge_bh j) d = j) ∧ (ge_sd j = 4 → (ge_bf j < 48 ∧ ∃ d, d < 4 ∧ ge_ed (ge_bf j) d = j) ∧ ge_bh j < 48 ∧ ∃ d, d < 4 ∧ ge_ed (ge_bh j) d = j) := by decide +kernel
section Wt
variable {e : Nat → Nat} {k : Nat}
def tch (e : Nat → Nat) (k i : Nat) : Bool := decide ((ge_sd (i % 110) < 4 ∧ pl_lab e (ge_cl i) = k) ∨ (ge_sd (i % 110) = 4 ∧ (pl_lab e (ge_ca i) = k ∨ pl_lab e (ge_cb i) = k)))
theorem tch_b : cnt (tch e k) 550 ≤ 4 * pl_sz e k := by
  have h := cnt_4 (p := pl_in e k) 240
  unfold pl_sz
  rw [← h]
  refine cnt_sur (g := fun j => 110 * (j / 4 / 48) + ge_ed (j / 4 % 48) (j % 4)) (4 * 240) (tch e k) (fun i hi hp => ?_)
  have hp' := of_decide_eq_true hp
  have hm : i % 110 < 110 := Nat.mod_lt _ (by omega)
  obtain ⟨g1, g2⟩ := ge_hit (i % 110) hm
  have fin : ∀ x d, x < 48 → d < 4 → ge_ed x d = i % 110 → pl_lab e (48 * (i / 110) + x) = k → ∃ j, j < 4 * 240 ∧ pl_in e k (j / 4) = true ∧ 110 * (j / 4 / 48) + ge_ed (j / 4 % 48) (j % 4) = i := fun x d hx hd h1 h2 => by
    refine ⟨4 * (48 * (i / 110) + x) + d, by omega, ?_, ?_⟩
    · rw [show (4 * (48 * (i / 110) + x) + d) / 4 = 48 * (i / 110) + x by omega]; exact pin h2
    · rw [show (4 * (48 * (i / 110) + x) + d) / 4 = 48 * (i / 110) + x by omega, show (48 * (i / 110) + x) / 48 = i / 110 by omega, show (48 * (i / 110) + x) % 48 = x by omega, show (4 * (48 * (i / 110) + x) + d) % 4 = d by omega, h1]
      omega
  rcases hp' with ⟨a, b⟩ | ⟨a, b | b⟩
  · obtain ⟨x1, d, x2, x3⟩ := g1 a
    exact fin _ d x1 x2 x3 b
  · obtain ⟨x1, d, x2, x3⟩ := (g2 a).1
    exact fin _ d x1 x2 x3 b
  · obtain ⟨x1, d, x2, x3⟩ := (g2 a).2
    exact fin _ d x1 x2 x3 b
theorem wg_5 (x : Nat) : wg x ≤ 5 := by unfold wg; split; omega; split <;> omega
theorem we_b (i n : Nat) : sumN (fun x => pl_we e x k i) n ≤ 10 * b1 (tch e k i) := by
  by_cases h4 : ge_sd (i % 110) = 4
  · have h1 : sumN (fun x => pl_we e x k i) n ≤ sumN (fun x => (if pl_lab e (ge_ca i) = x then (if pl_lab e (ge_cb i) = k then 5 else 0) else 0) + (if pl_lab e (ge_cb i) = x then (if pl_lab e (ge_ca i) = k then 5 else 0) else 0)) n := by
      refine sumN_le (fun x _ => ?_)
      unfold pl_we
      have := wg_5 (e i)
      by_cases a1 : pl_lab e (ge_ca i) = x
      · by_cases a2 : pl_lab e (ge_cb i) = k
        · rw [if_pos a1, if_pos a2]; split <;> omega
        · rw [if_pos a1, if_neg a2]
          by_cases b1' : pl_lab e (ge_cb i) = x
          · by_cases b2 : pl_lab e (ge_ca i) = k
            · rw [if_pos b1', if_pos b2]; split <;> omega
            · rw [if_neg (fun z => by rcases z.2 with w | w; exact a2 w.2; exact b2 w.1)]; omega
          · rw [if_neg (fun z => by rcases z.2 with w | w; exact a2 w.2; exact b1' w.2)]; omega
      · rw [if_neg a1]
        by_cases b1' : pl_lab e (ge_cb i) = x
        · by_cases b2 : pl_lab e (ge_ca i) = k
          · rw [if_pos b1', if_pos b2]; split <;> omega
          · rw [if_neg (fun z => by rcases z.2 with w | w; exact a1 w.1; exact b2 w.1)]; omega
        · rw [if_neg (fun z => by rcases z.2 with w | w; exact a1 w.1; exact b1' w.2)]; omega
    rw [sumN_add] at h1
    have p1 := sumN_pick (pl_lab e (ge_ca i)) (if pl_lab e (ge_cb i) = k then 5 else 0) n
    have p2 := sumN_pick (pl_lab e (ge_cb i)) (if pl_lab e (ge_ca i) = k then 5 else 0) n
    by_cases t1 : pl_lab e (ge_ca i) = k ∨ pl_lab e (ge_cb i) = k
    · have : tch e k i = true := decide_eq_true (Or.inr ⟨h4, t1⟩)
      rw [this]
      have q1 : (if pl_lab e (ge_cb i) = k then 5 else 0) ≤ 5 := by split <;> omega
      have q2 : (if pl_lab e (ge_ca i) = k then 5 else 0) ≤ 5 := by split <;> omega
      show _ ≤ 10 * 1
      omega
    · have q1 : (if pl_lab e (ge_cb i) = k then 5 else 0) = 0 := if_neg (fun z => t1 (Or.inr z))
      have q2 : (if pl_lab e (ge_ca i) = k then 5 else 0) = 0 := if_neg (fun z => t1 (Or.inl z))
      rw [q1] at p1 h1
      rw [q2] at p2 h1
      omega
  · have h1 : sumN (fun x => pl_we e x k i) n = 0 := by
      have : sumN (fun x => pl_we e x k i) n ≤ sumN (fun _ => 0) n := sumN_le (fun x _ => by unfold pl_we; rw [if_neg (fun z => h4 z.1)]; exact Nat.le_refl _)
      have h0 := sumN_bd (f := fun _ => 0) (b := 0) (n := n) (fun _ _ => Nat.le_refl _)
      omega
    omega
theorem cep_b : ∀ n, sumN (fun x => cnt (pl_cep e x k) 192) n ≤ 2 * pl_sz e k := by
  intro n
  have h1 : sumN (fun x => cnt (pl_cep e x k) 192) n = sumN (fun c => sumN (fun x => b1 (pl_cep e x k c)) n) 192 := by
    rw [← sumN_swap]
    exact sumN_congr (fun x _ => cnt_sum 192)
  have h2 : sumN (fun c => sumN (fun x => b1 (pl_cep e x k c)) n) 192 ≤ sumN (fun c => b1 (pl_in e k (48 + c)) + b1 (pl_in e k c)) 192 := by
    refine sumN_le (fun c _ => ?_)
    have q : sumN (fun x => b1 (pl_cep e x k c)) n ≤ sumN (fun x => (if pl_lab e c = x then b1 (pl_in e k (48 + c)) else 0) + (if pl_lab e (c + 48) = x then b1 (pl_in e k c) else 0)) n := by
      refine sumN_le (fun x _ => ?_)
      cases hp : pl_cep e x k c with
      | false => exact Nat.zero_le _
      | true =>
        rcases of_decide_eq_true hp with w | w
        · rw [if_pos w.1, pin (by rw [Nat.add_comm]; exact w.2)]; show 1 ≤ 1 + _; omega
        · rw [if_pos w.2, pin w.1]; show 1 ≤ _ + 1; omega
    rw [sumN_add] at q
    have p1 := sumN_pick (pl_lab e c) (b1 (pl_in e k (48 + c))) n
    have p2 := sumN_pick (pl_lab e (c + 48)) (b1 (pl_in e k c)) n
    omega
  rw [sumN_add, ← cnt_sum, ← cnt_sum] at h2
  have h3 : cnt (pl_in e k) 192 ≤ pl_sz e k := cnt_mono (by omega)
  have h4 := cnt_win (p := pl_in e k) 48 192
  unfold pl_sz at h3 ⊢
  rw [show 48 + 192 = 240 from rfl] at h4
  omega
theorem W_b (n : Nat) : sumN (fun x => pl_W e x k) n ≤ 42 * pl_sz e k := by
  have h1 : sumN (fun x => pl_W e x k) n = sumN (fun x => sumN (pl_we e x k) 550) n + sumN (fun x => cnt (pl_cep e x k) 192) n := sumN_add _ _ n
  have h2 : sumN (fun x => sumN (pl_we e x k) 550) n ≤ 10 * cnt (tch e k) 550 := by
    rw [sumN_swap, cnt_sum, ← sumN_mul]
    exact sumN_le (fun i _ => we_b i n)
  have h3 := cep_b (e := e) (k := k) n
  have h4 := tch_b (e := e) (k := k)
  omega
theorem W_sym (a b' : Nat) : pl_W e a b' = pl_W e b' a := by
  unfold pl_W
  have h1 : sumN (pl_we e a b') 550 = sumN (pl_we e b' a) 550 := sumN_congr (fun i _ => by
    unfold pl_we
    have : (ge_sd (i % 110) = 4 ∧ ((pl_lab e (ge_ca i) = a ∧ pl_lab e (ge_cb i) = b') ∨ (pl_lab e (ge_ca i) = b' ∧ pl_lab e (ge_cb i) = a))) ↔ (ge_sd (i % 110) = 4 ∧ ((pl_lab e (ge_ca i) = b' ∧ pl_lab e (ge_cb i) = a) ∨ (pl_lab e (ge_ca i) = a ∧ pl_lab e (ge_cb i) = b'))) := ⟨fun h => ⟨h.1, h.2.symm⟩, fun h => ⟨h.1, h.2.symm⟩⟩
    simp only [this])
  have h2 : cnt (pl_cep e a b') 192 = cnt (pl_cep e b' a) 192 := cnt_cg (fun c _ => by
    unfold pl_cep
    have : ((pl_lab e c = a ∧ pl_lab e (c + 48) = b') ∨ (pl_lab e c = b' ∧ pl_lab e (c + 48) = a)) ↔ ((pl_lab e c = b' ∧ pl_lab e (c + 48) = a) ∨ (pl_lab e c = a ∧ pl_lab e (c + 48) = b')) := ⟨Or.symm, Or.symm⟩
    simp only [this])
  rw [h1, h2]
theorem ls_b : pl_ls e k ≤ 21 * pl_sz e k := by
  have h1 : pl_hv e k ≤ cnt (tch e k) 550 := cnt_imp 550 (fun i _ hp => by
    have := of_decide_eq_true hp
    exact decide_eq_true (Or.inl ⟨this.1, this.2.1⟩))
  have h2 : pl_gl e k ≤ cnt (tch e k) 550 := cnt_imp 550 (fun i _ hp => by
    have := of_decide_eq_true hp
    exact decide_eq_true (Or.inl ⟨this.1, this.2.1⟩))
  have h3 : cnt (pl_tpp e k) 240 ≤ pl_sz e k := cnt_imp 240 (fun i _ hp => by
    have := of_decide_eq_true hp
    exact pin this.2)
  have h4 := tch_b (e := e) (k := k)
  unfold pl_ls
  omega
end Wt
