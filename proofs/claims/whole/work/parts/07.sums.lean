/-! PURE (7): sums; what a plan's edges say of its spaces. -/
def sumN (f : Nat → Nat) : Nat → Nat
  | 0 => 0
  | n + 1 => sumN f n + f n
def sL (f : Nat → Int64) : Nat → Int64
  | 0 => 0
  | n + 1 => sL f n + f n
theorem sumN_congr {f g : Nat → Nat} : ∀ {n : Nat}, (∀ i, i < n → f i = g i) → sumN f n = sumN g n := by
  intro n
  induction n with
  | zero => intro _; rfl
  | succ n ih => intro h; rw [sumN, sumN, ih (fun i hi => h i (by omega)), h n (by omega)]
theorem sL_congr {f g : Nat → Int64} : ∀ {n : Nat}, (∀ i, i < n → f i = g i) → sL f n = sL g n := by
  intro n
  induction n with
  | zero => intro _; rfl
  | succ n ih => intro h; rw [sL, sL, ih (fun i hi => h i (by omega)), h n (by omega)]
theorem sL_zero : ∀ n, sL (fun _ => 0) n = 0 := by
  intro n
  induction n with
  | zero => rfl
  | succ n ih => rw [sL, ih]; rfl
theorem sL_add (f g : Nat → Int64) : ∀ n, sL (fun i => f i + g i) n = sL f n + sL g n := by
  intro n
  induction n with
  | zero => rfl
  | succ n ih => rw [sL, sL, sL, ih]; ac_rfl
theorem sumN_add (f g : Nat → Nat) : ∀ n, sumN (fun i => f i + g i) n = sumN f n + sumN g n := by
  intro n
  induction n with
  | zero => rfl
  | succ n ih => rw [sumN, sumN, sumN, ih]; omega
theorem sumN_mono {f : Nat → Nat} {m : Nat} : ∀ {n : Nat}, m ≤ n → sumN f m ≤ sumN f n := by
  intro n
  induction n with
  | zero => intro h; have : m = 0 := by omega
            subst this; exact Nat.le_refl _
  | succ n ih =>
    intro h
    by_cases e : m = n + 1
    · subst e; exact Nat.le_refl _
    · have := ih (by omega); rw [sumN]; omega
theorem sumN_le {f g : Nat → Nat} : ∀ {n : Nat}, (∀ i, i < n → f i ≤ g i) → sumN f n ≤ sumN g n := by
  intro n
  induction n with
  | zero => intro _; exact Nat.le_refl _
  | succ n ih => intro h; have := ih (fun i hi => h i (by omega)); have := h n (by omega); rw [sumN, sumN]; omega
theorem sumN_one {k : Nat} : ∀ {n : Nat}, sumN (fun i => if k = i then 1 else 0) n = if k < n then 1 else 0 := by
  intro n
  induction n with
  | zero => rfl
  | succ n ih =>
    rw [sumN, ih]
    split <;> split <;> split <;> omega
/-- each of the first m has one label -/
theorem cnt_part {lab : Nat → Nat} {n : Nat} : ∀ {m : Nat}, (∀ c, c < m → lab c < n) → sumN (fun k => cnt (fun c => decide (lab c = k)) m) n = m := by
  intro m
  induction m with
  | zero =>
    intro _
    induction n with
    | zero => rfl
    | succ n ih => rw [sumN, ih (fun c hc => absurd hc (Nat.not_lt_zero _))]; rfl
  | succ m ih =>
    intro h
    have e : (fun k => cnt (fun c => decide (lab c = k)) (m + 1)) = fun k => cnt (fun c => decide (lab c = k)) m + (if lab m = k then 1 else 0) := by
      funext k
      rw [cnt]
      by_cases z : lab m = k <;> simp [z]
    rw [e, sumN_add, ih (fun c hc => h c (by omega)), sumN_one, if_pos (h m (by omega))]
theorem cnt_mono {p : Nat → Bool} {m : Nat} : ∀ {n : Nat}, m ≤ n → cnt p m ≤ cnt p n := by
  intro n
  induction n with
  | zero => intro h; have : m = 0 := by omega
            subst this; exact Nat.le_refl _
  | succ n ih =>
    intro h
    by_cases e : m = n + 1
    · subst e; exact Nat.le_refl _
    · have := ih (by omega); rw [cnt]; omega
theorem cnt_s {p : Nat → Bool} {n : Nat} (h : p n = true) : cnt p (n + 1) = cnt p n + 1 := by rw [cnt, h]; rfl
theorem cnt_sn {p : Nat → Bool} {n : Nat} (h : p n = false) : cnt p (n + 1) = cnt p n := by rw [cnt, h]; rfl
theorem cnt_lt {p : Nat → Bool} {m n : Nat} (h : m < n) (hp : p m = true) : cnt p m < cnt p n := by
  have h1 := cnt_s hp
  have h2 := cnt_mono (p := p) (show m + 1 ≤ n by omega)
  omega
theorem lst_le (p : Nat → Bool) : ∀ n, lst p n ≤ n := by
  intro n
  induction n with
  | zero => exact Nat.le_refl _
  | succ n ih => rw [lst]; split
                 · omega
                 · split <;> omega
theorem lst_iff (p : Nat → Bool) : ∀ n, lst p n < n ↔ 0 < cnt p n := by
  intro n
  induction n with
  | zero => exact ⟨fun h => absurd h (Nat.lt_irrefl _), fun h => absurd h (Nat.lt_irrefl _)⟩
  | succ n ih =>
    rw [lst, cnt]
    by_cases h : lst p n < n
    · rw [if_pos h]; have := ih.mp h; constructor <;> intro _ <;> omega
    · rw [if_neg h]
      have h0 : cnt p n = 0 := by
        rcases Nat.eq_zero_or_pos (cnt p n) with z | z
        · exact z
        · exact absurd (ih.mpr z) h
      rw [h0]
      cases p n <;> simp
theorem lst_stay {p : Nat → Bool} {n : Nat} (h : 0 < cnt p n) : lst p (n + 1) = lst p n := by rw [lst, if_pos ((lst_iff p n).mpr h)]
theorem lst_new {p : Nat → Bool} {n : Nat} (h : cnt p n = 0) (hp : p n = true) : lst p (n + 1) = n := by
  rw [lst, if_neg (fun z => by have := (lst_iff p n).mp z; omega), hp]; rfl
theorem lst_p {p : Nat → Bool} : ∀ {n : Nat}, 0 < cnt p n → p (lst p n) = true := by
  intro n
  induction n with
  | zero => intro h; exact absurd h (Nat.lt_irrefl _)
  | succ n ih =>
    intro h
    by_cases z : 0 < cnt p n
    · rw [lst_stay z]; exact ih z
    · rw [cnt] at h
      have hp : p n = true := by
        cases e : p n with
        | true => rfl
        | false => rw [e] at h; exact absurd h z
      rw [lst_new (by omega) hp]; exact hp
/-- cells of a space, one behind another -/
theorem sL_list {p : Nat → Bool} {g : Nat → Nat} {a : Nat → Int64} {m : Nat} (h : ∀ c, c < m → p c = true → g (cnt p c) = c) : ∀ {t : Nat}, t ≤ m → sL (fun i => a (g i)) (cnt p t) = sL (fun c => if p c = true then a c else 0) t := by
  intro t
  induction t with
  | zero => intro _; rfl
  | succ t ih =>
    intro ht
    rw [sL]
    by_cases hp : p t = true
    · rw [cnt_s hp, sL, ih (by omega), h t (by omega) hp, if_pos hp]
    · rw [cnt_sn (by simpa using hp), ih (by omega), if_neg hp]
      exact (Int64.add_zero _).symm
/-! a plan: the kinds of its edges -/
def pl_w (e : Nat → Nat) (i : Nat) : Bool := decide (e i = 0)
def pl_lab (e : Nat → Nat) : Nat → Nat := (dv (pl_w e) 240).1
def pl_n (e : Nat → Nat) : Nat := (dv (pl_w e) 240).2
def pl_in (e : Nat → Nat) (k c : Nat) : Bool := decide (pl_lab e c = k)
def pl_lc (e : Nat → Nat) (k : Nat) : Nat := lst (pl_in e k) 240
def pl_sz (e : Nat → Nat) (k : Nat) : Nat := cnt (pl_in e k) 240
def pl_st (e : Nat → Nat) (k : Nat) : Nat := sumN (pl_sz e) k
def pl_ps (e : Nat → Nat) (c : Nat) : Nat := pl_st e (pl_lab e c) + cnt (pl_in e (pl_lab e c)) c
theorem pl_lab_lt {e : Nat → Nat} {c : Nat} (hc : c < 240) : pl_lab e c < pl_n e := (dv_ok (pl_w e) 240 (Nat.le_refl _)).2.2.1 c hc
theorem pl_n_le (e : Nat → Nat) : pl_n e ≤ 240 := (dv_ok (pl_w e) 240 (Nat.le_refl _)).1
theorem pl_open {e : Nat → Nat} {s c d : Nat} (hs : s < 5) (hc : c < 48) (hd : d < 4) (h : ge_nb c d < 48) (h0 : e (110 * s + ge_ed c d) = 0) : pl_lab e (48 * s + ge_nb c d) = pl_lab e (48 * s + c) := by
  have hI := dv_ok (pl_w e) 240 (Nat.le_refl _)
  have hl := hI.2.2.1 (48 * s + c) (by omega)
  have := hI.1
  exact hI.2.2.2.1 s hs c hc d hd h (by simpa [pl_w] using h0) (by omega)
theorem pl_storey {e : Nat → Nat} {c c' : Nat} (hc : c < 240) (h : pl_lab e c' = pl_lab e c) : c' / 48 = c / 48 := by
  have hI := dv_ok (pl_w e) 240 (Nat.le_refl _)
  have hl := hI.2.2.1 c hc
  have := hI.1
  exact hI.2.2.2.2.1 c c' (by omega) h
theorem pl_some {e : Nat → Nat} {k : Nat} (hk : k < pl_n e) : 0 < pl_sz e k := by
  obtain ⟨c, hc, h⟩ := (dv_ok (pl_w e) 240 (Nat.le_refl _)).2.2.2.2.2 k hk
  exact cnt_pos hc (decide_eq_true (p := pl_lab e c = k) h)
theorem pl_lc_ok {e : Nat → Nat} {k : Nat} (hk : k < pl_n e) : pl_lc e k < 240 ∧ pl_lab e (pl_lc e k) = k := by
  have h := pl_some hk
  have h1 := (lst_iff (pl_in e k) 240).mpr h
  have h2 := lst_p (n := 240) h
  exact ⟨h1, of_decide_eq_true h2⟩
theorem pl_all (e : Nat → Nat) : sumN (pl_sz e) (pl_n e) = 240 := cnt_part (lab := pl_lab e) (fun _ hc => pl_lab_lt hc)
theorem pl_st_le {e : Nat → Nat} {k : Nat} (hk : k ≤ pl_n e) : pl_st e k ≤ 240 := by
  have := sumN_mono (f := pl_sz e) hk
  rw [pl_all] at this
  exact this
theorem pl_sz_le {e : Nat → Nat} {k : Nat} (hk : k < pl_n e) : pl_st e k + pl_sz e k ≤ 240 := pl_st_le (k := k + 1) hk
theorem pl_ps_lt {e : Nat → Nat} {c : Nat} (hc : c < 240) : pl_ps e c < pl_st e (pl_lab e c) + pl_sz e (pl_lab e c) := by
  have := cnt_lt (p := pl_in e (pl_lab e c)) hc (by simp [pl_in])
  unfold pl_ps pl_sz
  omega
theorem pl_ps_inj {e : Nat → Nat} {c c' : Nat} (h : c < c') (hc : c' < 240) : pl_ps e c ≠ pl_ps e c' := by
  by_cases hl : pl_lab e c = pl_lab e c'
  · have := cnt_lt (p := pl_in e (pl_lab e c)) h (by simp [pl_in])
    unfold pl_ps
    rw [← hl]; omega
  · have h1 := pl_ps_lt (e := e) (c := c) (by omega)
    have h2 := pl_ps_lt (e := e) hc
    have h3 : pl_st e (pl_lab e c) ≤ pl_ps e c := Nat.le_add_right _ _
    have h4 : pl_st e (pl_lab e c') ≤ pl_ps e c' := Nat.le_add_right _ _
    rcases Nat.lt_or_gt_of_ne hl with z | z
    · have := sumN_mono (f := pl_sz e) (show pl_lab e c + 1 ≤ pl_lab e c' by omega)
      rw [sumN] at this
      unfold pl_st at *
      omega
    · have := sumN_mono (f := pl_sz e) (show pl_lab e c' + 1 ≤ pl_lab e c by omega)
      rw [sumN] at this
      unfold pl_st at *
      omega
/-! which cells a change leaves alone -/
def fr (A : List Nat) (N M : mz_N) : Prop := (∀ c, A.contains c = false → M.1 c = N.1 c) ∧ M.2 = N.2
theorem fr_refl (A : List Nat) (N : mz_N) : fr A N N := ⟨fun _ _ => rfl, rfl⟩
theorem fr_trans {A : List Nat} {N M K : mz_N} (h1 : fr A N M) (h2 : fr A M K) : fr A N K := ⟨fun c hc => (h2.1 c hc).trans (h1.1 c hc), h2.2.trans h1.2⟩
theorem fr_sI {A : List Nat} {N M : mz_N} {a : Nat} {f : Nat → Int32} (h : fr A N M) (ha : A.contains a = true) : fr A N (mz_sI M a f) := by
  refine ⟨fun c hc => ?_, h.2⟩
  rw [sI_n (fun z => by rw [z, ha] at hc; cases hc)]
  exact h.1 c hc
theorem fr_wI {A : List Nat} {N M : mz_N} {a : Nat} {i x : Int32} (h : fr A N M) (ha : A.contains a = true) : fr A N (mz_wI M a i x) := fr_sI h ha
theorem fr_pI {A : List Nat} {N M : mz_N} {a k : Nat} {x : Int32} (h : fr A N M) (ha : A.contains a = true) : fr A N (mz_pI M a k x) := fr_sI h ha
theorem fr_sub {A B : List Nat} {N M : mz_N} (h : fr A N M) (hs : A.all (fun c => B.contains c) = true) : fr B N M := by
  refine ⟨fun c hc => h.1 c ?_, h.2⟩
  rw [List.all_eq_true] at hs
  cases e : A.contains c with
  | false => rfl
  | true =>
    have := hs c (by simpa using e)
    rw [hc] at this; cases this
