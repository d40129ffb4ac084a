/-! PURE (3): reading and writing; loops. -/
def mz_sI (N : mz_N) (a : Nat) (f : Nat → Int32) : mz_N := (fun c => if c = a then f else N.1 c, N.2)
def mz_sL (N : mz_N) (a : Nat) (f : Nat → Int64) : mz_N := (N.1, fun c => if c = a then f else N.2 c)
theorem wI_s (N : mz_N) (a : Nat) (i x : Int32) : mz_wI N a i x = mz_sI N a (upd (N.1 a) i.toNatClampNeg x) := rfl
theorem wL_s (N : mz_N) (a : Nat) (i : Int32) (x : Int64) : mz_wL N a i x = mz_sL N a (vp_updL (N.2 a) i.toNatClampNeg x) := rfl
theorem pI_s (N : mz_N) (a k : Nat) (x : Int32) : mz_pI N a k x = mz_sI N a (upd (N.1 a) k x) := rfl
theorem pL_s (N : mz_N) (a k : Nat) (x : Int64) : mz_pL N a k x = mz_sL N a (vp_updL (N.2 a) k x) := rfl
theorem yI_s (N : mz_N) (q : Nat) (sp : Int32) (a : Nat) (dp n : Int32) : mz_yI N q sp a dp n = mz_sI N a (va_cpy (N.1 q) (N.1 a) sp.toNatClampNeg dp.toNatClampNeg n.toNatClampNeg) := rfl
theorem yL_s (N : mz_N) (q : Nat) (sp : Int32) (a : Nat) (dp n : Int32) : mz_yL N q sp a dp n = mz_sL N a (va_cpy (N.2 q) (N.2 a) sp.toNatClampNeg dp.toNatClampNeg n.toNatClampNeg) := rfl
theorem sI_1 (N : mz_N) (a : Nat) (f : Nat → Int32) (c : Nat) : (mz_sI N a f).1 c = if c = a then f else N.1 c := rfl
theorem sI_2 (N : mz_N) (a : Nat) (f : Nat → Int32) : (mz_sI N a f).2 = N.2 := rfl
theorem sL_1 (N : mz_N) (a : Nat) (f : Nat → Int64) : (mz_sL N a f).1 = N.1 := rfl
theorem sL_2 (N : mz_N) (a : Nat) (f : Nat → Int64) (c : Nat) : (mz_sL N a f).2 c = if c = a then f else N.2 c := rfl
theorem sI_e (N : mz_N) (a : Nat) (f : Nat → Int32) : (mz_sI N a f).1 a = f := by rw [sI_1, if_pos rfl]
theorem sL_e (N : mz_N) (a : Nat) (f : Nat → Int64) : (mz_sL N a f).2 a = f := by rw [sL_2, if_pos rfl]
theorem sI_n {N : mz_N} {a c : Nat} {f : Nat → Int32} (h : c ≠ a) : (mz_sI N a f).1 c = N.1 c := by rw [sI_1, if_neg h]
theorem sL_n {N : mz_N} {a c : Nat} {f : Nat → Int64} (h : c ≠ a) : (mz_sL N a f).2 c = N.2 c := by rw [sL_2, if_neg h]
theorem sI_sI (N : mz_N) (a : Nat) (f g : Nat → Int32) : mz_sI (mz_sI N a f) a g = mz_sI N a g := by
  unfold mz_sI
  refine Prod.ext (funext fun c => ?_) rfl
  by_cases h : c = a
  · simp [h]
  · simp [h]
theorem sL_sL (N : mz_N) (a : Nat) (f g : Nat → Int64) : mz_sL (mz_sL N a f) a g = mz_sL N a g := by
  unfold mz_sL
  refine Prod.ext rfl (funext fun c => ?_)
  by_cases h : c = a
  · simp [h]
  · simp [h]
theorem sI_same (N : mz_N) (a : Nat) : mz_sI N a (N.1 a) = N := by
  unfold mz_sI
  refine Prod.ext (funext fun c => ?_) rfl
  by_cases h : c = a
  · simp [h]
  · simp [h]
theorem sL_same (N : mz_N) (a : Nat) : mz_sL N a (N.2 a) = N := by
  unfold mz_sL
  refine Prod.ext rfl (funext fun c => ?_)
  by_cases h : c = a
  · simp [h]
  · simp [h]
theorem up_a (f : Nat → Int32) (k : Nat) (x : Int32) (j : Nat) : upd f k x j = if j = k then x else f j := rfl
theorem upL_a (f : Nat → Int64) (k : Nat) (x : Int64) (j : Nat) : vp_updL f k x j = if j = k then x else f j := rfl
theorem cpy_a {α : Type} (f g : Nat → α) (sp dp n j : Nat) : va_cpy f g sp dp n j = if dp ≤ j ∧ j < dp + n then f (sp + (j - dp)) else g j := rfl
theorem gI_a (N : mz_N) (a : Nat) (i : Int32) : mz_gI N a i = N.1 a i.toNatClampNeg := rfl
theorem gL_a (N : mz_N) (a : Nat) (i : Int32) : mz_gL N a i = N.2 a i.toNatClampNeg := rfl
theorem gZ_a (N : mz_N) (a : Nat) (i : Int32) : mz_gZ N a i = decide (N.1 a i.toNatClampNeg = 1) := rfl
theorem ib_n {k n : Nat} (h : k < n) (hn : n < 2 ^ 31) : mz_ib (nI k) n := nI_in h hn
theorem ib_i {k n : Nat} (hk : k < 2 ^ 31) : mz_ib (nI k) n ↔ k < n := by
  unfold mz_ib
  rw [nI_clamp hk]
  constructor
  · intro h; exact Nat.not_le.mp fun q => h (Or.inr q)
  · intro h q
    rcases q with q | q
    · exact nI_pos hk q
    · omega
theorem ib_of {i : Int32} {n : Nat} (h : mz_ib i n) (hn : n < 2 ^ 31) : ∃ k, k < n ∧ i = nI k := vp_in_of h hn
theorem irem_n {a d : Nat} (ha : a < 2 ^ 31) (h0 : 0 < d) (hd : d < 2 ^ 31) : mz_irem (nI a) (nI d) = nI (a % d) := pk_rem ha h0 hd
theorem nI_o (n : Nat) : Int32.ofNat n = nI n := rfl
theorem nI_lt0 {a : Nat} (ha : a < 2 ^ 31) : nI a < 0 ↔ False := ⟨nI_pos ha, False.elim⟩
theorem nI_m1 {a : Nat} (ha : a < 2 ^ 31) : nI a = -1 ↔ False := by
  constructor
  · intro h
    have h1 := congrArg Int32.toInt h
    rw [nI_toInt ha] at h1
    have h2 : Int32.toInt (-1) = -1 := by decide
    rw [h2] at h1
    omega
  · exact False.elim
theorem nI_gt0 {a : Nat} (ha : a < 2 ^ 31) : 0 < nI a ↔ 0 < a := by rw [← nI_0, nI_ltI (by omega) ha]
theorem nI_eq0 {a : Nat} (ha : a < 2 ^ 31) : nI a = 0 ↔ a = 0 := by rw [← nI_0, nI_eq ha (by omega)]
section Lp
variable {σ τ σ2 τ2 : Type}
theorem mz_ok_run {f : σ → σ ⊕ τ} {P : σ → Prop} [Nonempty τ] : ∀ {n : Nat} {s : σ}, mz_ok f P n s → ∃ k, mz_ps f k s = .inr (mz_run f s) := by
  intro n
  induction n with
  | zero => intro s h; exact h.elim
  | succ n ih =>
    intro s h
    cases hf : f s with
    | inl s2 =>
      obtain ⟨k, hk⟩ := ih (h.2 s2 hf)
      refine ⟨k + 1, ?_⟩
      rw [mz_ps, hf, mz_run_l hf]
      exact hk
    | inr t => exact ⟨1, by rw [mz_ps, hf, mz_run_r hf]⟩
/-- a loop by an invariant and a measure that falls -/
theorem mz_lpm {f : σ → σ ⊕ τ} {P : σ → Prop} {Q : τ → Prop} [Nonempty τ] (J : Nat → σ → Prop) (h : ∀ k s, J k s → P s ∧ ((∃ s2, f s = .inl s2 ∧ ∃ m, m < k ∧ J m s2) ∨ ∃ t, f s = .inr t ∧ Q t)) : ∀ (k : Nat) (s : σ), J k s → (∃ n, mz_ok f P n s) ∧ Q (mz_run f s) := by
  intro k
  induction k using Nat.strongRecOn with
  | ind k ih =>
    intro s hs
    obtain ⟨hP, ⟨s2, e, m, hm, hj⟩ | ⟨t, e, hq⟩⟩ := h k s hs
    · obtain ⟨⟨n, hn⟩, hq⟩ := ih m hm s2 hj
      refine ⟨⟨n + 1, hP, fun s3 e3 => ?_⟩, ?_⟩
      · rw [e] at e3; cases e3; exact hn
      · rw [mz_run_l e]; exact hq
    · refine ⟨⟨1, hP, fun s3 e3 => ?_⟩, ?_⟩
      · rw [e] at e3; cases e3
      · rw [mz_run_r e]; exact hq
/-- a loop that counts up to n -/
theorem mz_lpn {f : σ → σ ⊕ τ} {P : σ → Prop} {Q : τ → Prop} [Nonempty τ] (n : Nat) (J : Nat → σ → Prop) (h : ∀ k s, k < n → J k s → P s ∧ ((∃ s2, f s = .inl s2 ∧ J (k + 1) s2) ∨ ∃ t, f s = .inr t ∧ Q t)) (hx : ∀ s, J n s → P s ∧ ∃ t, f s = .inr t ∧ Q t) {k : Nat} {s : σ} (hk : k ≤ n) (h0 : J k s) : (∃ m, mz_ok f P m s) ∧ Q (mz_run f s) := by
  refine mz_lpm (fun m s => m ≤ n ∧ J (n - m) s) ?_ (n - k) s ⟨by omega, by rw [show n - (n - k) = k by omega]; exact h0⟩
  rintro m s ⟨hm, hj⟩
  by_cases h1 : m = 0
  · subst h1
    obtain ⟨hP, t, e, hq⟩ := hx s hj
    exact ⟨hP, Or.inr ⟨t, e, hq⟩⟩
  · obtain ⟨hP, ⟨s2, e, hj2⟩ | ⟨t, e, hq⟩⟩ := h (n - m) s (by omega) hj
    · exact ⟨hP, Or.inl ⟨s2, e, m - 1, by omega, by omega, by rw [show n - (m - 1) = n - m + 1 by omega]; exact hj2⟩⟩
    · exact ⟨hP, Or.inr ⟨t, e, hq⟩⟩
/-- a loop whose states are known -/
theorem mz_lps {f : σ → σ ⊕ τ} {P : σ → Prop} [Nonempty τ] {t : τ} (n : Nat) (S : Nat → σ) (h : ∀ k, k < n → P (S k) ∧ f (S k) = .inl (S (k + 1))) (hx : P (S n) ∧ f (S n) = .inr t) {k : Nat} (hk : k ≤ n) : (∃ m, mz_ok f P m (S k)) ∧ mz_run f (S k) = t :=
  mz_lpn (Q := fun r => r = t) n (fun k s => s = S k) (fun k s hk e => by subst e; exact ⟨(h k hk).1, Or.inl ⟨_, (h k hk).2, rfl⟩⟩) (fun s e => by subst e; exact ⟨hx.1, _, hx.2, rfl⟩) hk rfl
/-- two loops in step -/
theorem mz_lp2 {f : σ → σ ⊕ τ} {P : σ → Prop} {g : σ2 → σ2 ⊕ τ2} {P2 : σ2 → Prop} {Q : τ → τ2 → Prop} [Nonempty τ] [Nonempty τ2] (J : Nat → σ → σ2 → Prop) (h : ∀ k s s2, J k s s2 → P s ∧ P2 s2 ∧ ((∃ a b, f s = .inl a ∧ g s2 = .inl b ∧ ∃ m, m < k ∧ J m a b) ∨ ∃ a b, f s = .inr a ∧ g s2 = .inr b ∧ Q a b)) : ∀ (k : Nat) (s : σ) (s2 : σ2), J k s s2 → (∃ n, mz_ok f P n s) ∧ (∃ n, mz_ok g P2 n s2) ∧ Q (mz_run f s) (mz_run g s2) := by
  intro k
  induction k using Nat.strongRecOn with
  | ind k ih =>
    intro s s2 hs
    obtain ⟨hP, hP2, ⟨a, b, e1, e2, m, hm, hj⟩ | ⟨a, b, e1, e2, hq⟩⟩ := h k s s2 hs
    · obtain ⟨⟨n, hn⟩, ⟨n2, hn2⟩, hq⟩ := ih m hm a b hj
      refine ⟨⟨n + 1, hP, fun s3 e3 => ?_⟩, ⟨n2 + 1, hP2, fun s3 e3 => ?_⟩, ?_⟩
      · rw [e1] at e3; cases e3; exact hn
      · rw [e2] at e3; cases e3; exact hn2
      · rw [mz_run_l e1, mz_run_l e2]; exact hq
    · refine ⟨⟨1, hP, fun s3 e3 => ?_⟩, ⟨1, hP2, fun s3 e3 => ?_⟩, ?_⟩
      · rw [e1] at e3; cases e3
      · rw [e2] at e3; cases e3
      · rw [mz_run_r e1, mz_run_r e2]; exact hq
theorem mz_lp2n {f : σ → σ ⊕ τ} {P : σ → Prop} {g : σ2 → σ2 ⊕ τ2} {P2 : σ2 → Prop} {Q : τ → τ2 → Prop} [Nonempty τ] [Nonempty τ2] (n : Nat) (J : Nat → σ → σ2 → Prop) (h : ∀ k s s2, k < n → J k s s2 → P s ∧ P2 s2 ∧ ((∃ a b, f s = .inl a ∧ g s2 = .inl b ∧ J (k + 1) a b) ∨ ∃ a b, f s = .inr a ∧ g s2 = .inr b ∧ Q a b)) (hx : ∀ s s2, J n s s2 → P s ∧ P2 s2 ∧ ∃ a b, f s = .inr a ∧ g s2 = .inr b ∧ Q a b) {k : Nat} {s : σ} {s2 : σ2} (hk : k ≤ n) (h0 : J k s s2) : (∃ m, mz_ok f P m s) ∧ (∃ m, mz_ok g P2 m s2) ∧ Q (mz_run f s) (mz_run g s2) := by
  refine mz_lp2 (fun m s s2 => m ≤ n ∧ J (n - m) s s2) ?_ (n - k) s s2 ⟨by omega, by rw [show n - (n - k) = k by omega]; exact h0⟩
  rintro m s s2 ⟨hm, hj⟩
  by_cases h1 : m = 0
  · subst h1
    obtain ⟨hP, hP2, a, b, e1, e2, hq⟩ := hx s s2 hj
    exact ⟨hP, hP2, Or.inr ⟨a, b, e1, e2, hq⟩⟩
  · obtain ⟨hP, hP2, ⟨a, b, e1, e2, hj2⟩ | ⟨a, b, e1, e2, hq⟩⟩ := h (n - m) s s2 (by omega) hj
    · exact ⟨hP, hP2, Or.inl ⟨a, b, e1, e2, m - 1, by omega, by omega, by rw [show n - (m - 1) = n - m + 1 by omega]; exact hj2⟩⟩
    · exact ⟨hP, hP2, Or.inr ⟨a, b, e1, e2, hq⟩⟩
end Lp
