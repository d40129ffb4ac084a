/-! PURE (1): the ints and longs of the cells; what the instructions do to them; loops. Nothing of the machine. -/
def mz_fk1 : List Int32 := [0, 5, 10, 20, 22, 26, 34, 36, 46, 47, 48, 51, 67, 87, 127, 135]
def mz_su1 : List Int32 := [0, 498536548, 997073096, 651767980, 1994146192, 1802195444, 1303535960, 1342533948, -306674912, -267414716, -690576408, -882789492, -1687895376, -2032938284, -1609899400, -1111625188]
def mz_ib (i : Int32) (n : Nat) : Prop := ¬ (i < 0 ∨ n ≤ i.toNatClampNeg)
theorem mz_ib_lt {i : Int32} {n : Nat} (h : mz_ib i n) : i.toNatClampNeg < n := Nat.not_le.mp fun q => h (Or.inr q)
theorem mz_ibd {i : Int32} {n : Nat} (h : decide (¬ (i < 0 ∨ n ≤ i.toNatClampNeg)) = true) : mz_ib i n := (of_decide_eq_true h : ¬ (i < 0 ∨ n ≤ i.toNatClampNeg))
def mz_lv (b : Bool) : Nat := cond b 48 43
def mz_ot (b : Bool) : Nat := cond b 43 48
abbrev mz_N : Type := (Nat → Nat → Int32) × (Nat → Nat → Int64)
def mz_b01 (z : Bool) : Int32 := cond z 1 0
def mz_z01 (v : Int32) : Prop := v = 0 ∨ v = 1
def mz_gI (N : mz_N) (a : Nat) (i : Int32) : Int32 := N.1 a i.toNatClampNeg
def mz_gL (N : mz_N) (a : Nat) (i : Int32) : Int64 := N.2 a i.toNatClampNeg
def mz_gZ (N : mz_N) (a : Nat) (i : Int32) : Bool := decide (N.1 a i.toNatClampNeg = 1)
def mz_fZ (N : mz_N) (a k : Nat) : Bool := decide (N.1 a k = 1)
def mz_wI (N : mz_N) (a : Nat) (i x : Int32) : mz_N := (fun c => if c = a then upd (N.1 a) i.toNatClampNeg x else N.1 c, N.2)
def mz_wL (N : mz_N) (a : Nat) (i : Int32) (x : Int64) : mz_N := (N.1, fun c => if c = a then vp_updL (N.2 a) i.toNatClampNeg x else N.2 c)
def mz_pI (N : mz_N) (a k : Nat) (x : Int32) : mz_N := (fun c => if c = a then upd (N.1 a) k x else N.1 c, N.2)
def mz_pL (N : mz_N) (a k : Nat) (x : Int64) : mz_N := (N.1, fun c => if c = a then vp_updL (N.2 a) k x else N.2 c)
def mz_yI (N : mz_N) (q : Nat) (sp : Int32) (a : Nat) (dp n : Int32) : mz_N := (fun c => if c = a then va_cpy (N.1 q) (N.1 a) sp.toNatClampNeg dp.toNatClampNeg n.toNatClampNeg else N.1 c, N.2)
def mz_yL (N : mz_N) (q : Nat) (sp : Int32) (a : Nat) (dp n : Int32) : mz_N := (N.1, fun c => if c = a then va_cpy (N.2 q) (N.2 a) sp.toNatClampNeg dp.toNatClampNeg n.toNatClampNeg else N.2 c)
def mz_cpk (sp dp n : Int32) (n0 n1 : Nat) : Prop := ¬ sp < 0 ∧ ¬ dp < 0 ∧ ¬ n < 0 ∧ sp.toNatClampNeg + n.toNatClampNeg ≤ n0 ∧ dp.toNatClampNeg + n.toNatClampNeg ≤ n1
theorem mz_cpd {sp dp n : Int32} {n0 n1 : Nat} (h : decide (¬ sp < 0 ∧ ¬ dp < 0 ∧ ¬ n < 0 ∧ sp.toNatClampNeg + n.toNatClampNeg ≤ n0 ∧ dp.toNatClampNeg + n.toNatClampNeg ≤ n1) = true) : mz_cpk sp dp n n0 n1 := (of_decide_eq_true h : ¬ sp < 0 ∧ ¬ dp < 0 ∧ ¬ n < 0 ∧ sp.toNatClampNeg + n.toNatClampNeg ≤ n0 ∧ dp.toNatClampNeg + n.toNatClampNeg ≤ n1)
def mz_irem (x y : Int32) : Int32 := x - x / y * y
def mz_lrem (x y : Int64) : Int64 := x - x / y * y
def mz_ishl (x y : Int32) : Int32 := x <<< (y &&& 31)
def mz_ishr (x y : Int32) : Int32 := x >>> (y &&& 31)
def mz_iushr (x y : Int32) : Int32 := (x.toUInt32 >>> (y.toUInt32 &&& Int32.toUInt32 31)).toInt32
def mz_lshl (x : Int64) (y : Int32) : Int64 := x <<< (y.toInt64 &&& 63)
def mz_lshr (x : Int64) (y : Int32) : Int64 := x >>> (y.toInt64 &&& 63)
def mz_lushr (x : Int64) (y : Int32) : Int64 := (x.toUInt64 >>> (y.toInt64.toUInt64 &&& Int64.toUInt64 63)).toInt64
def mz_i2b (x : Int32) : Int32 := x.toInt8.toInt32
def mz_i2s (x : Int32) : Int32 := x.toInt16.toInt32
def mz_i2c (x : Int32) : Int32 := (x.toUInt32 % 65536).toInt32
def mz_nb (x : Int32) : Int32 := vp_nar .byte x
def mz_nz (x : Int32) : Int32 := vp_nar .boolean x
def mz_imin (x y : Int32) : Int32 := if y < x then y else x
def mz_imax (x y : Int32) : Int32 := if x < y then y else x
def mz_iabs (x : Int32) : Int32 := if 0 ≤ x then x else 0 - x
def mz_lmin (x y : Int64) : Int64 := if y < x then y else x
def mz_lmax (x y : Int64) : Int64 := if y < x then x else y
def mz_xk (i : Int32) : Int32 := mz_fk1.getD i.toNatClampNeg 0
def mz_xs (i : Int32) : Int32 := mz_su1.getD i.toNatClampNeg 0
/-- where a code stands first -/
def mz_ix (c : Int32) : List Nat → Int32 → Int32
  | [], _ => -1
  | x :: r, i => if c = Int32.ofNat x then i else mz_ix c r (i + 1)
section Fl0
variable {σ τ : Type}
def mz_ps (f : σ → σ ⊕ τ) : Nat → σ → σ ⊕ τ
  | 0, s => .inl s
  | n + 1, s => match f s with
    | .inl s2 => mz_ps f n s2
    | .inr t => .inr t
/-- where a loop's passes come to -/
noncomputable def mz_run [Nonempty τ] (f : σ → σ ⊕ τ) (s : σ) : τ := Classical.epsilon (fun t => ∃ n, mz_ps f n s = .inr t)
theorem mz_ps_mono {f : σ → σ ⊕ τ} {t : τ} : ∀ {n m : Nat} {s : σ}, mz_ps f n s = .inr t → n ≤ m → mz_ps f m s = .inr t := by
  intro n
  induction n with
  | zero => intro m s h; cases h
  | succ n ih =>
    intro m s h hm
    cases m with
    | zero => omega
    | succ m =>
      rw [mz_ps] at h ⊢
      cases hf : f s with
      | inl s2 => rw [hf] at h; exact ih h (by omega)
      | inr t2 => rw [hf] at h; exact h
theorem mz_run_of [Nonempty τ] {f : σ → σ ⊕ τ} {t : τ} {n : Nat} {s : σ} (h : mz_ps f n s = .inr t) : mz_run f s = t := by
  have h1 : ∃ n, mz_ps f n s = .inr (mz_run f s) := Classical.epsilon_spec (p := fun t => ∃ n, mz_ps f n s = .inr t) ⟨t, n, h⟩
  obtain ⟨m, hm⟩ := h1
  have h2 := mz_ps_mono h (Nat.le_max_left n m)
  have h3 := mz_ps_mono hm (Nat.le_max_right n m)
  exact Sum.inr.inj (h3.symm.trans h2)
theorem mz_run_r [Nonempty τ] {f : σ → σ ⊕ τ} {t : τ} {s : σ} (h : f s = .inr t) : mz_run f s = t := mz_run_of (n := 1) (by rw [mz_ps, h])
theorem mz_run_l [Nonempty τ] {f : σ → σ ⊕ τ} {s s2 : σ} (h : f s = .inl s2) : mz_run f s = mz_run f s2 := by
  unfold mz_run
  congr 1
  funext t
  apply propext
  constructor
  · rintro ⟨n, hn⟩
    cases n with
    | zero => cases hn
    | succ n => rw [mz_ps, h] at hn; exact ⟨n, hn⟩
  · rintro ⟨n, hn⟩
    exact ⟨n + 1, by rw [mz_ps, h]; exact hn⟩
def mz_ok (f : σ → σ ⊕ τ) (P : σ → Prop) : Nat → σ → Prop
  | 0, _ => False
  | n + 1, s => P s ∧ ∀ s2, f s = .inl s2 → mz_ok f P n s2
end Fl0
/-- a new cell; new cells from here on -/
def mz_nN (N : mz_N) (a : Nat) : mz_N := (fun c => if c = a then (fun _ => 0) else N.1 c, fun c => if c = a then (fun _ => 0) else N.2 c)
def mz_nNN (N : mz_N) (a : Nat) : mz_N := (fun c => if a ≤ c then (fun _ => 0) else N.1 c, fun c => if a ≤ c then (fun _ => 0) else N.2 c)
