/-! PURE (50zx): what a program does; whole numbers in ints and longs. -/
def iI (v : Int) : Int32 := Int32.ofInt v
def iL (v : Int) : Int64 := Int64.ofInt v
/-- within a thousand millions -/
def bn (v : Int) : Prop := -1000000000 ≤ v ∧ v ≤ 1000000000
def lim (v : Int) : Int := if 1000000000 < v then 1000000000 else if v < -1000000000 then -1000000000 else v
def tlv (g : Nat) (v : Int) : Int := if g < 10 then (if v < 50 then 50 else if 300 < v then 300 else v) else if g = 13 then (if v < 0 then 0 else if 9 < v then 9 else v) else if v = 0 then 0 else 1
def binv (c : Nat) (a b : Int) : Int := if c = 42 then lim (a * b) else if c = 43 then lim (a + b) else if c = 45 then lim (a - b) else if c = 60 then (if a < b then 1 else 0) else if b < a then 1 else 0
/-- a step over the values (the upper first) and the names -/
def ex1 (x : Nat × Nat) (st : List Int × (Nat → Int)) : List Int × (Nat → Int) :=
  if x.1 = 0 then ((x.2 : Int) :: st.1, st.2)
  else if x.1 = 1 then (st.2 x.2 :: st.1, st.2)
  else if x.1 = 2 then (st.1.tail, up st.2 x.2 (tlv x.2 (st.1.headD 0)))
  else if x.1 = 3 then (-(st.1.headD 0) :: st.1.tail, st.2)
  else if x.1 = 63 then ((if st.1.tail.tail.headD 0 = 0 then st.1.headD 0 else st.1.tail.headD 0) :: st.1.tail.tail.tail, st.2)
  else (binv x.1 (st.1.tail.headD 0) (st.1.headD 0) :: st.1.tail.tail, st.2)
def exs : List (Nat × Nat) → (Nat → Int) → List Int × (Nat → Int)
  | [], T => ([], T)
  | x :: S, T => ex1 x (exs S T)
def sti (g : Nat → Int32) : List Int → Prop
  | [] => True
  | v :: s => g s.length = iI v ∧ sti g s
def stj (g : Nat → Int64) : List Int → Prop
  | [] => True
  | v :: s => g s.length = iL v ∧ stj g s
/-- the first i steps -/
def sf (S : List (Nat × Nat)) (i : Nat) : List (Nat × Nat) := S.drop (S.length - i)
section Exe
variable {v w a b : Int} {S : List (Nat × Nat)} {A B C : Nat → Int32} {g : Nat → Int32} {h : Nat → Int64} {s : List Int}
theorem iI_t (h : -2147483648 ≤ v ∧ v ≤ 2147483647) : (iI v).toInt = v := Int32.toInt_ofInt_of_le (by omega) (by omega)
theorem iL_t (h : -9223372036854775808 ≤ v ∧ v ≤ 9223372036854775807) : (iL v).toInt = v := Int64.toInt_ofInt_of_le (by omega) (by omega)
theorem iI_L (h : -2147483648 ≤ v ∧ v ≤ 2147483647) : (iI v).toInt64 = iL v := by
  apply Int64.toInt_inj.mp
  rw [Int32.toInt_toInt64, iI_t h, iL_t (by omega)]
theorem iL_I : (iL v).toInt32 = iI v := Int64.toInt32_ofInt
theorem iI_n (n : Nat) : nI n = iI (n : Int) := Int32.ofInt_eq_ofNat.symm
theorem iL_n (n : Nat) : lN n = iL (n : Int) := Int64.ofInt_eq_ofNat.symm
theorem iI_lt (ha : -2147483648 ≤ a ∧ a ≤ 2147483647) (hb : -2147483648 ≤ b ∧ b ≤ 2147483647) : iI a < iI b ↔ a < b := by rw [Int32.lt_iff_toInt_lt, iI_t ha, iI_t hb]
theorem iI_eq (ha : -2147483648 ≤ a ∧ a ≤ 2147483647) (hb : -2147483648 ≤ b ∧ b ≤ 2147483647) : iI a = iI b ↔ a = b := by rw [← Int32.toInt_inj, iI_t ha, iI_t hb]
theorem iL_lt (ha : -9223372036854775808 ≤ a ∧ a ≤ 9223372036854775807) (hb : -9223372036854775808 ≤ b ∧ b ≤ 9223372036854775807) : iL a < iL b ↔ a < b := by rw [Int64.lt_iff_toInt_lt, iL_t ha, iL_t hb]
theorem iL_eq (ha : -9223372036854775808 ≤ a ∧ a ≤ 9223372036854775807) (hb : -9223372036854775808 ≤ b ∧ b ≤ 9223372036854775807) : iL a = iL b ↔ a = b := by rw [← Int64.toInt_inj, iL_t ha, iL_t hb]
theorem iL_mul : iL a * iL b = iL (a * b) := (Int64.ofInt_mul a b).symm
theorem iL_add : iL a + iL b = iL (a + b) := (Int64.ofInt_add a b).symm
theorem iL_sub : iL a - iL b = iL (a - b) := (Int64.ofInt_sub a b).symm
theorem iL_neg : -iL a = iL (-a) := (Int64.ofInt_neg a).symm
theorem iI_neg : -iI a = iI (-a) := (Int32.ofInt_neg a).symm
theorem lim_bn (v : Int) : bn (lim v) := by
  unfold lim bn
  split
  · omega
  · split <;> omega
theorem lim_id (h : bn v) : lim v = v := by
  unfold bn at h
  unfold lim
  rw [if_neg (by omega), if_neg (by omega)]
theorem fit_r (h : -9223372036854775808 ≤ v ∧ v ≤ 9223372036854775807) : cf_515_0 (iL v) = iL (lim v) := by
  rw [cf_515_0]
  unfold lim
  rw [show (1000000000 : Int64) = iL 1000000000 from rfl, iL_neg]
  by_cases w1 : 1000000000 < v
  · rw [if_pos ((iL_lt (by omega) h).mpr w1), if_pos w1]
  · rw [if_neg (fun q => w1 ((iL_lt (by omega) h).mp q)), if_neg w1]
    by_cases w2 : v < -1000000000
    · rw [if_pos ((iL_lt h (by omega)).mpr w2), if_pos w2]
    · rw [if_neg (fun q => w2 ((iL_lt h (by omega)).mp q)), if_neg w2]
theorem lim_c (h : -9223372036854775808 ≤ v ∧ v ≤ 9223372036854775807) : cf_218_0 (iL v) = iI (lim v) := by
  rw [cf_218_0]
  unfold lim mz_lmax mz_lmin
  rw [show (1000000000 : Int64) = iL 1000000000 from rfl, iL_neg]
  by_cases w1 : 1000000000 < v
  · rw [if_neg (show ¬ iL v < iL 1000000000 from fun q => by have := (iL_lt h (by omega)).mp q; omega), if_neg (show ¬ iL 1000000000 < iL (-1000000000) by decide), if_pos w1, iL_I]
  · rw [if_neg w1]
    by_cases w0 : v < 1000000000
    · rw [if_pos ((iL_lt h (by omega)).mpr w0)]
      by_cases w2 : v < -1000000000
      · rw [if_pos ((iL_lt h (by omega)).mpr w2), if_pos w2, iL_I]
      · rw [if_neg (fun q => w2 ((iL_lt h (by omega)).mp q)), if_neg w2, iL_I]
    · have e : v = 1000000000 := by omega
      subst e
      decide
theorem sti_up {k : Nat} {x : Int32} : ∀ {s : List Int}, s.length ≤ k → sti g s → sti (upd g k x) s := by
  intro s
  induction s with
  | nil => intro _ _; trivial
  | cons c s ih =>
    intro h1 h2
    have h1' : s.length + 1 ≤ k := h1
    exact ⟨by rw [up_a, if_neg (by omega)]; exact h2.1, ih (by omega) h2.2⟩
theorem stj_up {k : Nat} {x : Int64} : ∀ {s : List Int}, s.length ≤ k → stj h s → stj (vp_updL h k x) s := by
  intro s
  induction s with
  | nil => intro _ _; trivial
  | cons c s ih =>
    intro h1 h2
    have h1' : s.length + 1 ≤ k := h1
    exact ⟨by rw [upL_a, if_neg (by omega)]; exact h2.1, ih (by omega) h2.2⟩
theorem sf_s {i : Nat} (hi : i < S.length) : ∃ x, sf S (i + 1) = x :: sf S i ∧ (sf S i).length = i := by
  unfold sf
  have h1 : S.length - (i + 1) < S.length := by omega
  refine ⟨S[S.length - (i + 1)], ?_, by rw [List.length_drop]; omega⟩
  rw [List.drop_eq_getElem_cons h1, show S.length - (i + 1) + 1 = S.length - i by omega]
theorem sf_l : sf S S.length = S := by unfold sf; rw [Nat.sub_self]; rfl
theorem sf_0 : sf S 0 = [] := by unfold sf; rw [Nat.sub_zero]; exact List.drop_length
theorem wds_sf (hw : wds A B S) (i : Nat) : wds A B (sf S i) := by
  have : ∀ k (S : List (Nat × Nat)), wds A B S → wds A B (S.drop k) := by
    intro k
    induction k with
    | zero => intro S h; exact h
    | succ k ih =>
      intro S h
      cases S with
      | nil => exact trivial
      | cons x S => exact ih S h.2.2
  exact this _ S hw
theorem vok_sf (hw : vok S) (i : Nat) : vok (sf S i) := by
  have : ∀ k (S : List (Nat × Nat)), vok S → vok (S.drop k) := by
    intro k
    induction k with
    | zero => intro S h; exact h
    | succ k ih =>
      intro S h
      cases S with
      | nil => exact trivial
      | cons x S => exact ih S h.1
  exact this _ S hw
/-- values and names stay within bounds; the stack has its height -/
theorem tlv_bn {g : Nat} : bn (tlv g v) := by
  unfold tlv bn
  by_cases w : g < 10
  · rw [if_pos w]; split
    · omega
    · split <;> omega
  · rw [if_neg w]; split
    · split
      · omega
      · split <;> omega
    · split <;> omega
theorem binv_bn {c : Nat} : bn (binv c a b) := by
  unfold binv
  by_cases w1 : c = 42
  · rw [if_pos w1]; exact lim_bn _
  · rw [if_neg w1]
    by_cases w2 : c = 43
    · rw [if_pos w2]; exact lim_bn _
    · rw [if_neg w2]
      by_cases w3 : c = 45
      · rw [if_pos w3]; exact lim_bn _
      · rw [if_neg w3]; unfold bn; split <;> split <;> omega
def exok (S : List (Nat × Nat)) (T : Nat → Int) : Prop := (exs S T).1.length = dpt S ∧ (∀ v, v ∈ (exs S T).1 → bn v) ∧ ∀ j, j < 53 → bn ((exs S T).2 j)
theorem exs_ok {T : Nat → Int} (hT : ∀ j, j < 53 → bn (T j)) : ∀ {S : List (Nat × Nat)}, vok S → exok S T := by
  intro S
  induction S with
  | nil => intro _; exact ⟨rfl, fun v hv => (by cases hv), hT⟩
  | cons x S ih =>
    intro hv
    obtain ⟨h1, h2, h3⟩ := ih hv.1
    unfold exok
    show (ex1 x (exs S T)).1.length = dpt (x :: S) ∧ (∀ v, v ∈ (ex1 x (exs S T)).1 → bn v) ∧ ∀ j, j < 53 → bn ((ex1 x (exs S T)).2 j)
    have hd : dpt (x :: S) = if x.1 ≤ 1 then dpt S + 1 else if x.1 = 3 then dpt S else if x.1 = 63 then dpt S - 2 else dpt S - 1 := rfl
    generalize exs S T = st at *
    obtain ⟨s, U⟩ := st
    simp only at h1 h2 h3
    unfold ex1
    rcases hv.2 with ⟨c, d⟩ | ⟨c, d⟩ | ⟨c, d, e⟩ | ⟨c, d⟩ | ⟨c, d⟩ | ⟨c, d⟩
    · rw [hd, c]
      refine ⟨by show s.length + 1 = _; rw [h1]; rfl, fun v hv => ?_, h3⟩
      rcases List.mem_cons.mp hv with z | z
      · rw [z]; unfold bn; omega
      · exact h2 v z
    · rw [hd, c]
      refine ⟨by show s.length + 1 = _; rw [h1]; rfl, fun v hv => ?_, h3⟩
      rcases List.mem_cons.mp hv with z | z
      · rw [z]; exact h3 _ d
      · exact h2 v z
    · rw [hd, c]
      refine ⟨?_, fun v hv => h2 v (List.mem_of_mem_tail hv), fun j hj => ?_⟩
      · show s.tail.length = dpt S - 1
        rw [List.length_tail, h1]
      · show bn (up U x.2 (tlv x.2 (s.headD 0)) j)
        unfold up
        split
        · exact tlv_bn
        · exact h3 j hj
    · rw [hd, c]
      cases s with
      | nil => exact absurd (show 0 = dpt S from h1) (by omega)
      | cons v0 s =>
        refine ⟨by show s.length + 1 = dpt S; exact h1, fun v hv => ?_, h3⟩
        have hv' : v ∈ -v0 :: s := hv
        rcases List.mem_cons.mp hv' with z | z
        · have := h2 v0 (List.mem_cons_self)
          rw [z]; unfold bn at *; omega
        · exact h2 v (List.mem_cons_of_mem _ z)
    · rw [hd, c]
      cases s with
      | nil => exact absurd (show 0 = dpt S from h1) (by omega)
      | cons v0 s =>
        cases s with
        | nil => exact absurd (show 1 = dpt S from h1) (by omega)
        | cons v1 s =>
          cases s with
          | nil => exact absurd (show 2 = dpt S from h1) (by omega)
          | cons v2 s =>
            have h1' : s.length + 3 = dpt S := h1
            refine ⟨by show s.length + 1 = dpt S - 2; omega, fun v hv => ?_, h3⟩
            have hv' : v ∈ (if v2 = 0 then v0 else v1) :: s := hv
            rcases List.mem_cons.mp hv' with z | z
            · rw [z]; split
              · exact h2 v0 (by simp)
              · exact h2 v1 (by simp)
            · exact h2 v (by simp [z])
    · have c' := c
      unfold isop at c'
      rw [hd]
      simp only [show ¬ x.1 = 0 by omega, show ¬ x.1 = 1 by omega, show ¬ x.1 = 2 by omega, show ¬ x.1 = 3 by omega, show ¬ x.1 = 63 by omega, show ¬ x.1 ≤ 1 by omega, if_false]
      refine ⟨?_, fun v hv => ?_, h3⟩
      · show s.tail.tail.length + 1 = dpt S - 1
        rw [List.length_tail, List.length_tail, h1]
        omega
      · rcases List.mem_cons.mp hv with z | z
        · rw [z]; exact binv_bn
        · exact h2 v (List.mem_of_mem_tail (List.mem_of_mem_tail z))
end Exe
