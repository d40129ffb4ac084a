/-! PURE (46): readers of a key's bytes on both sides. -/
theorem pb_i {g : Nat → Nat} {p k j : Nat} {v : Int64} (h1 : p ≤ j) (h2 : j < p + k) : pb g p k v j = lb v (j - p) := if_pos ⟨h1, h2⟩
theorem pb_o {g : Nat → Nat} {p k j : Nat} {v : Int64} (h : j < p ∨ p + k ≤ j) : pb g p k v j = g j := if_neg (by omega)
theorem up_i {g : Nat → Nat} {p x : Nat} : up g p x p = x := if_pos rfl
theorem up_o {g : Nat → Nat} {p j x : Nat} (h : j ≠ p) : up g p x j = g j := if_neg h
theorem wrd_at {f : Nat → Int64} {n t : Nat} (ht : t < n) : ∀ i, i < 2 → wrd f n (2 * t + i) = lb (f t) i := by
  intro i hi
  induction n with
  | zero => omega
  | succ n ih =>
    rw [wrd_s]
    by_cases w : t = n
    · rw [pb_i (by omega) (by omega), w, Nat.add_sub_cancel_left]
    · rw [pb_o (by omega)]; exact ih (by omega)
section Kxb
variable {G : Kp} {ix i : Nat}
theorem k8 (hi : i < 8) : kx G 8 ix i = lb (G.2.2 0 ix) i ∧ kx G 8 ix (8 + i) = lb (G.2.2 1 ix) i := by
  have e : kx G 8 ix = pb (pb (pb (pb (pb (fun _ => 0) 0 8 (G.2.2 0 ix)) 8 8 (G.2.2 1 ix)) 16 4 (G.2.1 2 ix).toInt64) 20 4 (G.2.1 3 ix).toInt64) 24 4 (G.2.1 4 ix).toInt64 := rfl
  rw [e]
  simp (disch := omega) only [pb_i, pb_o, Nat.sub_zero, Nat.add_sub_cancel_left]
  exact ⟨trivial, trivial⟩
theorem k8b (hi : i < 4) : kx G 8 ix (16 + i) = lb (G.2.1 2 ix).toInt64 i ∧ kx G 8 ix (20 + i) = lb (G.2.1 3 ix).toInt64 i ∧ kx G 8 ix (24 + i) = lb (G.2.1 4 ix).toInt64 i := by
  have e : kx G 8 ix = pb (pb (pb (pb (pb (fun _ => 0) 0 8 (G.2.2 0 ix)) 8 8 (G.2.2 1 ix)) 16 4 (G.2.1 2 ix).toInt64) 20 4 (G.2.1 3 ix).toInt64) 24 4 (G.2.1 4 ix).toInt64 := rfl
  rw [e]
  simp (disch := omega) only [pb_i, pb_o, Nat.sub_zero, Nat.add_sub_cancel_left]
  exact ⟨trivial, trivial, trivial⟩
theorem k9 (hi : i < 8) : kx G 9 ix (4 + i) = lb (G.2.2 2 0) i ∧ kx G 9 ix (12 + i) = lb (G.2.2 2 1) i := by
  have e : kx G 9 ix = pb (pb (pb (pb (pb (fun _ => 0) 0 4 (G.2.1 5 0).toInt64) 4 8 (G.2.2 2 0)) 12 8 (G.2.2 2 1)) 20 4 (G.2.1 5 1).toInt64) 24 4 (G.2.1 5 2).toInt64 := rfl
  rw [e]
  simp (disch := omega) only [pb_i, pb_o, Nat.sub_zero, Nat.add_sub_cancel_left]
  exact ⟨trivial, trivial⟩
theorem k9b (hi : i < 4) : kx G 9 ix i = lb (G.2.1 5 0).toInt64 i ∧ kx G 9 ix (20 + i) = lb (G.2.1 5 1).toInt64 i ∧ kx G 9 ix (24 + i) = lb (G.2.1 5 2).toInt64 i := by
  have e : kx G 9 ix = pb (pb (pb (pb (pb (fun _ => 0) 0 4 (G.2.1 5 0).toInt64) 4 8 (G.2.2 2 0)) 12 8 (G.2.2 2 1)) 20 4 (G.2.1 5 1).toInt64) 24 4 (G.2.1 5 2).toInt64 := rfl
  rw [e]
  simp (disch := omega) only [pb_i, pb_o, Nat.sub_zero, Nat.add_sub_cancel_left]
  exact ⟨trivial, trivial, trivial⟩
theorem k10 (hi : i < 4) : kx G 10 ix i = lb (G.2.1 3 10).toInt64 i ∧ kx G 10 ix (4 + i) = lb (G.2.1 2 10).toInt64 i ∧ kx G 10 ix (8 + i) = lb (G.2.1 6 0).toInt64 i ∧ kx G 10 ix (12 + i) = lb (G.2.1 6 1).toInt64 i ∧ kx G 10 ix (16 + i) = lb (G.2.1 6 2).toInt64 i ∧ kx G 10 ix (20 + i) = lb (G.2.1 6 3).toInt64 i := by
  have e : kx G 10 ix = pb (pb (pb (pb (pb (pb (fun _ => 0) 0 4 (G.2.1 3 10).toInt64) 4 4 (G.2.1 2 10).toInt64) 8 4 (G.2.1 6 0).toInt64) 12 4 (G.2.1 6 1).toInt64) 16 4 (G.2.1 6 2).toInt64) 20 4 (G.2.1 6 3).toInt64 := rfl
  rw [e]
  simp (disch := omega) only [pb_i, pb_o, Nat.sub_zero, Nat.add_sub_cancel_left]
  exact ⟨trivial, trivial, trivial, trivial, trivial, trivial⟩
theorem k11 (hi : i < 4) : kx G 11 ix i = lb (G.2.1 7 ix).toInt64 i ∧ kx G 11 ix (4 + i) = lb (G.2.1 8 ix).toInt64 i ∧ kx G 11 ix (8 + i) = lb (G.2.1 9 ix).toInt64 i := by
  have e : kx G 11 ix = up (pb (pb (pb (fun _ => 0) 0 4 (G.2.1 7 ix).toInt64) 4 4 (G.2.1 8 ix).toInt64) 8 4 (G.2.1 9 ix).toInt64) 12 (G.1 7 ix) := rfl
  rw [e]
  simp (disch := omega) only [up_o, pb_i, pb_o, Nat.sub_zero, Nat.add_sub_cancel_left]
  exact ⟨trivial, trivial, trivial⟩
theorem k11b : kx G 11 ix 12 = G.1 7 ix := rfl
theorem k12_0 (h : G.1 8 ix = 0) : kx G 12 ix = fun _ => 0 := if_pos h
theorem k12_1 (h : G.1 8 ix = 1) : kx G 12 ix = pb (pb (up (up (up (up (fun _ => 0) 0 1) 1 (G.1 9 ix)) 2 (G.1 10 ix)) 3 (G.1 11 ix)) 4 4 (G.2.1 10 ix).toInt64) 8 4 (G.2.1 11 ix).toInt64 := by
  show (if G.1 8 ix = 0 then (fun _ => 0) else pb (pb (up (up (up (up (fun _ => 0) 0 1) 1 (G.1 9 ix)) 2 (G.1 10 ix)) 3 (G.1 11 ix)) 4 4 (G.2.1 10 ix).toInt64) 8 4 (G.2.1 11 ix).toInt64) = _
  rw [if_neg (by omega)]
theorem k12 (h : G.1 8 ix = 1) (hi : i < 4) : kx G 12 ix (4 + i) = lb (G.2.1 10 ix).toInt64 i ∧ kx G 12 ix (8 + i) = lb (G.2.1 11 ix).toInt64 i := by
  rw [k12_1 h]
  simp (disch := omega) only [pb_i, pb_o, Nat.add_sub_cancel_left]
  exact ⟨trivial, trivial⟩
theorem k12b (h : G.1 8 ix = 1) : kx G 12 ix 0 = 1 ∧ kx G 12 ix 1 = G.1 9 ix ∧ kx G 12 ix 2 = G.1 10 ix ∧ kx G 12 ix 3 = G.1 11 ix := by
  rw [k12_1 h]
  exact ⟨rfl, rfl, rfl, rfl⟩
theorem k14 (hi : i < 4) : kx G 14 ix (4 + i) = lb (G.2.1 12 ix).toInt64 i := by
  have e : kx G 14 ix = pb (up (up (up (up (fun _ => 0) 0 1) 1 (G.1 16 ix)) 2 (G.1 17 ix)) 3 (G.1 18 ix)) 4 4 (G.2.1 12 ix).toInt64 := rfl
  rw [e, pb_i (by omega) (by omega), Nat.add_sub_cancel_left]
end Kxb
/-- a key's bytes in the class's table -/
def by3 (M : mz_N) (k : Nat) (g : Nat → Nat) : Prop := ∀ j, j < 28 → M.1 223 (28 * k + j) = nI (g j) ∧ g j < 256
/-- in the reference's -/
def by4 (M : mz_N) (k : Nat) (g : Nat → Nat) : Prop := ∀ j, j < 28 → M.1 331 (28 * k + j) = by8 (g j) ∧ g j < 256
section Rdb
variable {M : mz_N} {k p : Nat} {g : Nat → Nat}
theorem rb1 (h : by3 M k g) (hk : k < 135) (hp : p < 28) : mz_gI M 223 (nI (28 * k + p)) = nI (g p) := by rw [gI_a, nI_clamp (by omega)]; exact (h p hp).1
theorem rb4 {v : Int32} (h : by3 M k g) (hk : k < 135) (hp : p + 4 ≤ 28) (hv : ∀ i, i < 4 → g (p + i) = lb v.toInt64 i) : cp_61_0 223 3780 (nI (28 * k + p)) 4 M ∧ (cf_61_0 223 3780 (nI (28 * k + p)) 4 M).toInt32 = v := by
  obtain ⟨p1, p2⟩ := rd4_c (N := M) (a := 223) (n := 3780) (p := 28 * k + p) (d := fun j => g (j - 28 * k)) (fun i hi => by
    have := h (p + i) (by omega)
    rw [← Nat.add_assoc] at this
    rw [show 28 * k + p + i - 28 * k = p + i by omega]
    exact this) (by omega) (by omega)
  refine ⟨p1, ?_⟩
  rw [p2, toInt64_32, num_lb (v := v.toInt64) (fun i hi => by rw [show 28 * k + p + i - 28 * k = p + i by omega]; exact hv i hi)]
  exact rv4 v
theorem rb8 {v : Int64} (h : by3 M k g) (hk : k < 135) (hp : p + 8 ≤ 28) (hv : ∀ i, i < 8 → g (p + i) = lb v i) : cp_61_0 223 3780 (nI (28 * k + p)) 8 M ∧ cf_61_0 223 3780 (nI (28 * k + p)) 8 M = v := by
  obtain ⟨p1, p2⟩ := rd_c (N := M) (a := 223) (n := 3780) (p := 28 * k + p) (k := 8) (d := fun j => g (j - 28 * k)) (fun i hi => by
    have := h (p + i) (by omega)
    rw [← Nat.add_assoc] at this
    rw [show 28 * k + p + i - 28 * k = p + i by omega]
    exact this) (by omega) (by omega) (by omega)
  refine ⟨p1, ?_⟩
  have p2' : cf_61_0 223 3780 (nI (28 * k + p)) 8 M = _ := p2
  rw [p2', sg8, num_lb (v := v) (fun i hi => by rw [show 28 * k + p + i - 28 * k = p + i by omega]; exact hv i hi)]
  exact rv8 v
theorem rb2 {v : Int32} (h : by3 M k g) (hk : k < 135) (hp : p + 2 ≤ 28) (hv : ∀ i, i < 2 → g (p + i) = lb v.toInt64 i) (h16 : i16 v) : cp_61_0 223 3780 (nI (28 * k + p)) 2 M ∧ (cf_61_0 223 3780 (nI (28 * k + p)) 2 M).toInt32 = v := by
  obtain ⟨p1, p2⟩ := rd_c (N := M) (a := 223) (n := 3780) (p := 28 * k + p) (k := 2) (d := fun j => g (j - 28 * k)) (fun i hi => by
    have := h (p + i) (by omega)
    rw [← Nat.add_assoc] at this
    rw [show 28 * k + p + i - 28 * k = p + i by omega]
    exact this) (by omega) (by omega) (by omega)
  refine ⟨p1, ?_⟩
  have p2' : cf_61_0 223 3780 (nI (28 * k + p)) 2 M = _ := p2
  have hn : num (fun j => g (j - 28 * k)) (28 * k + p) 2 = uv v.toInt64 % 2 ^ 16 := num_lb (v := v.toInt64) (n := 2) (fun i hi => by rw [show 28 * k + p + i - 28 * k = p + i by omega]; exact hv i hi)
  rw [p2', hn, sg2 (Nat.mod_lt _ (by decide)), rv2]
  have e : v.toInt16.toInt64.toInt32 = v.toInt16.toInt32 := by simp
  rw [e]
  exact h16
theorem ra1 (h : by4 M k g) (hk : k < 135) (hp : p < 28) : cp_422_0 (nI (28 * k)) (nI p) M ∧ cf_422_0 (nI (28 * k)) (nI p) M = nI (g p) := by
  rw [cp_422_0, cf_422_0, nI_add, gI_a, nI_clamp (by omega), (h p hp).1, by8_and _ (h p hp).2]
  exact ⟨ib_n (by omega) (by omega), rfl⟩
theorem ra8 {v : Int64} {n : Nat} (h : by4 M k g) (hk : k < 135) (hp : p + n ≤ 28) (hn : n ≤ 8) (hv : ∀ i, i < n → g (p + i) = lb v i) : cp_423_0 331 3780 (nI (28 * k + p)) (nI n) M ∧ cf_423_0 331 3780 (nI (28 * k + p)) (nI n) M = lN (uv v % 2 ^ (8 * n)) := by
  obtain ⟨p1, p2⟩ := rd_r (N := M) (a := 331) (n := 3780) (p := 28 * k + p) (k := n) (d := fun j => g (p + j)) (fun i hi => by
    have := h (p + i) (by omega)
    rw [← Nat.add_assoc] at this
    exact this) (by omega) (by omega) hn
  refine ⟨p1, ?_⟩
  rw [p2, num_lb (v := v) (fun i hi => by rw [Nat.zero_add]; exact hv i hi)]
theorem ra4 {v : Int32} (h : by4 M k g) (hk : k < 135) (hp : p + 4 ≤ 28) (hv : ∀ i, i < 4 → g (p + i) = lb v.toInt64 i) : cp_425_0 (nI (28 * k)) (nI p) M ∧ cf_425_0 (nI (28 * k)) (nI p) M = v := by
  obtain ⟨p1, p2⟩ := ra8 (n := 4) h hk hp (by omega) hv
  have p1' : cp_423_0 331 3780 (nI (28 * k + p)) 4 M := p1
  have p2' : cf_423_0 331 3780 (nI (28 * k + p)) 4 M = lN (uv v.toInt64 % 2 ^ 32) := p2
  rw [cp_425_0, cf_425_0, nI_add, p2', lN_i]
  exact ⟨p1', rv4 v⟩
end Rdb
