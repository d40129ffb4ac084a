/-! PURE (47): kept things read again from bytes; the class's side. -/
/-- a range taken from another -/
def rg {α : Type} (p n : Nat) (g f : Nat → α) : Nat → α := fun j => if p ≤ j ∧ j < p + n then g j else f j
/-- the things of a key, taken from G -/
def dec (H G : Kp) (kd ix : Nat) : Kp :=
  if kd = 1 then (up H.1 0 (rg (110 * ix) 110 (G.1 0) (H.1 0)), H.2)
  else if kd = 2 then (up H.1 1 (rg (48 * ix) 48 (G.1 1) (H.1 1)), H.2)
  else if kd = 3 then (up H.1 2 (rg (24 * ix) 24 (G.1 2) (H.1 2)), H.2)
  else if kd = 4 then (H.1, up H.2.1 0 (rg (12 * ix) 12 (G.2.1 0) (H.2.1 0)), H.2.2)
  else if kd = 5 then (up H.1 3 (rg (24 * ix) 24 (G.1 3) (H.1 3)), H.2)
  else if kd = 6 then (if ix = 7 then (up H.1 5 (up (H.1 5) 0 (G.1 5 0)), H.2) else (up H.1 4 (rg (28 * ix) 28 (G.1 4) (H.1 4)), H.2))
  else if kd = 7 then (if ix = 0 then (H.1, up H.2.1 1 (rg 0 11 (G.2.1 1) (H.2.1 1)), H.2.2) else (up H.1 6 (rg 0 11 (G.1 6) (H.1 6)), H.2))
  else if kd = 8 then (H.1, up (up (up H.2.1 2 (up (H.2.1 2) ix (G.2.1 2 ix))) 3 (up (H.2.1 3) ix (G.2.1 3 ix))) 4 (up (H.2.1 4) ix (G.2.1 4 ix)), up (up H.2.2 0 (up (H.2.2 0) ix (G.2.2 0 ix))) 1 (up (H.2.2 1) ix (G.2.2 1 ix)))
  else if kd = 9 then (H.1, up H.2.1 5 (rg 0 3 (G.2.1 5) (H.2.1 5)), up H.2.2 2 (rg 0 2 (G.2.2 2) (H.2.2 2)))
  else if kd = 10 then (H.1, up (up (up H.2.1 2 (up (H.2.1 2) 10 (G.2.1 2 10))) 3 (up (H.2.1 3) 10 (G.2.1 3 10))) 6 (rg 0 4 (G.2.1 6) (H.2.1 6)), H.2.2)
  else if kd = 11 then (up H.1 7 (up (H.1 7) ix (G.1 7 ix)), up (up (up H.2.1 7 (up (H.2.1 7) ix (G.2.1 7 ix))) 8 (up (H.2.1 8) ix (G.2.1 8 ix))) 9 (up (H.2.1 9) ix (G.2.1 9 ix)), H.2.2)
  else if kd = 12 then (up (up (up (up H.1 8 (up (H.1 8) ix (G.1 8 ix))) 9 (up (H.1 9) ix (G.1 9 ix))) 10 (up (H.1 10) ix (G.1 10 ix))) 11 (up (H.1 11) ix (G.1 11 ix)), up (up H.2.1 10 (up (H.2.1 10) ix (G.2.1 10 ix))) 11 (up (H.2.1 11) ix (G.2.1 11 ix)), H.2.2)
  else if kd = 13 then (up (up (up H.1 12 (up (H.1 12) ix 1)) 13 (up (H.1 13) ix (G.1 13 ix))) 14 (up (H.1 14) ix (G.1 14 ix)), H.2)
  else if kd = 14 then (up (up (up (up H.1 15 (up (H.1 15) ix 1)) 16 (up (H.1 16) ix (G.1 16 ix))) 17 (up (H.1 17) ix (G.1 17 ix))) 18 (up (H.1 18) ix (G.1 18 ix)), up H.2.1 12 (up (H.2.1 12) ix (G.2.1 12 ix)), H.2.2)
  else (up (up (up H.1 19 (up (H.1 19) ix 1)) 20 (up (H.1 20) ix (G.1 20 ix))) 21 (up (H.1 21) ix (G.1 21 ix)), H.2)
/-- the class keeps the things, but for its program -/
def c_kn (N : mz_N) (H : Kp) : Prop :=
  (∀ j, j < 550 → N.1 3 j = nI (H.1 0 j)) ∧ (∀ j, j < 240 → N.1 37 j = nI (H.1 1 j)) ∧ (∀ j, j < 240 → N.1 40 j = nI (H.1 2 j)) ∧ (∀ j, j < 24 → N.1 66 j = H.2.1 0 j) ∧ (∀ j, j < 96 → N.1 67 j = nI (H.1 3 j)) ∧
  (∀ j, j < 11 → N.1 62 j = H.2.1 1 j ∧ N.1 63 j = nI (H.1 6 j)) ∧
  (∀ j, j < 11 → N.1 210 j = H.2.1 2 j ∧ N.1 211 j = H.2.1 3 j ∧ N.1 212 j = H.2.1 4 j) ∧ (∀ j, j < 10 → N.2 213 j = H.2.2 0 j ∧ N.2 214 j = H.2.2 1 j) ∧
  (N.1 208 0 = H.2.1 5 0 ∧ N.2 208 1 = H.2.2 2 0 ∧ N.2 208 2 = H.2.2 2 1 ∧ N.1 208 3 = H.2.1 5 1 ∧ N.1 208 4 = H.2.1 5 2) ∧ (∀ j, j < 4 → N.1 215 j = H.2.1 6 j) ∧
  (∀ j, j < 3 → N.1 125 j = H.2.1 7 j ∧ N.1 126 j = H.2.1 8 j ∧ N.1 127 j = H.2.1 9 j ∧ N.1 128 j = nI (H.1 7 j)) ∧
  (∀ j, j < 16 → N.1 123 j = nI (H.1 8 j) ∧ (H.1 8 j = 1 → N.1 118 j = nI (H.1 9 j) ∧ N.1 119 j = nI (H.1 10 j) ∧ N.1 120 j = nI (H.1 11 j) ∧ N.1 121 j = H.2.1 10 j ∧ N.1 117 j = H.2.1 11 j)) ∧
  (∀ j, j < 20 → N.1 101 j = nI (H.1 12 j) ∧ (H.1 12 j = 1 → N.1 102 j = nI (H.1 13 j) ∧ N.1 103 j = nI (H.1 14 j))) ∧
  (∀ j, j < 40 → N.1 104 j = nI (H.1 15 j) ∧ (H.1 15 j = 1 → N.1 105 j = nI (H.1 16 j) ∧ N.1 106 j = nI (H.1 17 j) ∧ N.1 107 j = nI (H.1 18 j) ∧ N.1 108 j = H.2.1 12 j)) ∧
  ∀ j, j < 8 → N.1 87 j = nI (H.1 19 j) ∧ (H.1 19 j = 1 → N.1 88 j = nI (H.1 20 j) ∧ N.1 89 j = nI (H.1 21 j))
theorem c_kp_n {N : mz_N} {b : Bool} {H : Kp} : c_kp N b H ↔ c_kn N H ∧ N.1 (mz_lv b) 1 = nI (H.1 5 0) ∧ ∀ j, j < H.1 5 0 → N.1 (mz_lv b + 1) j = nI (H.1 4 j) := by
  constructor
  · rintro ⟨k1, k2, k3, k4, k5, k6, k6b, k7, k8, k8b, k9, k10, k11, k12, k13, k14, k15⟩
    exact ⟨⟨k1, k2, k3, k4, k5, k7, k8, k8b, k9, k10, k11, k12, k13, k14, k15⟩, k6, k6b⟩
  · rintro ⟨⟨k1, k2, k3, k4, k5, k7, k8, k8b, k9, k10, k11, k12, k13, k14, k15⟩, k6, k6b⟩
    exact ⟨k1, k2, k3, k4, k5, k6, k6b, k7, k8, k8b, k9, k10, k11, k12, k13, k14, k15⟩
/-- what reading wants of a key's things -/
def kpl (G : Kp) (kd ix : Nat) : Prop := (kd = 4 → ∀ t, t < 12 → i16 (G.2.1 0 (12 * ix + t))) ∧ (kd = 7 → ix = 0 → ∀ t, t < 11 → ∃ r, r ≤ 500 ∧ G.2.1 1 t = nI r) ∧ (kd = 12 → G.1 8 ix = 1 → ∃ n, n ≤ 2000000000 ∧ G.2.1 11 ix = nI n)
/-- beside the kept things: nobody at a ticket, no values of points, the next number -/
def c_ks (N : mz_N) (H : Kp) (nn : Nat) : Prop := (∀ j, j < 16 → H.1 8 j = 1 → N.1 122 j = -1) ∧ (∀ j, j < 8 → N.1 99 j = 0) ∧ N.1 115 2 = nI nn
/-- the next number behind a ticket -/
def nxn (G : Kp) (kd ix nn : Nat) : Nat := if kd = 12 ∧ G.1 8 ix = 1 then max nn ((G.2.1 11 ix).toNatClampNeg + 1) else nn
/-- frames with longs -/
def fq (A B : List Nat) (N M : mz_N) : Prop := (∀ c, A.contains c = false → M.1 c = N.1 c) ∧ ∀ c, B.contains c = false → M.2 c = N.2 c
theorem fq_refl (A B : List Nat) (N : mz_N) : fq A B N N := ⟨fun _ _ => rfl, fun _ _ => rfl⟩
theorem fq_trans {A B : List Nat} {N M K : mz_N} (h1 : fq A B N M) (h2 : fq A B M K) : fq A B N K := ⟨fun c hc => (h2.1 c hc).trans (h1.1 c hc), fun c hc => (h2.2 c hc).trans (h1.2 c hc)⟩
theorem fq_sI {A B : List Nat} {N M : mz_N} {a : Nat} {f : Nat → Int32} (h : fq A B N M) (ha : A.contains a = true) : fq A B N (mz_sI M a f) := ⟨fun c hc => by rw [sI_n (fun z => by rw [z, ha] at hc; cases hc)]; exact h.1 c hc, h.2⟩
theorem fq_sL {A B : List Nat} {N M : mz_N} {a : Nat} {f : Nat → Int64} (h : fq A B N M) (ha : B.contains a = true) : fq A B N (mz_sL M a f) := ⟨h.1, fun c hc => by rw [sL_n (fun z => by rw [z, ha] at hc; cases hc)]; exact h.2 c hc⟩
theorem fq_wI {A B : List Nat} {N M : mz_N} {a : Nat} {i x : Int32} (h : fq A B N M) (ha : A.contains a = true) : fq A B N (mz_wI M a i x) := fq_sI h ha
theorem fq_pI {A B : List Nat} {N M : mz_N} {a k : Nat} {x : Int32} (h : fq A B N M) (ha : A.contains a = true) : fq A B N (mz_pI M a k x) := fq_sI h ha
theorem fq_wL {A B : List Nat} {N M : mz_N} {a : Nat} {i : Int32} {x : Int64} (h : fq A B N M) (ha : B.contains a = true) : fq A B N (mz_wL M a i x) := fq_sL h ha
theorem fq_pL {A B : List Nat} {N M : mz_N} {a k : Nat} {x : Int64} (h : fq A B N M) (ha : B.contains a = true) : fq A B N (mz_pL M a k x) := fq_sL h ha
/-- cells that reading a key may change -/
def cdA : List Nat := [3, 37, 40, 66, 67, 62, 63, 210, 211, 212, 208, 215, 125, 126, 127, 128, 123, 118, 119, 120, 121, 117, 122, 115, 101, 102, 103, 104, 105, 106, 107, 108, 87, 88, 89, 99]
def cdB : List Nat := [213, 214, 208]
theorem wI_at {N : mz_N} {a i j : Nat} {v : Int32} (hi : i < 2 ^ 31) : (mz_wI N a (nI i) v).1 a j = if j = i then v else N.1 a j := by rw [wI_s, sI_e, up_a, nI_clamp hi]
theorem wL_at {N : mz_N} {a i j : Nat} {v : Int64} (hi : i < 2 ^ 31) : (mz_wL N a (nI i) v).2 a j = if j = i then v else N.2 a j := by rw [wL_s, sL_e, upL_a, nI_clamp hi]
theorem wI_ne {N : mz_N} {a c : Nat} {i v : Int32} (h : c ≠ a) : (mz_wI N a i v).1 c = N.1 c := sI_n h
theorem wI_2 {N : mz_N} {a : Nat} {i v : Int32} : (mz_wI N a i v).2 = N.2 := rfl
theorem wL_1 {N : mz_N} {a : Nat} {i : Int32} {v : Int64} : (mz_wL N a i v).1 = N.1 := rfl
theorem wL_ne {N : mz_N} {a c : Nat} {i : Int32} {v : Int64} (h : c ≠ a) : (mz_wL N a i v).2 c = N.2 c := sL_n h
theorem rg_in {α : Type} {p n j : Nat} {g f : Nat → α} (h1 : p ≤ j) (h2 : j < p + n) : rg p n g f j = g j := if_pos ⟨h1, h2⟩
theorem rg_out {α : Type} {p n j : Nat} {g f : Nat → α} (h : j < p ∨ p + n ≤ j) : rg p n g f j = f j := if_neg (by omega)
