/-! PURE (41): the class makes the bytes of its keys: all of them. -/
/-- cells of the class that keep things -/
def kcl : List Nat := [3, 37, 40, 66, 67, 43, 44, 48, 49, 62, 63, 210, 211, 212, 213, 214, 208, 215, 125, 126, 127, 128, 123, 118, 119, 120, 121, 117, 101, 102, 103, 104, 105, 106, 107, 108, 87, 88, 89]
theorem c_kp_of {N M : mz_N} {b : Bool} {H : Kp} (h : ∀ c, kcl.contains c = true → M.1 c = N.1 c) (h2 : M.2 213 = N.2 213 ∧ M.2 214 = N.2 214 ∧ M.2 208 = N.2 208) (hk : c_kp N b H) : c_kp M b H := by
  have l1 : M.1 (mz_lv b) = N.1 (mz_lv b) := by cases b <;> exact h _ rfl
  have l2 : M.1 (mz_lv b + 1) = N.1 (mz_lv b + 1) := by cases b <;> exact h _ rfl
  unfold c_kp at hk ⊢
  rw [h 3 rfl, h 37 rfl, h 40 rfl, h 66 rfl, h 67 rfl, l1, l2, h 62 rfl, h 63 rfl, h 210 rfl, h 211 rfl, h 212 rfl, h2.1, h2.2.1, h2.2.2, h 208 rfl, h 215 rfl, h 125 rfl, h 126 rfl, h 127 rfl, h 128 rfl, h 123 rfl, h 118 rfl, h 119 rfl, h 120 rfl, h 121 rfl, h 117 rfl, h 101 rfl, h 102 rfl, h 103 rfl, h 104 rfl, h 105 rfl, h 106 rfl, h 107 rfl, h 108 rfl, h 87 rfl, h 88 rfl, h 89 rfl]
  exact hk
/-- how many keys a kind has -/
def nky (kd : Nat) : Nat := FK kd - FK (kd - 1)
theorem ixk_lt : ∀ k, k < 135 → ixk k < nky (kdk k) := by decide +kernel
theorem kx_lt {H : Kp} (hb : kpb H) (kd ix j : Nat) : kx H kd ix j < 256 := by
  obtain ⟨b0, b1, b2, b3, b5, b4, -, b6, b7, b8, b9, b12, b13, b15, b16, b19, b20⟩ := hb
  have z0 : ∀ j : Nat, (fun _ : Nat => (0 : Nat)) j < 256 := fun _ => show (0 : Nat) < 256 by omega
  have hup : ∀ (g : Nat → Nat) p x, (∀ j, g j < 256) → x < 256 → ∀ j, up g p x j < 256 := fun g p x h1 h2 j => by rw [up_d]; split; exact h2; exact h1 j
  have hpb : ∀ (g : Nat → Nat) p k v, (∀ j, g j < 256) → ∀ j, pb g p k v j < 256 := fun g p k v h1 j => by unfold pb; split; exact lb_lt _ _; exact h1 j
  have hct : ∀ n (f : Nat → Nat), (∀ j, f j < 256) → ∀ j, cut n f j < 256 := fun n f h1 j => by unfold cut; split; exact h1 j; omega
  have hwd : ∀ (f : Nat → Int64) n, ∀ j, wrd f n j < 256 := fun f n => by
    induction n with
    | zero => exact z0
    | succ n ih => rw [wrd_s]; exact hpb _ _ _ _ ih
  unfold kx
  by_cases w1 : kd = 1
  · rw [if_pos w1]
    exact orp_lt (B := 0) (fun t => b0 _) (by omega) (by omega) _ _
  rw [if_neg w1]
  by_cases w2 : kd = 2
  · rw [if_pos w2]
    exact orp_lt (B := 0) (fun t => b1 _) (by omega) (by omega) _ _
  rw [if_neg w2]
  by_cases w3 : kd = 3
  · rw [if_pos w3]
    exact hct _ _ (fun j => b2 _) j
  rw [if_neg w3]
  by_cases w4 : kd = 4
  · rw [if_pos w4]
    exact hwd _ _ _
  rw [if_neg w4]
  by_cases w5 : kd = 5
  · rw [if_pos w5]
    exact hct _ _ (fun j => b3 _) j
  rw [if_neg w5]
  by_cases w6 : kd = 6
  · rw [if_pos w6]
    split
    · exact hup _ _ _ z0 (by omega) j
    · exact hct _ _ (fun j => Nat.lt_trans (b4 _) (by omega)) j
  rw [if_neg w6]
  by_cases w7 : kd = 7
  · rw [if_pos w7]
    split
    · exact hwd _ _ _
    · exact hct _ _ b6 j
  rw [if_neg w7]
  by_cases w8 : kd = 8
  · rw [if_pos w8]
    exact hpb _ _ _ _ (hpb _ _ _ _ (hpb _ _ _ _ (hpb _ _ _ _ (hpb _ _ _ _ z0)))) j
  rw [if_neg w8]
  by_cases w9 : kd = 9
  · rw [if_pos w9]
    exact hpb _ _ _ _ (hpb _ _ _ _ (hpb _ _ _ _ (hpb _ _ _ _ (hpb _ _ _ _ z0)))) j
  rw [if_neg w9]
  by_cases w10 : kd = 10
  · rw [if_pos w10]
    exact hpb _ _ _ _ (hpb _ _ _ _ (hpb _ _ _ _ (hpb _ _ _ _ (hpb _ _ _ _ (hpb _ _ _ _ z0))))) j
  rw [if_neg w10]
  by_cases w11 : kd = 11
  · rw [if_pos w11]
    exact hup _ _ _ (hpb _ _ _ _ (hpb _ _ _ _ (hpb _ _ _ _ z0))) (by have := b7 ix; omega) j
  rw [if_neg w11]
  by_cases w12 : kd = 12
  · rw [if_pos w12]
    split
    · exact z0 j
    · exact hpb _ _ _ _ (hpb _ _ _ _ (hup _ _ _ (hup _ _ _ (hup _ _ _ (hup _ _ _ z0 (by omega)) (b9 ix).1) (b9 ix).2.1) (b9 ix).2.2)) j
  rw [if_neg w12]
  by_cases w13 : kd = 13
  · rw [if_pos w13]
    exact hup _ _ _ (hup _ _ _ (hup _ _ _ z0 (by omega)) (b13 ix).1) (b13 ix).2 j
  rw [if_neg w13]
  by_cases w14 : kd = 14
  · rw [if_pos w14]
    exact hpb _ _ _ _ (hup _ _ _ (hup _ _ _ (hup _ _ _ (hup _ _ _ z0 (by omega)) (b16 ix).1) (b16 ix).2.1) (by have := (b16 ix).2.2; omega)) j
  rw [if_neg w14]
  exact hup _ _ _ (hup _ _ _ (hup _ _ _ z0 (by omega)) (b20 ix).1) (b20 ix).2 j
/-- the bytes of a key by its number -/
def xk (H : Kp) (k : Nat) : Nat → Nat := kx H (kdk k) (ixk k)
section Enc3
variable {N : mz_N} {H : Kp} {b : Bool} {k : Nat}
theorem enc1_c {M : mz_N} {kd ix i : Nat} (hb : kpb H) (hk : c_kp M b H) (h1 : 1 ≤ kd) (h2 : kd ≤ 15) (hix : ix < nky kd) (ht : kxt H kd ix) (hi : i < 16) : cp_122_0 (nI kd) (nI ix) (nI (28 * i)) M b ∧ cf_122_0 (nI kd) (nI ix) (nI (28 * i)) M b = mz_sI M 227 (stg i (kx H kd ix) (M.1 227)) := by
  obtain ⟨k1, k2, k3, k4, k5, k6, k6b, k7, k8, k8b, k9, k10, k11, k12, k13, k14, k15⟩ := hk
  obtain ⟨s1, s2⟩ := stg_0 (M := M) hi
  obtain ⟨t13, t14, t15⟩ := ht
  have b8 := hb.2.2.2.2.2.2.2.2.2.1
  have hcase : kd = 1 ∨ kd = 2 ∨ kd = 3 ∨ kd = 4 ∨ kd = 5 ∨ kd = 6 ∨ kd = 7 ∨ kd = 8 ∨ kd = 9 ∨ kd = 10 ∨ kd = 11 ∨ kd = 12 ∨ kd = 13 ∨ kd = 14 ∨ kd = 15 := by omega
  rw [cp_122_0, cf_122_0, s2]
  rcases hcase with w | w | w | w | w | w | w | w | w | w | w | w | w | w | w
  · subst w
    have hx : ix < 5 := hix
    obtain ⟨q1, q2⟩ := e1_c (i := i) (ix := ix) (o := M.1 227) hi hx hb k1
    rw [if_pos (show nI 1 = 1 from rfl)]
    exact ⟨⟨s1, ⟨fun _ => q1, fun w => absurd rfl w⟩⟩, q2⟩
  · subst w
    have hx : ix < 5 := hix
    obtain ⟨q1, q2⟩ := e2_c (i := i) (ix := ix) (o := M.1 227) hi hx hb k2
    rw [if_neg (show ¬ nI 2 = 1 by decide), if_pos (show nI 2 = 2 from rfl)]
    exact ⟨⟨s1, ⟨fun w => absurd w (show ¬ nI 2 = 1 by decide), fun _ => ⟨fun _ => q1, fun w => absurd rfl w⟩⟩⟩, q2⟩
  · subst w
    have hx : ix < 10 := hix
    have e : nI ix * 24 = nI (24 * ix) := by rw [show (24 : Int32) = nI 24 from rfl, pk_mul, Nat.mul_comm]
    have q1 : mz_cpk (nI (24 * ix)) (nI (28 * i)) 24 240 448 := cpk_n (c := 24) (by omega) (by omega) (by omega) (by omega)
    have q2 := stg_y (M := M) (i := i) (o := M.1 227) (q := 40) (s := 24 * ix) (f := fun t => H.1 2 (24 * ix + t)) (by decide) hi (by omega) (fun t ht => k3 _ (by omega))
    rw [e]
    rw [if_neg (show ¬ nI 3 = 1 by decide), if_neg (show ¬ nI 3 = 2 by decide), if_pos (show nI 3 = 3 from rfl)]
    exact ⟨⟨s1, ⟨fun w => absurd w (show ¬ nI 3 = 1 by decide), fun _ => ⟨fun w => absurd w (show ¬ nI 3 = 2 by decide), fun _ => ⟨fun _ => q1, fun w => absurd rfl w⟩⟩⟩⟩, q2⟩
  · subst w
    have hx : ix < 2 := hix
    obtain ⟨q1, q2⟩ := e4_c (i := i) (ix := ix) (o := M.1 227) hi hx k4
    rw [if_neg (show ¬ nI 4 = 1 by decide), if_neg (show ¬ nI 4 = 2 by decide), if_neg (show ¬ nI 4 = 3 by decide), if_pos (show nI 4 = 4 from rfl)]
    exact ⟨⟨s1, ⟨fun w => absurd w (show ¬ nI 4 = 1 by decide), fun _ => ⟨fun w => absurd w (show ¬ nI 4 = 2 by decide), fun _ => ⟨fun w => absurd w (show ¬ nI 4 = 3 by decide), fun _ => ⟨fun _ => q1, fun w => absurd rfl w⟩⟩⟩⟩⟩, q2⟩
  · subst w
    have hx : ix < 4 := hix
    have e : nI ix * 24 = nI (24 * ix) := by rw [show (24 : Int32) = nI 24 from rfl, pk_mul, Nat.mul_comm]
    have q1 : mz_cpk (nI (24 * ix)) (nI (28 * i)) 24 96 448 := cpk_n (c := 24) (by omega) (by omega) (by omega) (by omega)
    have q2 := stg_y (M := M) (i := i) (o := M.1 227) (q := 67) (s := 24 * ix) (f := fun t => H.1 3 (24 * ix + t)) (by decide) hi (by omega) (fun t ht => k5 _ (by omega))
    rw [e]
    rw [if_neg (show ¬ nI 5 = 1 by decide), if_neg (show ¬ nI 5 = 2 by decide), if_neg (show ¬ nI 5 = 3 by decide), if_neg (show ¬ nI 5 = 4 by decide), if_pos (show nI 5 = 5 from rfl)]
    exact ⟨⟨s1, ⟨fun w => absurd w (show ¬ nI 5 = 1 by decide), fun _ => ⟨fun w => absurd w (show ¬ nI 5 = 2 by decide), fun _ => ⟨fun w => absurd w (show ¬ nI 5 = 3 by decide), fun _ => ⟨fun w => absurd w (show ¬ nI 5 = 4 by decide), fun _ => ⟨fun _ => q1, fun w => absurd rfl w⟩⟩⟩⟩⟩⟩, q2⟩
  · subst w
    have hx : ix < 8 := hix
    obtain ⟨q1, q2⟩ := e6_c (i := i) (ix := ix) (o := M.1 227) hi hx hb k6 k6b
    rw [if_neg (show ¬ nI 6 = 1 by decide), if_neg (show ¬ nI 6 = 2 by decide), if_neg (show ¬ nI 6 = 3 by decide), if_neg (show ¬ nI 6 = 4 by decide), if_neg (show ¬ nI 6 = 5 by decide), if_pos (show nI 6 = 6 from rfl)]
    exact ⟨⟨s1, ⟨fun w => absurd w (show ¬ nI 6 = 1 by decide), fun _ => ⟨fun w => absurd w (show ¬ nI 6 = 2 by decide), fun _ => ⟨fun w => absurd w (show ¬ nI 6 = 3 by decide), fun _ => ⟨fun w => absurd w (show ¬ nI 6 = 4 by decide), fun _ => ⟨fun w => absurd w (show ¬ nI 6 = 5 by decide), fun _ => ⟨fun _ => q1, fun w => absurd rfl w⟩⟩⟩⟩⟩⟩⟩, q2⟩
  · subst w
    have hx : ix < 2 := hix
    obtain ⟨q1, q2⟩ := e7_c (i := i) (ix := ix) (o := M.1 227) hi hx k7
    rw [if_neg (show ¬ nI 7 = 1 by decide), if_neg (show ¬ nI 7 = 2 by decide), if_neg (show ¬ nI 7 = 3 by decide), if_neg (show ¬ nI 7 = 4 by decide), if_neg (show ¬ nI 7 = 5 by decide), if_neg (show ¬ nI 7 = 6 by decide), if_pos (show nI 7 = 7 from rfl)]
    exact ⟨⟨s1, ⟨fun w => absurd w (show ¬ nI 7 = 1 by decide), fun _ => ⟨fun w => absurd w (show ¬ nI 7 = 2 by decide), fun _ => ⟨fun w => absurd w (show ¬ nI 7 = 3 by decide), fun _ => ⟨fun w => absurd w (show ¬ nI 7 = 4 by decide), fun _ => ⟨fun w => absurd w (show ¬ nI 7 = 5 by decide), fun _ => ⟨fun w => absurd w (show ¬ nI 7 = 6 by decide), fun _ => ⟨fun _ => q1, fun w => absurd rfl w⟩⟩⟩⟩⟩⟩⟩⟩, q2⟩
  · subst w
    have hx : ix < 10 := hix
    obtain ⟨q1, q2⟩ := e8_c (i := i) (ix := ix) (o := M.1 227) hi hx (k8 _ (by omega)) (k8b _ hx)
    rw [if_neg (show ¬ nI 8 = 1 by decide), if_neg (show ¬ nI 8 = 2 by decide), if_neg (show ¬ nI 8 = 3 by decide), if_neg (show ¬ nI 8 = 4 by decide), if_neg (show ¬ nI 8 = 5 by decide), if_neg (show ¬ nI 8 = 6 by decide), if_neg (show ¬ nI 8 = 7 by decide), if_pos (show nI 8 = 8 from rfl)]
    exact ⟨⟨s1, ⟨fun w => absurd w (show ¬ nI 8 = 1 by decide), fun _ => ⟨fun w => absurd w (show ¬ nI 8 = 2 by decide), fun _ => ⟨fun w => absurd w (show ¬ nI 8 = 3 by decide), fun _ => ⟨fun w => absurd w (show ¬ nI 8 = 4 by decide), fun _ => ⟨fun w => absurd w (show ¬ nI 8 = 5 by decide), fun _ => ⟨fun w => absurd w (show ¬ nI 8 = 6 by decide), fun _ => ⟨fun w => absurd w (show ¬ nI 8 = 7 by decide), fun _ => ⟨fun _ => q1, fun w => absurd rfl w⟩⟩⟩⟩⟩⟩⟩⟩⟩, q2⟩
  · subst w
    obtain ⟨q1, q2⟩ := e9_c (i := i) (ix := ix) (o := M.1 227) hi k9
    rw [if_neg (show ¬ nI 9 = 1 by decide), if_neg (show ¬ nI 9 = 2 by decide), if_neg (show ¬ nI 9 = 3 by decide), if_neg (show ¬ nI 9 = 4 by decide), if_neg (show ¬ nI 9 = 5 by decide), if_neg (show ¬ nI 9 = 6 by decide), if_neg (show ¬ nI 9 = 7 by decide), if_neg (show ¬ nI 9 = 8 by decide), if_pos (show nI 9 = 9 from rfl)]
    exact ⟨⟨s1, ⟨fun w => absurd w (show ¬ nI 9 = 1 by decide), fun _ => ⟨fun w => absurd w (show ¬ nI 9 = 2 by decide), fun _ => ⟨fun w => absurd w (show ¬ nI 9 = 3 by decide), fun _ => ⟨fun w => absurd w (show ¬ nI 9 = 4 by decide), fun _ => ⟨fun w => absurd w (show ¬ nI 9 = 5 by decide), fun _ => ⟨fun w => absurd w (show ¬ nI 9 = 6 by decide), fun _ => ⟨fun w => absurd w (show ¬ nI 9 = 7 by decide), fun _ => ⟨fun w => absurd w (show ¬ nI 9 = 8 by decide), fun _ => ⟨fun _ => q1, fun w => absurd rfl w⟩⟩⟩⟩⟩⟩⟩⟩⟩⟩, q2⟩
  · subst w
    obtain ⟨q1, q2⟩ := e10_c (i := i) (ix := ix) (o := M.1 227) hi (k8 10 (by omega)) k10
    rw [if_neg (show ¬ nI 10 = 1 by decide), if_neg (show ¬ nI 10 = 2 by decide), if_neg (show ¬ nI 10 = 3 by decide), if_neg (show ¬ nI 10 = 4 by decide), if_neg (show ¬ nI 10 = 5 by decide), if_neg (show ¬ nI 10 = 6 by decide), if_neg (show ¬ nI 10 = 7 by decide), if_neg (show ¬ nI 10 = 8 by decide), if_neg (show ¬ nI 10 = 9 by decide), if_pos (show nI 10 = 10 from rfl)]
    exact ⟨⟨s1, ⟨fun w => absurd w (show ¬ nI 10 = 1 by decide), fun _ => ⟨fun w => absurd w (show ¬ nI 10 = 2 by decide), fun _ => ⟨fun w => absurd w (show ¬ nI 10 = 3 by decide), fun _ => ⟨fun w => absurd w (show ¬ nI 10 = 4 by decide), fun _ => ⟨fun w => absurd w (show ¬ nI 10 = 5 by decide), fun _ => ⟨fun w => absurd w (show ¬ nI 10 = 6 by decide), fun _ => ⟨fun w => absurd w (show ¬ nI 10 = 7 by decide), fun _ => ⟨fun w => absurd w (show ¬ nI 10 = 8 by decide), fun _ => ⟨fun w => absurd w (show ¬ nI 10 = 9 by decide), fun _ => ⟨fun _ => q1, fun w => absurd rfl w⟩⟩⟩⟩⟩⟩⟩⟩⟩⟩⟩, q2⟩
  · subst w
    have hx : ix < 3 := hix
    obtain ⟨q1, q2⟩ := e11_c (i := i) (ix := ix) (o := M.1 227) hi hx (k11 _ hx)
    rw [if_neg (show ¬ nI 11 = 1 by decide), if_neg (show ¬ nI 11 = 2 by decide), if_neg (show ¬ nI 11 = 3 by decide), if_neg (show ¬ nI 11 = 4 by decide), if_neg (show ¬ nI 11 = 5 by decide), if_neg (show ¬ nI 11 = 6 by decide), if_neg (show ¬ nI 11 = 7 by decide), if_neg (show ¬ nI 11 = 8 by decide), if_neg (show ¬ nI 11 = 9 by decide), if_neg (show ¬ nI 11 = 10 by decide), if_pos (show nI 11 = 11 from rfl)]
    exact ⟨⟨s1, ⟨fun w => absurd w (show ¬ nI 11 = 1 by decide), fun _ => ⟨fun w => absurd w (show ¬ nI 11 = 2 by decide), fun _ => ⟨fun w => absurd w (show ¬ nI 11 = 3 by decide), fun _ => ⟨fun w => absurd w (show ¬ nI 11 = 4 by decide), fun _ => ⟨fun w => absurd w (show ¬ nI 11 = 5 by decide), fun _ => ⟨fun w => absurd w (show ¬ nI 11 = 6 by decide), fun _ => ⟨fun w => absurd w (show ¬ nI 11 = 7 by decide), fun _ => ⟨fun w => absurd w (show ¬ nI 11 = 8 by decide), fun _ => ⟨fun w => absurd w (show ¬ nI 11 = 9 by decide), fun _ => ⟨fun w => absurd w (show ¬ nI 11 = 10 by decide), fun _ => ⟨fun _ => q1, fun w => absurd rfl w⟩⟩⟩⟩⟩⟩⟩⟩⟩⟩⟩⟩, q2⟩
  · subst w
    have hx : ix < 16 := hix
    obtain ⟨q1, q2⟩ := e12_c (i := i) (ix := ix) (o := M.1 227) hi hx (b8 ix) (k12 _ hx)
    rw [if_neg (show ¬ nI 12 = 1 by decide), if_neg (show ¬ nI 12 = 2 by decide), if_neg (show ¬ nI 12 = 3 by decide), if_neg (show ¬ nI 12 = 4 by decide), if_neg (show ¬ nI 12 = 5 by decide), if_neg (show ¬ nI 12 = 6 by decide), if_neg (show ¬ nI 12 = 7 by decide), if_neg (show ¬ nI 12 = 8 by decide), if_neg (show ¬ nI 12 = 9 by decide), if_neg (show ¬ nI 12 = 10 by decide), if_neg (show ¬ nI 12 = 11 by decide), if_pos (show nI 12 = 12 from rfl)]
    exact ⟨⟨s1, ⟨fun w => absurd w (show ¬ nI 12 = 1 by decide), fun _ => ⟨fun w => absurd w (show ¬ nI 12 = 2 by decide), fun _ => ⟨fun w => absurd w (show ¬ nI 12 = 3 by decide), fun _ => ⟨fun w => absurd w (show ¬ nI 12 = 4 by decide), fun _ => ⟨fun w => absurd w (show ¬ nI 12 = 5 by decide), fun _ => ⟨fun w => absurd w (show ¬ nI 12 = 6 by decide), fun _ => ⟨fun w => absurd w (show ¬ nI 12 = 7 by decide), fun _ => ⟨fun w => absurd w (show ¬ nI 12 = 8 by decide), fun _ => ⟨fun w => absurd w (show ¬ nI 12 = 9 by decide), fun _ => ⟨fun w => absurd w (show ¬ nI 12 = 10 by decide), fun _ => ⟨fun w => absurd w (show ¬ nI 12 = 11 by decide), fun _ => ⟨fun _ => q1, fun w => absurd rfl w⟩⟩⟩⟩⟩⟩⟩⟩⟩⟩⟩⟩⟩, q2⟩
  · subst w
    have hx : ix < 20 := hix
    obtain ⟨q1, q2⟩ := e13_c (i := i) (ix := ix) (o := M.1 227) (H := H) hi hx (by rw [(k13 _ hx).1, t13 rfl]; rfl) ((k13 _ hx).2 (t13 rfl))
    rw [if_neg (show ¬ nI 13 = 1 by decide), if_neg (show ¬ nI 13 = 2 by decide), if_neg (show ¬ nI 13 = 3 by decide), if_neg (show ¬ nI 13 = 4 by decide), if_neg (show ¬ nI 13 = 5 by decide), if_neg (show ¬ nI 13 = 6 by decide), if_neg (show ¬ nI 13 = 7 by decide), if_neg (show ¬ nI 13 = 8 by decide), if_neg (show ¬ nI 13 = 9 by decide), if_neg (show ¬ nI 13 = 10 by decide), if_neg (show ¬ nI 13 = 11 by decide), if_neg (show ¬ nI 13 = 12 by decide), if_pos (show nI 13 = 13 from rfl)]
    exact ⟨⟨s1, ⟨fun w => absurd w (show ¬ nI 13 = 1 by decide), fun _ => ⟨fun w => absurd w (show ¬ nI 13 = 2 by decide), fun _ => ⟨fun w => absurd w (show ¬ nI 13 = 3 by decide), fun _ => ⟨fun w => absurd w (show ¬ nI 13 = 4 by decide), fun _ => ⟨fun w => absurd w (show ¬ nI 13 = 5 by decide), fun _ => ⟨fun w => absurd w (show ¬ nI 13 = 6 by decide), fun _ => ⟨fun w => absurd w (show ¬ nI 13 = 7 by decide), fun _ => ⟨fun w => absurd w (show ¬ nI 13 = 8 by decide), fun _ => ⟨fun w => absurd w (show ¬ nI 13 = 9 by decide), fun _ => ⟨fun w => absurd w (show ¬ nI 13 = 10 by decide), fun _ => ⟨fun w => absurd w (show ¬ nI 13 = 11 by decide), fun _ => ⟨fun w => absurd w (show ¬ nI 13 = 12 by decide), fun _ => ⟨fun _ => q1, fun w => absurd rfl w⟩⟩⟩⟩⟩⟩⟩⟩⟩⟩⟩⟩⟩⟩, q2⟩
  · subst w
    have hx : ix < 40 := hix
    obtain ⟨q1, q2⟩ := e14_c (i := i) (ix := ix) (o := M.1 227) (H := H) hi hx (by rw [(k14 _ hx).1, t14 rfl]; rfl) ((k14 _ hx).2 (t14 rfl))
    rw [if_neg (show ¬ nI 14 = 1 by decide), if_neg (show ¬ nI 14 = 2 by decide), if_neg (show ¬ nI 14 = 3 by decide), if_neg (show ¬ nI 14 = 4 by decide), if_neg (show ¬ nI 14 = 5 by decide), if_neg (show ¬ nI 14 = 6 by decide), if_neg (show ¬ nI 14 = 7 by decide), if_neg (show ¬ nI 14 = 8 by decide), if_neg (show ¬ nI 14 = 9 by decide), if_neg (show ¬ nI 14 = 10 by decide), if_neg (show ¬ nI 14 = 11 by decide), if_neg (show ¬ nI 14 = 12 by decide), if_neg (show ¬ nI 14 = 13 by decide), if_pos (show nI 14 = 14 from rfl)]
    exact ⟨⟨s1, ⟨fun w => absurd w (show ¬ nI 14 = 1 by decide), fun _ => ⟨fun w => absurd w (show ¬ nI 14 = 2 by decide), fun _ => ⟨fun w => absurd w (show ¬ nI 14 = 3 by decide), fun _ => ⟨fun w => absurd w (show ¬ nI 14 = 4 by decide), fun _ => ⟨fun w => absurd w (show ¬ nI 14 = 5 by decide), fun _ => ⟨fun w => absurd w (show ¬ nI 14 = 6 by decide), fun _ => ⟨fun w => absurd w (show ¬ nI 14 = 7 by decide), fun _ => ⟨fun w => absurd w (show ¬ nI 14 = 8 by decide), fun _ => ⟨fun w => absurd w (show ¬ nI 14 = 9 by decide), fun _ => ⟨fun w => absurd w (show ¬ nI 14 = 10 by decide), fun _ => ⟨fun w => absurd w (show ¬ nI 14 = 11 by decide), fun _ => ⟨fun w => absurd w (show ¬ nI 14 = 12 by decide), fun _ => ⟨fun w => absurd w (show ¬ nI 14 = 13 by decide), fun _ => ⟨fun _ => q1, fun w => absurd rfl w⟩⟩⟩⟩⟩⟩⟩⟩⟩⟩⟩⟩⟩⟩⟩, q2⟩
  · subst w
    have hx : ix < 8 := hix
    obtain ⟨q1, q2⟩ := e15_c (i := i) (ix := ix) (o := M.1 227) (H := H) hi hx (by rw [(k15 _ hx).1, t15 rfl]; rfl) ((k15 _ hx).2 (t15 rfl))
    rw [if_neg (show ¬ nI 15 = 1 by decide), if_neg (show ¬ nI 15 = 2 by decide), if_neg (show ¬ nI 15 = 3 by decide), if_neg (show ¬ nI 15 = 4 by decide), if_neg (show ¬ nI 15 = 5 by decide), if_neg (show ¬ nI 15 = 6 by decide), if_neg (show ¬ nI 15 = 7 by decide), if_neg (show ¬ nI 15 = 8 by decide), if_neg (show ¬ nI 15 = 9 by decide), if_neg (show ¬ nI 15 = 10 by decide), if_neg (show ¬ nI 15 = 11 by decide), if_neg (show ¬ nI 15 = 12 by decide), if_neg (show ¬ nI 15 = 13 by decide), if_neg (show ¬ nI 15 = 14 by decide)]
    exact ⟨⟨s1, ⟨fun w => absurd w (show ¬ nI 15 = 1 by decide), fun _ => ⟨fun w => absurd w (show ¬ nI 15 = 2 by decide), fun _ => ⟨fun w => absurd w (show ¬ nI 15 = 3 by decide), fun _ => ⟨fun w => absurd w (show ¬ nI 15 = 4 by decide), fun _ => ⟨fun w => absurd w (show ¬ nI 15 = 5 by decide), fun _ => ⟨fun w => absurd w (show ¬ nI 15 = 6 by decide), fun _ => ⟨fun w => absurd w (show ¬ nI 15 = 7 by decide), fun _ => ⟨fun w => absurd w (show ¬ nI 15 = 8 by decide), fun _ => ⟨fun w => absurd w (show ¬ nI 15 = 9 by decide), fun _ => ⟨fun w => absurd w (show ¬ nI 15 = 10 by decide), fun _ => ⟨fun w => absurd w (show ¬ nI 15 = 11 by decide), fun _ => ⟨fun w => absurd w (show ¬ nI 15 = 12 by decide), fun _ => ⟨fun w => absurd w (show ¬ nI 15 = 13 by decide), fun _ => ⟨fun w => absurd w (show ¬ nI 15 = 14 by decide), fun _ => q1⟩⟩⟩⟩⟩⟩⟩⟩⟩⟩⟩⟩⟩⟩⟩, q2⟩
theorem enc_c (hb : kpb H) (hk : c_kp N b H) (h : k < 135) (ht : kxt H (kdk k) (ixk k)) : encC N b (xk H) k := by
  intro M i hf hi
  obtain ⟨q1, q2, -⟩ := kdk_ok k h
  have hM : c_kp M b H := c_kp_of (fun c hc => hf.1 c (by
    cases w : [227].contains c with
    | false => rfl
    | true =>
      have : c = 227 := by simpa using w
      subst this; cases hc)) (by rw [hf.2]; exact ⟨rfl, rfl, rfl⟩) hk
  obtain ⟨p1, p2⟩ := enc1_c hb hM q1 q2 (ixk_lt k h) ht hi
  exact ⟨p1, _, p2, fun j _ => rfl⟩
end Enc3
