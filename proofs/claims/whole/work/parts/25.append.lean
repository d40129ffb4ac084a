/-! PURE (25): a group of rows. -/
abbrev ap_S : Type := (Nat → Nat → Nat) × Int32 × Bool
def ap_1 (gk : Nat → Nat) (gc : Nat) (x : Nat → Nat → Nat) (a us : Nat) (g : Int64) (i : Nat) (s : ap_S) : ap_S := if s.2.2 = true then (dkw s.1 a (us + i) (rw0 (kdk (gk i)) (ixk (gk i)) (decide (i + 1 = gc)) (us + i) g (x (gk i))) (decide (s.2.1 ≠ 0)), fus1 s.2.1, decide (s.2.1 ≠ 0)) else s
def ap (gk : Nat → Nat) (gc : Nat) (x : Nat → Nat → Nat) (a us : Nat) (g : Int64) (d : Nat → Nat → Nat) (z : Int32) (i : Nat) : ap_S := it (ap_1 gk gc x a us g) i (d, z, true)
theorem ap_s {gk : Nat → Nat} {gc : Nat} {x : Nat → Nat → Nat} {a us : Nat} {g : Int64} {d : Nat → Nat → Nat} {z : Int32} {i : Nat} : ap gk gc x a us g d z (i + 1) = ap_1 gk gc x a us g i (ap gk gc x a us g d z i) := rfl
theorem ap_stay {gk : Nat → Nat} {gc : Nat} {x : Nat → Nat → Nat} {a us : Nat} {g : Int64} {d : Nat → Nat → Nat} {z : Int32} {k : Nat} (hf : (ap gk gc x a us g d z k).2.2 = false) : ∀ j, k ≤ j → ap gk gc x a us g d z j = ap gk gc x a us g d z k := by
  intro j
  induction j with
  | zero => intro h; have : k = 0 := by omega
            rw [this]
  | succ j ih =>
    intro hkj
    by_cases w : k = j + 1
    · rw [w]
    · rw [ap_s, ih (by omega)]
      unfold ap_1
      rw [if_neg (fun q => by rw [hf] at q; cases q)]
theorem ap_lt {gk : Nat → Nat} {gc : Nat} {x : Nat → Nat → Nat} {a us : Nat} {g : Int64} {d : Nat → Nat → Nat} {z : Int32} (hd : ∀ a j, d a j < 256) (hg : ∀ i, i < gc → gk i < 135) (hx : ∀ k j, x k j < 256) : ∀ {i : Nat}, i ≤ gc → ∀ a' j, (ap gk gc x a us g d z i).1 a' j < 256 := by
  intro i
  induction i with
  | zero => intro _; exact hd
  | succ i ih =>
    intro hi
    have h := ih (by omega)
    rw [ap_s]
    unfold ap_1
    split
    · obtain ⟨k1, k2, k3, k4, k5, -⟩ := kdk_ok (gk i) (hg i (by omega))
      exact dkw_lt h (rw0_lt2 (by omega) (by omega) (hx _))
    · exact h
theorem ap_fus {gk : Nat → Nat} {gc : Nat} {x : Nat → Nat → Nat} {a us : Nat} {g : Int64} {d : Nat → Nat → Nat} {z : Int32} (hz : fus z) : ∀ {i : Nat}, fus (ap gk gc x a us g d z i).2.1 := by
  intro i
  induction i with
  | zero => exact hz
  | succ i ih =>
    rw [ap_s]
    generalize ap gk gc x a us g d z i = s at *
    unfold ap_1
    split
    · simp only
      by_cases h0 : s.2.1 = 0
      · rw [h0]; exact Or.inr ⟨0, by omega, rfl⟩
      · exact fus_1 ih h0
    · exact ih
/-- the keys, when a group has been written -/
def gkt (gk : Nat → Nat) (kt : Nat → Bool) : Nat → Nat → Bool
  | 0 => kt
  | i + 1 => up (gkt gk kt i) (gk i) true
def gkb (gk : Nat → Nat) (x kb : Nat → Nat → Nat) : Nat → Nat → Nat → Nat
  | 0 => kb
  | i + 1 => up (gkb gk x kb i) (gk i) (x (gk i))
section App
variable {N : mz_N} {kt : Nat → Bool} {kb x : Nat → Nat → Nat} {d : Nat → Nat → Nat} {gk : Nat → Nat} {gc : Nat}
theorem c_app2 (hgc : gc ≤ 16) (h11 : N.1 219 11 = nI gc) (hg : ∀ i, i < gc → N.1 226 i = nI (gk i) ∧ gk i < 135) (hst : ∀ i, i < gc → ∀ j, j < 28 → N.1 227 (28 * i + j) = nI (x (gk i) j)) (hkb : ∀ k, k < 135 → ∀ j, j < 28 → N.1 223 (28 * k + j) = nI (kb k j)) (hkt : ∀ k, k < 135 → N.1 224 k = nI (b1 (kt k))) :
    cp_139_109 0 N ∧ ∃ f h, cf_139_109 0 N = (true, mz_sI (mz_sI N 223 f) 224 h) ∧ (∀ k, k < 135 → ∀ j, j < 28 → f (28 * k + j) = nI (gkb gk x kb gc k j)) ∧ ∀ k, k < 135 → h k = nI (b1 (gkt gk kt gc k)) := by
  refine mz_lpn (f := cq_139_109) (P := cd_139_109) (Q := fun t => ∃ f h, t = (true, mz_sI (mz_sI N 223 f) 224 h) ∧ (∀ k, k < 135 → ∀ j, j < 28 → f (28 * k + j) = nI (gkb gk x kb gc k j)) ∧ ∀ k, k < 135 → h k = nI (b1 (gkt gk kt gc k))) gc (fun t s => ∃ f h, s = (nI t, mz_sI (mz_sI N 223 f) 224 h) ∧ (∀ k, k < 135 → ∀ j, j < 28 → f (28 * k + j) = nI (gkb gk x kb t k j)) ∧ ∀ k, k < 135 → h k = nI (b1 (gkt gk kt t k))) ?_ ?_ (Nat.zero_le _) ⟨N.1 223, N.1 224, by rw [sI_same, sI_same]; rfl, hkb, hkt⟩
  · rintro t s ht ⟨f, h, rfl, hf, hh⟩
    obtain ⟨g1, g2⟩ := hg t ht
    have e11 : (mz_sI (mz_sI N 223 f) 224 h).1 219 11 = nI gc := by rw [sI_n (by decide), sI_n (by decide)]; exact h11
    have e26 : mz_gI (mz_sI (mz_sI N 223 f) 224 h) 226 (nI t) = nI (gk t) := by rw [gI_a, sI_n (by decide), sI_n (by decide), nI_clamp (by omega)]; exact g1
    have ey : mz_yI (mz_sI (mz_sI N 223 f) 224 h) 227 (nI (t * 28)) 223 (nI (gk t * 28)) (nI 28) = mz_sI (mz_sI N 223 (va_cpy (N.1 227) f (t * 28) (gk t * 28) 28)) 224 h := by
      rw [yI_s, nI_clamp (by omega), nI_clamp (by omega), nI_clamp (by omega), sI_n (by decide), sI_n (by decide), sI_n (by decide), sI_e, sI_comm (a := 224) (b := 223) (by decide), sI_sI]
    have e26b : mz_gI (mz_sI (mz_sI N 223 (va_cpy (N.1 227) f (t * 28) (gk t * 28) 28)) 224 h) 226 (nI t) = nI (gk t) := by rw [gI_a, sI_n (by decide), sI_n (by decide), nI_clamp (by omega)]; exact g1
    have hcpk : mz_cpk (nI (t * 28)) (nI (gk t * 28)) (nI 28) 448 3780 := cpk_n (by omega) (by omega) (by omega) (by omega)
    simp (disch := omega) only [cd_139_109, cq_139_109, nI_ltI, e11, ht, e26, (show (28 : Int32) = nI 28 from rfl), pk_mul, ey, e26b, hcpk, nI_1, ib_i, not_false_eq_true, not_true_eq_false, if_true, if_false, true_implies, false_implies, implies_true, and_true, true_and]
    refine ⟨by omega, Or.inl ⟨_, rfl, va_cpy (N.1 227) f (t * 28) (gk t * 28) 28, upd h (gk t) 1, ?_, ?_, ?_⟩⟩
    · rw [wI_s, sI_e, sI_sI, nI_clamp (by omega)]
    · intro k hk j hj
      rw [cpy_a, gkb, up_d]
      by_cases w : k = gk t
      · rw [if_pos (by omega), if_pos w, show t * 28 + (28 * k + j - gk t * 28) = 28 * t + j by omega, hst t ht j hj]
      · rw [if_neg (by omega), if_neg w]; exact hf k hk j hj
    · intro k hk
      rw [up_a, gkt, up_d]
      by_cases w : k = gk t
      · rw [if_pos w, if_pos w]; rfl
      · rw [if_neg w, if_neg w]; exact hh k hk
  · rintro s ⟨f, h, rfl, hf, hh⟩
    have e11 : (mz_sI (mz_sI N 223 f) 224 h).1 219 11 = nI gc := by rw [sI_n (by decide), sI_n (by decide)]; exact h11
    simp (disch := omega) only [cd_139_109, cq_139_109, nI_ltI, e11, Nat.lt_irrefl, not_false_eq_true, not_true_eq_false, if_true, if_false, true_implies, false_implies, implies_true, and_true, true_and]
    exact ⟨_, rfl, f, h, rfl, hf, hh⟩
theorem c_app {a us gn : Nat} {z : Int32} (ha : a < 2) (hgn : gn < 2 ^ 31) (hgc : gc ≤ 16) (hus : us + gc ≤ 200) (h4 : N.1 219 4 = nI a) (h5 : N.1 219 5 = nI gn) (h6 : N.1 219 6 = nI us) (h8 : N.1 219 8 = z) (h11 : N.1 219 11 = nI gc) (hg : ∀ i, i < gc → N.1 226 i = nI (gk i) ∧ gk i < 135) (hst : ∀ i, i < gc → ∀ j, j < 28 → N.1 227 (28 * i + j) = nI (x (gk i) j)) (hx : ∀ k j, x k j < 256) (hkb : ∀ k, k < 135 → ∀ j, j < 28 → N.1 223 (28 * k + j) = nI (kb k j)) (hkt : ∀ k, k < 135 → N.1 224 k = nI (b1 (kt k))) (hd : c_dk d N) (hd2 : ∀ a j, d a j < 256) :
    cp_139_0 N ∧ ∃ K, cf_139_0 N = ((ap gk gc x a us (lN gn) d z gc).2.2, K) ∧ c_dk (ap gk gc x a us (lN gn) d z gc).1 K ∧
      ((ap gk gc x a us (lN gn) d z gc).2.2 = true → fr [219, 221, 222, 223, 224, 225] N K ∧ K.1 219 = upd (upd (N.1 219) 8 (ap gk gc x a us (lN gn) d z gc).2.1) 6 (nI (us + gc)) ∧ (∀ k, k < 135 → ∀ j, j < 28 → K.1 223 (28 * k + j) = nI (gkb gk x kb gc k j)) ∧ ∀ k, k < 135 → K.1 224 k = nI (b1 (gkt gk kt gc k))) ∧
      ((ap gk gc x a us (lN gn) d z gc).2.2 = false → fr [219, 221, 222, 225] N K ∧ K.1 219 7 = 1) := by
  refine mz_lpn (f := cq_139_2) (P := cd_139_2) (Q := fun t => ∃ K, t = ((ap gk gc x a us (lN gn) d z gc).2.2, K) ∧ c_dk (ap gk gc x a us (lN gn) d z gc).1 K ∧ ((ap gk gc x a us (lN gn) d z gc).2.2 = true → fr [219, 221, 222, 223, 224, 225] N K ∧ K.1 219 = upd (upd (N.1 219) 8 (ap gk gc x a us (lN gn) d z gc).2.1) 6 (nI (us + gc)) ∧ (∀ k, k < 135 → ∀ j, j < 28 → K.1 223 (28 * k + j) = nI (gkb gk x kb gc k j)) ∧ ∀ k, k < 135 → K.1 224 k = nI (b1 (gkt gk kt gc k))) ∧ ((ap gk gc x a us (lN gn) d z gc).2.2 = false → fr [219, 221, 222, 225] N K ∧ K.1 219 7 = 1)) gc
    (fun i s => ∃ M, s = (nI i, M) ∧ (ap gk gc x a us (lN gn) d z i).2.2 = true ∧ fr [219, 221, 222, 225] N M ∧ c_dk (ap gk gc x a us (lN gn) d z i).1 M ∧ M.1 219 = upd (upd (N.1 219) 8 (ap gk gc x a us (lN gn) d z i).2.1) 6 (nI (us + i))) ?_ ?_ (Nat.zero_le _) ⟨N, rfl, rfl, fr_refl _ _, hd, ?_⟩
  · rintro i s hi ⟨M, rfl, hok, m1, m2, m3⟩
    obtain ⟨g1, g2⟩ := hg i hi
    have e := ap_s (gk := gk) (gc := gc) (x := x) (a := a) (us := us) (g := lN gn) (d := d) (z := z) (i := i)
    have st := ap_stay (gk := gk) (gc := gc) (x := x) (a := a) (us := us) (g := lN gn) (d := d) (z := z) (k := i + 1)
    generalize hS : ap gk gc x a us (lN gn) d z i = S at *
    have e1 : ap_1 gk gc x a us (lN gn) i S = (dkw S.1 a (us + i) (rw0 (kdk (gk i)) (ixk (gk i)) (decide (i + 1 = gc)) (us + i) (lN gn) (x (gk i))) (decide (S.2.1 ≠ 0)), fus1 S.2.1, decide (S.2.1 ≠ 0)) := by
      unfold ap_1; rw [if_pos hok]
    rw [e1] at e
    have k11 : M.1 219 11 = nI gc := by rw [m3, up_a, if_neg (by decide), up_a, if_neg (by decide)]; exact h11
    have k6 : M.1 219 6 = nI (us + i) := by rw [m3, up_a, if_pos rfl]
    have k5 : M.1 219 5 = nI gn := by rw [m3, up_a, if_neg (by decide), up_a, if_neg (by decide)]; exact h5
    have k4 : M.1 219 4 = nI a := by rw [m3, up_a, if_neg (by decide), up_a, if_neg (by decide)]; exact h4
    have k8 : M.1 219 8 = S.2.1 := by rw [m3, up_a, if_neg (by decide), up_a, if_pos rfl]
    have e26 : mz_gI M 226 (nI i) = nI (gk i) := by rw [gI_a, nI_clamp (by omega), m1.1 226 rfl]; exact g1
    obtain ⟨kd1, kd2⟩ := kd_c g2
    obtain ⟨ix1, ix2⟩ := ix_c g2
    obtain ⟨q1, q2, q3, q4, q5, -⟩ := kdk_ok (gk i) g2
    obtain ⟨r1, r2, K, r3, r4, r5⟩ := c_row (N := M) (d := S.1) (a := a) (n := us + i) (kd := kdk (gk i)) (ix := ixk (gk i)) (s := 227) (p := i) (la := decide (i + 1 = gc)) (gn := gn) (z := S.2.1) (pay := x (gk i)) (M := M) ha (by omega) (by omega) (by omega) hgn ⟨fr_refl _ _, m2, by
        funext k; rw [up_a]; by_cases w : k = 8
        · rw [if_pos w, w, k8]
        · rw [if_neg w]⟩ rfl (fun j hj => by rw [m1.1 227 rfl]; exact hst i hi j hj) (hx _) (by omega)
    have hcpk : mz_cpk (nI i * 28) 12 28 448 48 := by
      rw [show (28 : Int32) = nI 28 from rfl, pk_mul]
      exact cpk_n (a := i * 28) (b := 12) (c := 28) (by omega) (by omega) (by omega) (by omega)
    -- the row as it stands before its line
    have hL : ∀ c, c ≠ 225 → (mz_yI (cf_12_0 (nI (kdk (gk i))) (nI (ixk (gk i))) (decide (i + 1 = gc)) (nI (us + i)) (nI gn) M) 227 (nI i * 28) 225 12 28).1 c = M.1 c := by
      intro c hc
      obtain ⟨-, f, y1, -⟩ := c_cmp (N := M) (kd := kdk (gk i)) (ix := ixk (gk i)) (n := us + i) (la := decide (i + 1 = gc)) (age := nI gn) (by omega)
      rw [y1, yI_s, sI_n hc, sI_n hc]
    have hlast : (nI i = nI gc - 1) ↔ (i + 1 = gc) := by
      rw [show (1 : Int32) = nI 1 from rfl, pk_sub (by omega), nI_eq (by omega) (by omega)]; omega
    have e44 : cp_139_44 (nI (kdk (gk i))) (nI (ixk (gk i))) (decide (i + 1 = gc)) (nI i) M ∧ cf_139_44 (nI (kdk (gk i))) (nI (ixk (gk i))) (decide (i + 1 = gc)) (nI i) M = (if S.2.1 = 0 then .inr (false, K) else .inl (nI (i + 1), mz_pI K 219 6 (K.1 219 6 + 1))) := by
      rw [cp_139_44, cf_139_44, cp_139_74, cf_139_74, k6, k5, hL 219 (by decide), k4, k6, r3]
      refine ⟨⟨r1, hcpk, r2⟩, ?_⟩
      by_cases h0 : S.2.1 = 0
      · simp [h0]
      · simp only [h0, ne_eq, not_false_eq_true, decide_true, if_true, if_false, nI_1]
    have hst2 : cd_139_2 (nI i, M) ∧ cq_139_2 (nI i, M) = (if S.2.1 = 0 then .inr (false, K) else .inl (nI (i + 1), mz_pI K 219 6 (K.1 219 6 + 1))) := by
      by_cases hl : i + 1 = gc
      · rw [decide_eq_true hl] at e44
        simp (disch := omega) only [cd_139_2, cq_139_2, nI_ltI, k11, hi, e26, kd1, kd2, ix1, ix2, hlast, hl, e44, ib_i, not_false_eq_true, not_true_eq_false, if_true, if_false, true_implies, false_implies, implies_true, and_true, true_and]
        omega
      · rw [decide_eq_false hl] at e44
        simp (disch := omega) only [cd_139_2, cq_139_2, nI_ltI, k11, hi, e26, kd1, kd2, ix1, ix2, hlast, hl, e44, ib_i, not_false_eq_true, not_true_eq_false, if_true, if_false, true_implies, false_implies, implies_true, and_true, true_and]
        omega
    refine ⟨hst2.1, ?_⟩
    by_cases h0 : S.2.1 = 0
    · rw [if_pos h0] at hst2
      rw [show decide (S.2.1 ≠ 0) = false from decide_eq_false (fun w => w h0)] at e
      obtain ⟨x1, x2, x3⟩ := r5 h0
      have hfin := st (by rw [e]) gc (by omega)
      refine Or.inr ⟨_, hst2.2, K, ?_, ?_, fun w => ?_, fun _ => ⟨fr_trans m1 x1, ?_⟩⟩
      · rw [hfin, e]
      · rw [hfin, e]; exact x2
      · rw [hfin, e] at w; cases w
      · rw [x3, up_a, if_pos rfl]
    · rw [if_neg h0] at hst2
      rw [show decide (S.2.1 ≠ 0) = true from decide_eq_true h0] at e
      obtain ⟨x1, x2, x3⟩ := r4 h0
      refine Or.inl ⟨_, hst2.2, _, rfl, by rw [e], fr_pI (fr_trans m1 x1) rfl, ?_, ?_⟩
      · rw [e]; intro a' ha' j hj; rw [pI_s, sI_n (by omega)]; exact x2 a' ha' j hj
      · have k6b : K.1 219 6 = nI (us + i) := by rw [x3, up_a, if_neg (by decide)]; exact k6
        rw [pI_s, sI_e, k6b, nI_1, x3, m3, e]
        funext k
        simp only [up_a]
        by_cases w : k = 6
        · simp [w]; rfl
        · by_cases w8 : k = 8
          · simp [w8]
          · simp [w, w8]
  · rintro s ⟨M, rfl, hok, m1, m2, m3⟩
    have k11 : M.1 219 11 = nI gc := by rw [m3, up_a, if_neg (by decide), up_a, if_neg (by decide)]; exact h11
    obtain ⟨q1, f, h, q2, q3, q4⟩ := c_app2 (N := M) (kt := kt) (kb := kb) (x := x) (gk := gk) (gc := gc) hgc k11 (fun i hi => by rw [m1.1 226 rfl]; exact hg i hi) (fun i hi j hj => by rw [m1.1 227 rfl]; exact hst i hi j hj) (fun k hk j hj => by rw [m1.1 223 rfl]; exact hkb k hk j hj) (fun k hk => by rw [m1.1 224 rfl]; exact hkt k hk)
    simp (disch := omega) only [cd_139_2, cq_139_2, nI_ltI, k11, Nat.lt_irrefl, q1, q2, not_false_eq_true, not_true_eq_false, if_true, if_false, true_implies, false_implies, implies_true, and_true, true_and]
    refine ⟨_, rfl, _, by rw [hok], ?_, fun _ => ⟨fr_sI (fr_sI (fr_sub m1 rfl) rfl) rfl, ?_, ?_, ?_⟩, fun w => ?_⟩
    · intro a' ha' j hj; rw [sI_n (by omega), sI_n (by omega)]; exact m2 a' ha' j hj
    · rw [sI_n (by decide), sI_n (by decide)]; exact m3
    · intro k hk j hj; rw [sI_n (by decide), sI_e]; exact q3 k hk j hj
    · intro k hk; rw [sI_e]; exact q4 k hk
    · rw [hok] at w; cases w
  · funext k
    simp only [up_a]
    by_cases w : k = 6
    · simp [w, h6]
    · by_cases w8 : k = 8
      · simp [w8, ← h8]; rfl
      · simp [w, w8]
end App
