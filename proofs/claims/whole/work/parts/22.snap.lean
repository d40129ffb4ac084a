/-! PURE (22): a snapshot: disk, fuse, rows so far, whether the power held. -/
abbrev sn_S : Type := (Nat → Nat → Nat) × Int32 × Nat × Bool
def sn_1 (kt : Nat → Bool) (kb : Nat → Nat → Nat) (to m : Nat) (g : Int64) (k : Nat) (s : sn_S) : sn_S := if s.2.2.2 = true ∧ kt k = true then (dkw s.1 to (s.2.2.1 + 1) (rw0 (kdk k) (ixk k) (decide (s.2.2.1 + 1 = m)) (s.2.2.1 + 1) g (kb k)) (decide (s.2.1 ≠ 0)), fus1 s.2.1, s.2.2.1 + 1, decide (s.2.1 ≠ 0)) else s
def sn_k (kt : Nat → Bool) (kb : Nat → Nat → Nat) (to : Nat) (g : Int64) (d : Nat → Nat → Nat) (z : Int32) (k : Nat) : sn_S := it (sn_1 kt kb to (cnt kt 135) g) k (d, z, 0, true)
/-- the bytes of a head -/
def hdp (m i : Nat) : Nat := if i < 4 then lb (lN m) i else 0
def sn_h (to m : Nat) (g : Int64) (s : sn_S) : sn_S := if s.2.2.2 = true then (dkw s.1 to 0 (rw0 0 0 true 0 g (hdp m)) (decide (s.2.1 ≠ 0)), fus1 s.2.1, s.2.2.1, decide (s.2.1 ≠ 0)) else s
/-- a whole snapshot -/
def sn (kt : Nat → Bool) (kb : Nat → Nat → Nat) (to : Nat) (g : Int64) (d : Nat → Nat → Nat) (z : Int32) : sn_S := sn_h to (cnt kt 135) g (sn_k kt kb to g d z 135)
theorem hdp_lt (m i : Nat) : hdp m i < 256 := by unfold hdp; split; exact lb_lt _ _; omega
theorem dkw_lt {d : Nat → Nat → Nat} {a n : Nat} {r : Nat → Nat} {full : Bool} (hd : ∀ a j, d a j < 256) (hr : ∀ j, r j < 256) (a' j : Nat) : dkw d a n r full a' j < 256 := by
  unfold dkw rwk
  repeat' split
  all_goals first | omega | exact hr _ | exact lb_lt _ _ | exact hd _ _
theorem rw0_lt2 {kd ix n : Nat} {la : Bool} {g : Int64} {pay : Nat → Nat} (h1 : kd < 256) (h2 : ix < 256) (h3 : ∀ i, pay i < 256) (j : Nat) : rw0 kd ix la n g pay j < 256 := rw0_lt h1 h2 (fun i _ => h3 i) j
theorem sn_row {kt : Nat → Bool} {kb : Nat → Nat → Nat} {to : Nat} {g : Int64} {d : Nat → Nat → Nat} {z : Int32} : ∀ {k : Nat}, (sn_k kt kb to g d z k).2.2.2 = true → (sn_k kt kb to g d z k).2.2.1 = cnt kt k := by
  intro k
  induction k with
  | zero => intro _; rfl
  | succ k ih =>
    intro h
    rw [sn_k, it] at h ⊢
    rw [sn_k] at ih
    generalize it (sn_1 kt kb to (cnt kt 135) g) k (d, z, 0, true) = s at *
    unfold sn_1 at h ⊢
    by_cases hc : s.2.2.2 = true ∧ kt k = true
    · rw [if_pos hc] at h ⊢
      rw [cnt_s hc.2, ← ih hc.1]
    · rw [if_neg hc] at h ⊢
      rw [cnt_sn (by cases e : kt k with | false => rfl | true => exact absurd ⟨h, e⟩ hc)]
      exact ih h
theorem sn_lt {kt : Nat → Bool} {kb : Nat → Nat → Nat} {to : Nat} {g : Int64} {d : Nat → Nat → Nat} {z : Int32} (hd : ∀ a j, d a j < 256) (hb : ∀ k i, kb k i < 256) : ∀ {k : Nat}, k ≤ 135 → ∀ a j, (sn_k kt kb to g d z k).1 a j < 256 := by
  intro k
  induction k with
  | zero => intro _; exact hd
  | succ k ih =>
    intro hk
    have h := ih (by omega)
    rw [sn_k, it]
    rw [sn_k] at h
    unfold sn_1
    split
    · obtain ⟨k1, k2, k3, k4, k5, -⟩ := kdk_ok k (by omega)
      exact dkw_lt h (rw0_lt2 (by omega) (by omega) (hb k))
    · exact h
theorem sn_fus {kt : Nat → Bool} {kb : Nat → Nat → Nat} {to : Nat} {g : Int64} {d : Nat → Nat → Nat} {z : Int32} (hz : fus z) : ∀ {k : Nat}, fus (sn_k kt kb to g d z k).2.1 := by
  intro k
  induction k with
  | zero => exact hz
  | succ k ih =>
    have e : sn_k kt kb to g d z (k + 1) = sn_1 kt kb to (cnt kt 135) g k (sn_k kt kb to g d z k) := rfl
    rw [e]
    generalize sn_k kt kb to g d z k = s at *
    unfold sn_1
    split
    · simp only
      by_cases h0 : s.2.1 = 0
      · rw [h0]; exact Or.inr ⟨0, by omega, rfl⟩
      · exact fus_1 ih h0
    · exact ih
section Snp
variable {N : mz_N} {kt : Nat → Bool} {kb : Nat → Nat → Nat} {d : Nat → Nat → Nat}
/-- the class's memory while rows are written: disk, fuse -/
def c_w (N : mz_N) (d : Nat → Nat → Nat) (z : Int32) (M : mz_N) : Prop := fr [219, 221, 222, 225] N M ∧ c_dk d M ∧ M.1 219 = upd (N.1 219) 8 z
/-- .. and when the power failed -/
def c_x (N : mz_N) (d : Nat → Nat → Nat) (M : mz_N) : Prop := fr [219, 221, 222, 225] N M ∧ c_dk d M ∧ M.1 219 = upd (upd (N.1 219) 8 0) 7 1
theorem c_dkw {a : Nat} {M : mz_N} {r : Nat → Nat} {f g h : Nat → Int32} {n : Nat} {full : Bool} (ha : a < 2) (hd : c_dk d M) (hg : ∀ j, j < 9600 → g j = nI (dkw d a n r full a j)) : c_dk (dkw d a n r full) (mz_sI (mz_sI (mz_sI M 225 f) (221 + a) g) 219 h) := by
  intro a' ha' j hj
  rw [sI_n (by omega)]
  by_cases z : a' = a
  · subst z; rw [sI_e]; exact hg j hj
  · rw [sI_n (by omega), sI_n (by omega), hd a' ha' j hj]
    unfold dkw
    rw [if_neg (fun q => z q.1)]
/-- one row of the class: composed, filled, written -/
theorem c_row {a n kd ix s p : Nat} {la : Bool} {gn : Nat} {z : Int32} {pay : Nat → Nat} {M : mz_N} (ha : a < 2) (hn : n < 200) (hkd : kd < 256) (hix : ix < 256) (hgn : gn < 2 ^ 31) (hM : c_w N d z M) (hs : [219, 221, 222, 225].contains s = false) (hp : ∀ i, i < 28 → N.1 s (28 * p + i) = nI (pay i)) (hpay : ∀ i, pay i < 256) (hp2 : 28 * p < 2 ^ 30) :
    cp_12_0 (nI kd) (nI ix) la (nI n) (nI gn) M ∧ cp_15_0 (nI a) (nI n) (mz_yI (cf_12_0 (nI kd) (nI ix) la (nI n) (nI gn) M) s (nI p * 28) 225 12 28) ∧ ∃ K, cf_15_0 (nI a) (nI n) (mz_yI (cf_12_0 (nI kd) (nI ix) la (nI n) (nI gn) M) s (nI p * 28) 225 12 28) = (decide (z ≠ 0), K) ∧
      (z ≠ 0 → c_w N (dkw d a n (rw0 kd ix la n (lN gn) pay) true) (fus1 z) K) ∧ (z = 0 → c_x N (dkw d a n (rw0 kd ix la n (lN gn) pay) false) K) := by
  obtain ⟨m1, m2, m3⟩ := hM
  obtain ⟨q1, f, q2, q3⟩ := c_cmp (N := M) (kd := kd) (ix := ix) (n := n) (la := la) (age := nI gn) (by omega)
  have hs2 : s ≠ 225 := fun w => by rw [w] at hs; cases hs
  obtain ⟨f2, y2, y3⟩ := c_pay (N := M) (s := s) (p := p) (pay := pay) hs2 q3 (fun i hi => by rw [m1.1 s hs]; exact hp i hi) hp2
  rw [nI_l hgn] at y3
  rw [q2, y2]
  have h8 : (mz_sI M 225 f2).1 219 8 = z := by rw [sI_n (by decide), m3, up_a, if_pos rfl]
  obtain ⟨w1, f3, g3, w2, w3⟩ := c_line (N := mz_sI M 225 f2) (a := a) (n := n) (d := d) (r := rw0 kd ix la n (lN gn) pay) ha hn (fun j hj => by rw [sI_e]; exact y3 j hj) (fun j _ => rw0_lt2 hkd hix hpay j) (fun j hj => by rw [sI_n (by omega)]; exact m2 a ha j hj)
  rw [h8] at w2 w3
  have hfr : ∀ f g h, fr [219, 221, 222, 225] N (mz_sI (mz_sI (mz_sI (mz_sI M 225 f2) 225 f) (221 + a) g) 219 h) := by
    intro f g h
    refine fr_sI (fr_sI (fr_sI (fr_sI m1 rfl) rfl) ?_) rfl
    have : a = 0 ∨ a = 1 := by omega
    rcases this with w | w <;> rw [w] <;> rfl
  refine ⟨q1, w1, _, w2, fun h0 => ⟨hfr _ _ _, ?_, ?_⟩, fun h0 => ⟨hfr _ _ _, ?_, ?_⟩⟩
  · rw [decide_eq_true h0] at w3
    rw [sI_sI]
    exact c_dkw ha m2 w3
  · rw [sI_e, if_neg h0, sI_n (by decide), m3]
    funext k
    rw [up_a, up_a, up_a]
    by_cases w : k = 8
    · rw [if_pos w, if_pos w]
    · rw [if_neg w, if_neg w, if_neg w]
  · rw [decide_eq_false (fun w => w h0)] at w3
    rw [sI_sI]
    exact c_dkw ha m2 w3
  · rw [sI_e, if_pos h0, sI_n (by decide), m3, h0]
theorem c_snap1 {a1 a2 to gn : Nat} {z : Int32} (hto : to < 2) (hgn : gn < 2 ^ 31) (h1 : [219, 221, 222, 225].contains a1 = false) (h2 : [219, 221, 222, 225].contains a2 = false) (hkt : ∀ k, k < 135 → N.1 a2 k = nI (b1 (kt k))) (hkb : ∀ k, k < 135 → kt k = true → ∀ i, i < 28 → N.1 a1 (28 * k + i) = nI (kb k i)) (hkb2 : ∀ k i, kb k i < 256) (hd : c_dk d N) (hd2 : ∀ a j, d a j < 256) (hz : N.1 219 8 = z) :
    cp_137_45 a1 a2 (nI to) (nI gn) (nI (cnt kt 135)) 0 0 N ∧ ∃ K, cf_137_45 a1 a2 (nI to) (nI gn) (nI (cnt kt 135)) 0 0 N = ((sn kt kb to (lN gn) d z).2.2.2, K) ∧ fr [219, 221, 222, 225] N K ∧ c_dk (sn kt kb to (lN gn) d z).1 K ∧
      K.1 219 = if (sn kt kb to (lN gn) d z).2.2.2 = true then upd (upd (upd (upd (N.1 219) 8 (sn kt kb to (lN gn) d z).2.1) 4 (nI to)) 5 (nI gn)) 6 (nI (cnt kt 135 + 1)) else upd (upd (N.1 219) 8 0) 7 1 := by
  have hcnt : ∀ k, cnt kt k ≤ k := cnt_le kt
  have hc135 := hcnt 135
  -- once cut, it stays so
  have stay : ∀ k j, k ≤ j → (sn_k kt kb to (lN gn) d z k).2.2.2 = false → sn_k kt kb to (lN gn) d z j = sn_k kt kb to (lN gn) d z k := by
    intro k j hkj hf
    induction j with
    | zero => have : k = 0 := by omega
              rw [this]
    | succ j ih =>
      by_cases w : k = j + 1
      · rw [w]
      · have e := ih (by omega)
        have e2 : sn_k kt kb to (lN gn) d z (j + 1) = sn_1 kt kb to (cnt kt 135) (lN gn) j (sn_k kt kb to (lN gn) d z j) := rfl
        rw [e2, e]
        unfold sn_1
        rw [if_neg (fun q => by rw [hf] at q; cases q.1)]
  refine mz_lpn (f := cq_137_45 a1 a2 (nI to) (nI gn) (nI (cnt kt 135))) (P := cd_137_45 a1 a2 (nI to) (nI gn) (nI (cnt kt 135))) (Q := fun t => ∃ K, t = ((sn kt kb to (lN gn) d z).2.2.2, K) ∧ fr [219, 221, 222, 225] N K ∧ c_dk (sn kt kb to (lN gn) d z).1 K ∧ K.1 219 = if (sn kt kb to (lN gn) d z).2.2.2 = true then upd (upd (upd (upd (N.1 219) 8 (sn kt kb to (lN gn) d z).2.1) 4 (nI to)) 5 (nI gn)) 6 (nI (cnt kt 135 + 1)) else upd (upd (N.1 219) 8 0) 7 1) 135 (fun k s => ∃ M, s = (nI (sn_k kt kb to (lN gn) d z k).2.2.1, nI k, M) ∧ (sn_k kt kb to (lN gn) d z k).2.2.2 = true ∧ c_w N (sn_k kt kb to (lN gn) d z k).1 (sn_k kt kb to (lN gn) d z k).2.1 M) ?_ ?_ (Nat.zero_le _) ⟨N, rfl, rfl, fr_refl _ _, hd, ?_⟩
  · rintro k s hk ⟨M, rfl, hok, hM⟩
    have hrow := sn_row hok
    have hck := hcnt k
    have e : sn_k kt kb to (lN gn) d z (k + 1) = sn_1 kt kb to (cnt kt 135) (lN gn) k (sn_k kt kb to (lN gn) d z k) := rfl
    have hlt := sn_lt (kt := kt) (kb := kb) (to := to) (g := lN gn) (z := z) hd2 hkb2 (show k ≤ 135 by omega)
    have st := stay (k + 1)
    generalize hS : sn_k kt kb to (lN gn) d z k = S at *
    have g2 : mz_gI M a2 (nI k) = nI (b1 (kt k)) := by rw [gI_a, nI_clamp (by omega), hM.1.1 a2 h2, hkt k hk]
    cases hktk : kt k with
    | true =>
      rw [hktk] at g2
      obtain ⟨kd1, kd2⟩ := kd_c hk
      obtain ⟨ix1, ix2⟩ := ix_c hk
      obtain ⟨k1, k2, k3, k4, k5, -⟩ := kdk_ok k hk
      have e1 : sn_1 kt kb to (cnt kt 135) (lN gn) k S = (dkw S.1 to (S.2.2.1 + 1) (rw0 (kdk k) (ixk k) (decide (S.2.2.1 + 1 = cnt kt 135)) (S.2.2.1 + 1) (lN gn) (kb k)) (decide (S.2.1 ≠ 0)), fus1 S.2.1, S.2.2.1 + 1, decide (S.2.1 ≠ 0)) := by
        unfold sn_1; rw [if_pos ⟨hok, hktk⟩]
      rw [e1] at e
      obtain ⟨r1, r2, K, r3, r4, r5⟩ := c_row (N := N) (d := S.1) (a := to) (n := S.2.2.1 + 1) (kd := kdk k) (ix := ixk k) (s := a1) (p := k) (la := decide (S.2.2.1 + 1 = cnt kt 135)) (gn := gn) (z := S.2.1) (pay := kb k) (M := M) hto (by omega) (by omega) (by omega) hgn hM h1 (hkb k hk hktk) (hkb2 k) (by omega)
      have hcpk : mz_cpk (nI k * 28) 12 28 3780 48 := by
        rw [show (28 : Int32) = nI 28 from rfl, pk_mul]
        exact cpk_n (a := k * 28) (b := 12) (c := 28) (by omega) (by omega) (by omega) (by omega)
      by_cases h0 : S.2.1 = 0
      · have hz0 : decide (S.2.1 ≠ 0) = false := decide_eq_false (fun w => w h0)
        rw [hz0] at r3 e
        have hfin : sn kt kb to (lN gn) d z = sn_k kt kb to (lN gn) d z (k + 1) := by
          unfold sn
          rw [st 135 (by omega) (by rw [e]), sn_h, if_neg (by rw [e]; exact fun w => by cases w)]
        have hst : cd_137_45 a1 a2 (nI to) (nI gn) (nI (cnt kt 135)) (nI S.2.2.1, nI k, M) ∧ cq_137_45 a1 a2 (nI to) (nI gn) (nI (cnt kt 135)) (nI S.2.2.1, nI k, M) = .inr (false, K) := by
          by_cases hl : S.2.2.1 + 1 = cnt kt 135
          · rw [decide_eq_true hl] at r1 r2 r3
            simp (disch := omega) only [cd_137_45, cq_137_45, cp_137_87, cf_137_87, cp_137_123, cf_137_123, nI_ltI, (show (135 : Int32) = nI 135 from rfl), hk, g2, b1, nI_1, nI_eq, hl, kd1, kd2, ix1, ix2, ib_i, hcpk, show nI 1 = (1 : Int32) from rfl, if_true, true_implies, not_true_eq_false, false_implies, and_true, true_and]
            rw [← hl]
            simp only [r1, r2, r3, Bool.false_eq_true, not_false_eq_true, not_true_eq_false, if_true, if_false, true_implies, false_implies, implies_true, and_true, true_and]
          · rw [decide_eq_false hl] at r1 r2 r3
            simp (disch := omega) only [cd_137_45, cq_137_45, cp_137_87, cf_137_87, cp_137_123, cf_137_123, nI_ltI, (show (135 : Int32) = nI 135 from rfl), hk, g2, b1, nI_1, nI_eq, hl, kd1, kd2, ix1, ix2, ib_i, hcpk, r1, r2, r3, show nI 1 = (1 : Int32) from rfl, Bool.false_eq_true, not_false_eq_true, not_true_eq_false, if_true, if_false, true_implies, false_implies, implies_true, and_true, true_and]
        refine ⟨hst.1, Or.inr ⟨_, hst.2, K, ?_, ?_⟩⟩
        · rw [hfin, e]
        · rw [hfin, e]
          obtain ⟨x1, x2, x3⟩ := r5 h0
          exact ⟨x1, x2, by rw [if_neg (by exact fun w => by cases w)]; exact x3⟩
      · have hz0 : decide (S.2.1 ≠ 0) = true := decide_eq_true h0
        rw [hz0] at r3 e
        have hst : cd_137_45 a1 a2 (nI to) (nI gn) (nI (cnt kt 135)) (nI S.2.2.1, nI k, M) ∧ cq_137_45 a1 a2 (nI to) (nI gn) (nI (cnt kt 135)) (nI S.2.2.1, nI k, M) = .inl (nI (S.2.2.1 + 1), nI (k + 1), K) := by
          by_cases hl : S.2.2.1 + 1 = cnt kt 135
          · rw [decide_eq_true hl] at r1 r2 r3
            simp (disch := omega) only [cd_137_45, cq_137_45, cp_137_87, cf_137_87, cp_137_123, cf_137_123, nI_ltI, (show (135 : Int32) = nI 135 from rfl), hk, g2, b1, nI_1, nI_eq, hl, kd1, kd2, ix1, ix2, ib_i, hcpk, show nI 1 = (1 : Int32) from rfl, if_true, true_implies, not_true_eq_false, false_implies, and_true, true_and]
            rw [← hl]
            simp only [r1, r2, r3, not_false_eq_true, not_true_eq_false, if_true, if_false, true_implies, false_implies, implies_true, and_true, true_and]
          · rw [decide_eq_false hl] at r1 r2 r3
            simp (disch := omega) only [cd_137_45, cq_137_45, cp_137_87, cf_137_87, cp_137_123, cf_137_123, nI_ltI, (show (135 : Int32) = nI 135 from rfl), hk, g2, b1, nI_1, nI_eq, hl, kd1, kd2, ix1, ix2, ib_i, hcpk, r1, r2, r3, show nI 1 = (1 : Int32) from rfl, not_false_eq_true, not_true_eq_false, if_true, if_false, true_implies, false_implies, implies_true, and_true, true_and]
        refine ⟨hst.1, Or.inl ⟨_, hst.2, K, ?_, ?_, ?_⟩⟩
        · rw [e]
        · rw [e]
        · rw [e]; exact r4 h0
    | false =>
      rw [hktk] at g2
      have e1 : sn_1 kt kb to (cnt kt 135) (lN gn) k S = S := by
        unfold sn_1; rw [if_neg (fun w => by rw [hktk] at w; cases w.2)]
      rw [e1] at e
      have g3 : ¬ mz_gI M a2 (nI k) = 1 := by rw [g2]; decide
      simp (disch := omega) only [cd_137_45, cq_137_45, cp_137_123, cf_137_123, nI_ltI, (show (135 : Int32) = nI 135 from rfl), hk, g3, nI_1, ib_i, not_false_eq_true, not_true_eq_false, if_true, if_false, true_implies, false_implies, implies_true, and_true, true_and]
      exact Or.inl ⟨_, rfl, M, by rw [e], by rw [e]; exact hok, by rw [e]; exact hM⟩
  · rintro s ⟨M, rfl, hok, hM⟩
    have hlt := sn_lt (kt := kt) (kb := kb) (to := to) (g := lN gn) (z := z) hd2 hkb2 (Nat.le_refl 135)
    unfold sn
    generalize hS : sn_k kt kb to (lN gn) d z 135 = S at *
    obtain ⟨m1, m2, m3⟩ := hM
    obtain ⟨q1, f, q2, q3⟩ := c_cmp (N := M) (kd := 0) (ix := 0) (n := 0) (la := true) (age := nI gn) (by omega)
    rw [nI_l hgn] at q3
    rw [nI_0] at q1 q2
    obtain ⟨v1, f2, v2, v3⟩ := wr_c (a := 225) (n := 48) (p := 12) (k := 4) (v := (nI (cnt kt 135)).toInt64) (N := mz_sI M 225 f) (by omega) (by omega) (by omega)
    rw [sI_sI] at v2
    have v2' : cf_14_0 225 48 12 4 (nI (cnt kt 135)).toInt64 (mz_sI M 225 f) = mz_sI M 225 f2 := v2
    have hf2 : ∀ j, j < 48 → f2 j = nI (rw0 0 0 true 0 (lN gn) (hdp (cnt kt 135)) j) := by
      intro j hj
      rw [v3, sI_e]
      by_cases y : 12 ≤ j ∧ j < 12 + 4
      · rw [if_pos y, nI_l (by omega)]
        unfold rw0 hdp
        rw [if_neg (by omega), if_neg (by omega), if_neg (by omega), if_neg (by omega), if_neg (by omega), if_neg (by omega), if_pos (by omega), if_pos (by omega)]
      · rw [if_neg y, q3 j hj]
        refine congrArg nI ?_
        generalize cnt kt 135 = m
        unfold rw0 hdp
        by_cases y2 : j < 12
        · simp only [y2, if_true]
        · rw [show (if j - 12 < 4 then lb (lN m) (j - 12) else 0) = 0 from if_neg (by omega)]
    have h8 : (mz_sI M 225 f2).1 219 8 = S.2.1 := by rw [sI_n (by decide), m3, up_a, if_pos rfl]
    obtain ⟨w1, f3, g3, w2, w3⟩ := c_line (N := mz_sI M 225 f2) (a := to) (n := 0) (d := S.1) (r := rw0 0 0 true 0 (lN gn) (hdp (cnt kt 135))) hto (by omega) (fun j hj => by rw [sI_e]; exact hf2 j hj) (fun j _ => rw0_lt2 (by omega) (by omega) (hdp_lt _) j) (fun j hj => by rw [sI_n (by omega)]; exact m2 to hto j hj)
    rw [nI_0] at w1 w2
    rw [h8, sI_sI] at w2
    rw [h8] at w3
    have hfr : ∀ f g h, fr [219, 221, 222, 225] N (mz_sI (mz_sI (mz_sI M 225 f) (221 + to) g) 219 h) := by
      intro f g h
      refine fr_sI (fr_sI (fr_sI m1 rfl) ?_) rfl
      have : to = 0 ∨ to = 1 := by omega
      rcases this with w | w <;> rw [w] <;> rfl
    have hh : sn_h to (cnt kt 135) (lN gn) S = (dkw S.1 to 0 (rw0 0 0 true 0 (lN gn) (hdp (cnt kt 135))) (decide (S.2.1 ≠ 0)), fus1 S.2.1, S.2.2.1, decide (S.2.1 ≠ 0)) := by
      unfold sn_h; rw [if_pos hok]
    rw [hh]
    by_cases h0 : S.2.1 = 0
    · have hz0 : decide (S.2.1 ≠ 0) = false := decide_eq_false (fun w => w h0)
      rw [hz0] at w2 w3 ⊢
      simp (disch := omega) only [cd_137_45, cq_137_45, nI_ltI, (show (135 : Int32) = nI 135 from rfl), Nat.lt_irrefl, q1, q2, v1, show cp_14_0 225 48 12 4 (nI (cnt kt 135)).toInt64 (mz_sI M 225 f) from v1, v2', w1, w2, Bool.false_eq_true, not_false_eq_true, not_true_eq_false, if_true, if_false, true_implies, false_implies, implies_true, and_true, true_and]
      refine ⟨_, rfl, _, rfl, hfr _ _ _, c_dkw hto m2 w3, ?_⟩
      rw [sI_e, if_pos h0, sI_n (by decide), m3, h0]
    · have hz0 : decide (S.2.1 ≠ 0) = true := decide_eq_true h0
      rw [hz0] at w2 w3 ⊢
      simp (disch := omega) only [cd_137_45, cq_137_45, cp_137_163, cf_137_163, nI_ltI, (show (135 : Int32) = nI 135 from rfl), Nat.lt_irrefl, q1, q2, show cp_14_0 225 48 12 4 (nI (cnt kt 135)).toInt64 (mz_sI M 225 f) from v1, v2', w1, w2, nI_1, not_false_eq_true, not_true_eq_false, if_true, if_false, true_implies, false_implies, implies_true, and_true, true_and]
      refine ⟨_, rfl, _, rfl, fr_pI (fr_pI (fr_pI (hfr _ _ _) rfl) rfl) rfl, ?_, ?_⟩
      · intro a' ha' j hj
        rw [pI_s, pI_s, pI_s, sI_n (by omega), sI_n (by omega), sI_n (by omega)]
        exact c_dkw hto m2 w3 a' ha' j hj
      · rw [pI_s, pI_s, pI_s, sI_e, sI_e, sI_e, sI_e, if_neg h0, sI_n (by decide), m3]
        funext k
        simp only [up_a]
        by_cases y8 : k = 8
        · simp [y8]
        · simp [y8]
  · funext k
    rw [up_a]
    by_cases w : k = 8
    · rw [if_pos w, w]; exact hz
    · rw [if_neg w]
end Snp
