/-! PURE (23): snapshots of the class and of the reference. -/
section Snr
variable {N : mz_N} {kt : Nat → Bool} {kb : Nat → Nat → Nat} {d : Nat → Nat → Nat}
/-- the age of the next snapshot -/
def nxg (d : Nat → Nat → Nat) (to gn : Nat) : Nat := 1 + max gn (max (ag d to 0) (ag d to 1))
theorem c_snap {a1 a2 a gn B : Nat} {z : Int32} (ha : a < 2) (hB : B < 2 ^ 30) (hgn : gn ≤ B) (hag : ∀ a n, a < 2 → n < 200 → ag d a n ≤ B) (h1 : [219, 221, 222, 225].contains a1 = false) (h2 : [219, 221, 222, 225].contains a2 = false) (h4 : N.1 219 4 = nI a) (h5 : N.1 219 5 = nI gn) (hkt : ∀ k, k < 135 → N.1 a2 k = nI (b1 (kt k))) (hkb : ∀ k, k < 135 → kt k = true → ∀ i, i < 28 → N.1 a1 (28 * k + i) = nI (kb k i)) (hkb2 : ∀ k i, kb k i < 256) (hd : c_dk d N) (hd2 : ∀ a j, d a j < 256) (hz : N.1 219 8 = z) :
    cp_137_0 a1 a2 N ∧ ∃ K, cf_137_0 a1 a2 N = ((sn kt kb (1 - a) (lN (nxg d (1 - a) gn)) d z).2.2.2, K) ∧ fr [219, 221, 222, 225] N K ∧ c_dk (sn kt kb (1 - a) (lN (nxg d (1 - a) gn)) d z).1 K ∧
      K.1 219 = if (sn kt kb (1 - a) (lN (nxg d (1 - a) gn)) d z).2.2.2 = true then upd (upd (upd (upd (N.1 219) 8 (sn kt kb (1 - a) (lN (nxg d (1 - a) gn)) d z).2.1) 4 (nI (1 - a))) 5 (nI (nxg d (1 - a) gn))) 6 (nI (cnt kt 135 + 1)) else upd (upd (N.1 219) 8 0) 7 1 := by
  have e1 : (1 : Int32) - nI a = nI (1 - a) := by rw [show (1 : Int32) = nI 1 from rfl, pk_sub (by omega)]
  have hto : 1 - a < 2 := by omega
  obtain ⟨p0, q0⟩ := ag_c (a := 1 - a) (n := 0) hd hd2 hto (by omega)
  obtain ⟨p1, q1⟩ := ag_c (a := 1 - a) (n := 1) hd hd2 hto (by omega)
  have b0 := hag (1 - a) 0 hto (by omega)
  have b1 := hag (1 - a) 1 hto (by omega)
  rw [nI_0] at p0 q0
  have p1' : cp_96_0 (nI (1 - a)) 1 N := p1
  have q1' : cf_96_0 (nI (1 - a)) 1 N = nI (ag d (1 - a) 1) := q1
  obtain ⟨c1, c2⟩ := cnt_c hkt
  have hg : (1 : Int32) + mz_imax (nI gn) (mz_imax (nI (ag d (1 - a) 0)) (nI (ag d (1 - a) 1))) = nI (nxg d (1 - a) gn) := by
    rw [imax_n (by omega) (by omega), imax_n (by omega) (by omega), show (1 : Int32) = nI 1 from rfl, nI_add]
    rfl
  have hgl : nxg d (1 - a) gn < 2 ^ 31 := by unfold nxg; omega
  obtain ⟨r1, r2⟩ := c_snap1 (N := N) (kt := kt) (kb := kb) (d := d) (a1 := a1) (a2 := a2) (to := 1 - a) (gn := nxg d (1 - a) gn) (z := z) hto hgl h1 h2 hkt hkb hkb2 hd hd2 hz
  rw [cp_137_0, cf_137_0, h4, h5, e1, q0, q1', hg, c2]
  exact ⟨⟨p0, p1', c1, r1⟩, r2⟩
/-- the last of those (135: none) -/
def las (kt : Nat → Bool) : Nat → Nat
  | 0 => 135
  | n + 1 => if kt n = true then n else las kt n
theorem las_le (kt : Nat → Bool) : ∀ n, n ≤ 135 → las kt n ≤ 135 := by
  intro n
  induction n with
  | zero => intro _; exact Nat.le_refl _
  | succ n ih => intro h; rw [las]; split
                 · omega
                 · exact ih (by omega)
theorem las_iff {kt : Nat → Bool} {k : Nat} (hk : kt k = true) : ∀ {n : Nat}, k < n → n ≤ 135 → (las kt n = k ↔ cnt kt (k + 1) = cnt kt n) := by
  intro n
  induction n with
  | zero => intro h; omega
  | succ n ih =>
    intro h hn
    rw [las]
    by_cases e : k = n
    · subst e; rw [if_pos hk]
      exact ⟨fun _ => rfl, fun _ => rfl⟩
    · have hm := cnt_mono (p := kt) (show k + 1 ≤ n by omega)
      by_cases hx : kt n = true
      · rw [if_pos hx, cnt_s hx]
        constructor <;> intro q <;> omega
      · rw [if_neg hx, cnt_sn (n := n) (by simpa using hx)]
        exact ih (by omega) (by omega)
/-- the reference's memory while rows are written -/
def r_w (N : mz_N) (d : Nat → Nat → Nat) (z : Int32) (M : mz_N) : Prop := fr [232, 329, 332, 341] N M ∧ r_dk d M ∧ M.1 232 = upd (N.1 232) 136 z
def r_x (N : mz_N) (d : Nat → Nat → Nat) (M : mz_N) : Prop := fr [232, 329, 332, 341] N M ∧ r_dk d M ∧ M.1 232 = upd (upd (N.1 232) 136 0) 137 1
theorem r_row {a n kd ix : Nat} {la : Bool} {g : Int64} {z : Int32} {pay : Nat → Nat} {M : mz_N} {f : Nat → Int32} (ha : a < 2) (hn : n < 200) (hkd : kd < 256) (hix : ix < 256) (h7 : N.1 232 137 = 0) (hM : r_w N d z M) (hp : ∀ i, i < 28 → f i = by8 (pay i)) (hpay : ∀ i, pay i < 256) :
    cp_411_0 (nI a) (nI n) (nI kd) (nI ix) la g (mz_sI M 332 f) ∧ ∃ K, cf_411_0 (nI a) (nI n) (nI kd) (nI ix) la g (mz_sI M 332 f) = (decide (z ≠ 0), K) ∧ K.1 332 = f ∧
      (z ≠ 0 → r_w N (dkw d a n (rw0 kd ix la n g pay) true) (fus1 z) K) ∧ (z = 0 → r_x N (dkw d a n (rw0 kd ix la n g pay) false) K) := by
  obtain ⟨m1, m2, m3⟩ := hM
  have h6 : (mz_sI M 332 f).1 232 136 = z := by rw [sI_n (by decide), m3, up_a, if_pos rfl]
  have h77 : (mz_sI M 332 f).1 232 137 = 0 := by rw [sI_n (by decide), m3, up_a, if_neg (by decide), h7]
  obtain ⟨q1, f2, h2, q2, q3⟩ := r_line (N := mz_sI M 332 f) (a := a) (n := n) (kd := kd) (ix := ix) (la := la) (g := g) (pay := pay) (d := d) ha hn hkd hix (fun i hi => by rw [sI_e]; exact ⟨hp i hi, hpay i⟩) (fun a' ha' j hj => by rw [sI_n (by decide)]; exact m2 a' ha' j hj) (by rw [h77]; exact Or.inl rfl)
  rw [h6, h77] at q2
  rw [h6] at q3
  refine ⟨q1, _, q2, ?_, fun h0 => ⟨fr_sI (fr_sI (fr_sI (fr_sI m1 rfl) rfl) rfl) rfl, ?_, ?_⟩, fun h0 => ⟨fr_sI (fr_sI (fr_sI (fr_sI m1 rfl) rfl) rfl) rfl, ?_, ?_⟩⟩
  · rw [sI_n (by decide), sI_n (by decide), sI_n (by decide), sI_e]
  · intro a' ha' j hj
    rw [sI_n (by decide), sI_e, q3 a' ha' j hj, show decide (z ≠ 0) = true from decide_eq_true h0]
  · rw [sI_e, sI_n (by decide), m3, if_neg h0]
    funext k
    simp only [up_a]
    by_cases y : k = 137
    · simp [y, h7]
    · by_cases y2 : k = 136
      · simp [y2]
      · simp [y, y2]
  · intro a' ha' j hj
    rw [sI_n (by decide), sI_e, q3 a' ha' j hj, show decide (z ≠ 0) = false from decide_eq_false (fun w => w h0)]
  · rw [sI_e, sI_n (by decide), m3, if_pos h0, h0]
    funext k
    simp only [up_a]
    by_cases y : k = 137
    · simp [y]
    · by_cases y2 : k = 136
      · simp [y2]; rfl
      · simp [y, y2]
theorem r_head {to m : Nat} {g : Int64} {z : Int32} {M : mz_N} (hto : to < 2) (hm : m < 2 ^ 31) (h7 : N.1 232 137 = 0) (hM : r_w N d z M) :
    cp_409_0 (nI to) (nI m).toInt64 g M ∧ ∃ K, cf_409_0 (nI to) (nI m).toInt64 g M = (decide (z ≠ 0), K) ∧ (z ≠ 0 → r_w N (dkw d to 0 (rw0 0 0 true 0 g (hdp m)) true) (fus1 z) K) ∧ (z = 0 → r_x N (dkw d to 0 (rw0 0 0 true 0 g (hdp m)) false) K) := by
  have en : mz_nb 0 = by8 0 := nb_nI 0
  refine mz_lpn (f := cq_409_3 (nI to) (nI m).toInt64 g) (P := cd_409_3 (nI to) (nI m).toInt64 g) (Q := fun t => ∃ K, t = (decide (z ≠ 0), K) ∧ (z ≠ 0 → r_w N (dkw d to 0 (rw0 0 0 true 0 g (hdp m)) true) (fus1 z) K) ∧ (z = 0 → r_x N (dkw d to 0 (rw0 0 0 true 0 g (hdp m)) false) K)) 28 (fun t s => ∃ f, s = (nI t, mz_sI M 332 f) ∧ ∀ j, j < t → f j = by8 0) ?_ ?_ (Nat.zero_le _) ⟨M.1 332, by rw [sI_same]; rfl, fun j hj => absurd hj (Nat.not_lt_zero _)⟩
  · rintro t s ht ⟨f, rfl, hf⟩
    simp (disch := omega) only [cd_409_3, cq_409_3, nI_ltI, (show (28 : Int32) = nI 28 from rfl), ht, en, nI_1, ib_i, not_false_eq_true, not_true_eq_false, if_true, if_false, true_implies, false_implies, implies_true, and_true, true_and]
    refine Or.inl ⟨_, rfl, upd f t (by8 0), ?_, ?_⟩
    · rw [wI_s, sI_e, sI_sI, nI_clamp (by omega)]
    · intro j hj
      rw [up_a]
      by_cases y : j = t
      · rw [if_pos y]
      · rw [if_neg y]; exact hf j (by omega)
  · rintro s ⟨f, rfl, hf⟩
    obtain ⟨v1, f2, v2, v3⟩ := wr_m (p := 0) (k := 4) (v := (nI m).toInt64) (N := mz_sI M 332 f) (by omega) (by omega)
    rw [sI_sI] at v2
    have v1' : cp_410_0 0 4 (nI m).toInt64 (mz_sI M 332 f) := v1
    have v2' : cf_410_0 0 4 (nI m).toInt64 (mz_sI M 332 f) = mz_sI M 332 f2 := v2
    obtain ⟨r1, K, r2, -, r3, r4⟩ := r_row (N := N) (d := d) (a := to) (n := 0) (kd := 0) (ix := 0) (la := true) (g := g) (z := z) (pay := hdp m) (M := M) (f := f2) hto (by omega) (by omega) (by omega) h7 hM (by
      intro i hi
      rw [v3, sI_e, Nat.zero_add, nI_l hm]
      unfold hdp
      by_cases y : i < 4
      · rw [if_pos (by omega), if_pos y, Nat.sub_zero]
      · rw [if_neg (by omega), if_neg y]; exact hf i hi) (hdp_lt m)
    rw [nI_0] at r1 r2
    simp (disch := omega) only [cd_409_3, cq_409_3, nI_ltI, (show (28 : Int32) = nI 28 from rfl), Nat.lt_irrefl, v1', v2', r1, r2, not_false_eq_true, not_true_eq_false, if_true, if_false, true_implies, false_implies, implies_true, and_true, true_and]
    exact ⟨_, rfl, K, rfl, r3, r4⟩
end Snr
