/-! PURE (27): a group is written, with a snapshot ahead of it where there is no room. -/
/-- disk, fuse, area, generation, rows used, which keys are there, their bytes -/
abbrev st_S : Type := (Nat → Nat → Nat) × Int32 × Nat × Nat × Nat × (Nat → Bool) × (Nat → Nat → Nat)
def wg0 (gc : Nat) (s : st_S) : Bool × st_S := if 200 < s.2.2.2.2.1 + gc then ((sn s.2.2.2.2.2.1 s.2.2.2.2.2.2 (1 - s.2.2.1) (lN (nxg s.1 (1 - s.2.2.1) s.2.2.2.1)) s.1 s.2.1).2.2.2, (sn s.2.2.2.2.2.1 s.2.2.2.2.2.2 (1 - s.2.2.1) (lN (nxg s.1 (1 - s.2.2.1) s.2.2.2.1)) s.1 s.2.1).1, (sn s.2.2.2.2.2.1 s.2.2.2.2.2.2 (1 - s.2.2.1) (lN (nxg s.1 (1 - s.2.2.1) s.2.2.2.1)) s.1 s.2.1).2.1, 1 - s.2.2.1, nxg s.1 (1 - s.2.2.1) s.2.2.2.1, cnt s.2.2.2.2.2.1 135 + 1, s.2.2.2.2.2.1, s.2.2.2.2.2.2) else (true, s)
def wg1 (gk : Nat → Nat) (gc : Nat) (x : Nat → Nat → Nat) (s : st_S) : Bool × st_S := ((ap gk gc x s.2.2.1 s.2.2.2.2.1 (lN s.2.2.2.1) s.1 s.2.1 gc).2.2, (ap gk gc x s.2.2.1 s.2.2.2.2.1 (lN s.2.2.2.1) s.1 s.2.1 gc).1, (ap gk gc x s.2.2.1 s.2.2.2.2.1 (lN s.2.2.2.1) s.1 s.2.1 gc).2.1, s.2.2.1, s.2.2.2.1, s.2.2.2.2.1 + gc, gkt gk s.2.2.2.2.2.1 gc, gkb gk x s.2.2.2.2.2.2 gc)
def wgr (gk : Nat → Nat) (gc : Nat) (x : Nat → Nat → Nat) (s : st_S) : Bool × st_S := if (wg0 gc s).1 = true then wg1 gk gc x (wg0 gc s).2 else wg0 gc s
/-- bounds of a store -/
def st_ok (B : Nat) (s : st_S) : Prop := (∀ a j, s.1 a j < 256) ∧ fus s.2.1 ∧ s.2.2.1 < 2 ∧ s.2.2.2.1 ≤ B ∧ (∀ a n, a < 2 → n < 200 → ag s.1 a n ≤ B) ∧ s.2.2.2.2.1 ≤ 200 ∧ ∀ k i, s.2.2.2.2.2.2 k i < 256
/-- the class's store -/
def st_c (N : mz_N) (s : st_S) : Prop := c_dk s.1 N ∧ N.1 219 4 = nI s.2.2.1 ∧ N.1 219 5 = nI s.2.2.2.1 ∧ N.1 219 6 = nI s.2.2.2.2.1 ∧ N.1 219 7 = 0 ∧ N.1 219 8 = s.2.1 ∧ (∀ k, k < 135 → ∀ j, j < 28 → N.1 223 (28 * k + j) = nI (s.2.2.2.2.2.2 k j)) ∧ ∀ k, k < 135 → N.1 224 k = nI (b1 (s.2.2.2.2.2.1 k))
/-- the reference's -/
def st_r (N : mz_N) (s : st_S) : Prop := r_dk s.1 N ∧ N.1 232 133 = nI s.2.2.1 ∧ N.2 232 134 = lN s.2.2.2.1 ∧ N.1 232 135 = nI s.2.2.2.2.1 ∧ N.1 232 137 = 0 ∧ N.1 232 136 = s.2.1 ∧ (∀ k, k < 135 → s.2.2.2.2.2.1 k = true → ∀ j, j < 28 → N.1 331 (28 * k + j) = by8 (s.2.2.2.2.2.2 k j)) ∧ ∀ k, k < 135 → N.1 330 k = nI (b1 (s.2.2.2.2.2.1 k))
/-- the class makes the bytes x of a key -/
def encC (N : mz_N) (b : Bool) (x : Nat → Nat → Nat) (k : Nat) : Prop := ∀ M i, fr [227] N M → i < 16 → cp_122_0 (nI (kdk k)) (nI (ixk k)) (nI (28 * i)) M b ∧ ∃ f, cf_122_0 (nI (kdk k)) (nI (ixk k)) (nI (28 * i)) M b = mz_sI M 227 f ∧ ∀ j, j < 448 → f j = if 28 * i ≤ j ∧ j < 28 * i + 28 then nI (x k (j - 28 * i)) else M.1 227 j
section Grp
variable {N : mz_N} {x : Nat → Nat → Nat} {gk : Nat → Nat} {gc B : Nat} {s : st_S} {b : Bool}
theorem cpk135 (kt : Nat → Bool) : cnt kt 135 ≤ 135 := cnt_le kt 135
theorem wg_c (hB : B < 2 ^ 30) (hgc : gc ≤ 16) (hs : st_ok B s) (hN : st_c N s) (h11 : N.1 219 11 = nI gc) (hg : ∀ i, i < gc → N.1 226 i = nI (gk i) ∧ gk i < 135) (henc : ∀ i, i < gc → encC N b x (gk i)) (hx : ∀ k j, x k j < 256) :
    cp_121_0 N b ∧ ∃ K, cf_121_0 N b = ((wgr gk gc x s).1, K) ∧ ((wgr gk gc x s).1 = true → st_c K (wgr gk gc x s).2 ∧ fr [219, 221, 222, 223, 224, 225, 227] N K) ∧ ((wgr gk gc x s).1 = false → c_dk (wgr gk gc x s).2.1 K ∧ K.1 219 7 = 1 ∧ fr [219, 221, 222, 225, 227] N K) := by
  obtain ⟨d, z, a, gn, us, kt, kb⟩ := s
  obtain ⟨o1, o2, o3, o4, o5, o6, o7⟩ := hs
  obtain ⟨n1, n2, n3, n4, n5, n6, n7, n8⟩ := hN
  simp only at o1 o2 o3 o4 o5 o6 o7 n1 n2 n3 n4 n5 n6 n7 n8
  refine mz_lpn (f := cq_121_2 b) (P := cd_121_2 b) (Q := fun t => ∃ K, t = ((wgr gk gc x (d, z, a, gn, us, kt, kb)).1, K) ∧ ((wgr gk gc x (d, z, a, gn, us, kt, kb)).1 = true → st_c K (wgr gk gc x (d, z, a, gn, us, kt, kb)).2 ∧ fr [219, 221, 222, 223, 224, 225, 227] N K) ∧ ((wgr gk gc x (d, z, a, gn, us, kt, kb)).1 = false → c_dk (wgr gk gc x (d, z, a, gn, us, kt, kb)).2.1 K ∧ K.1 219 7 = 1 ∧ fr [219, 221, 222, 225, 227] N K)) gc (fun t s => ∃ f, s = (nI t, mz_sI N 227 f) ∧ ∀ i, i < t → ∀ j, j < 28 → f (28 * i + j) = nI (x (gk i) j)) ?_ ?_ (Nat.zero_le _) ⟨N.1 227, by rw [sI_same]; rfl, fun i hi => absurd hi (Nat.not_lt_zero _)⟩
  · rintro t s ht ⟨f, rfl, hf⟩
    obtain ⟨g1, g2⟩ := hg t ht
    obtain ⟨kd1, kd2⟩ := kd_c g2
    obtain ⟨ix1, ix2⟩ := ix_c g2
    have k11 : (mz_sI N 227 f).1 219 11 = nI gc := by rw [sI_n (by decide)]; exact h11
    have e26 : mz_gI (mz_sI N 227 f) 226 (nI t) = nI (gk t) := by rw [gI_a, sI_n (by decide), nI_clamp (by omega)]; exact g1
    obtain ⟨q1, f2, q2, q3⟩ := henc t ht (mz_sI N 227 f) t (fr_sI (fr_refl _ _) rfl) (by omega)
    rw [Nat.mul_comm 28 t] at q1 q2
    rw [sI_sI] at q2
    simp (disch := omega) only [cd_121_2, cq_121_2, cp_121_46, cf_121_46, nI_ltI, k11, ht, e26, kd1, kd2, ix1, ix2, (show (28 : Int32) = nI 28 from rfl), pk_mul, q1, q2, nI_1, ib_i, not_false_eq_true, not_true_eq_false, if_true, if_false, true_implies, false_implies, implies_true, and_true, true_and]
    refine ⟨by omega, Or.inl ⟨_, rfl, f2, rfl, ?_⟩⟩
    intro i hi j hj
    rw [q3 _ (by omega)]
    by_cases w : i = t
    · rw [if_pos (by omega), w, Nat.add_sub_cancel_left]
    · rw [if_neg (by omega), sI_e]; exact hf i (by omega) j hj
  · rintro s ⟨f, rfl, hf⟩
    have k11 : (mz_sI N 227 f).1 219 11 = nI gc := by rw [sI_n (by decide)]; exact h11
    have k6 : (mz_sI N 227 f).1 219 6 = nI us := by rw [sI_n (by decide)]; exact n4
    have hdk : c_dk d (mz_sI N 227 f) := by intro a' ha' j hj; rw [sI_n (by omega)]; exact n1 a' ha' j hj
    have h136 : cf_136_0 (mz_sI N 227 f) = decide (¬ 200 < us + gc) := by
      rw [cf_136_0, k6, k11, nI_add, show (200 : Int32) = nI 200 from rfl]
      by_cases w : 200 < us + gc
      · rw [if_pos ((nI_ltI (by omega) (by omega)).mpr w)]; simp [w]
      · rw [if_neg (fun q => w ((nI_ltI (by omega) (by omega)).mp q))]; simp [w]
    by_cases hroom : 200 < us + gc
    · obtain ⟨s1, K, s2, s3, s4, s5⟩ := c_snap (N := mz_sI N 227 f) (kt := kt) (kb := kb) (d := d) (a1 := 223) (a2 := 224) (a := a) (gn := gn) (B := B) (z := z) o3 hB o4 o5 rfl rfl (by rw [sI_n (by decide)]; exact n2) (by rw [sI_n (by decide)]; exact n3) (fun k hk => by rw [sI_n (by decide)]; exact n8 k hk) (fun k hk _ i hi => by rw [sI_n (by decide)]; exact n7 k hk i hi) o7 hdk o1 (by rw [sI_n (by decide)]; exact n6)
      have hw0 : wg0 gc (d, z, a, gn, us, kt, kb) = ((sn kt kb (1 - a) (lN (nxg d (1 - a) gn)) d z).2.2.2, (sn kt kb (1 - a) (lN (nxg d (1 - a) gn)) d z).1, (sn kt kb (1 - a) (lN (nxg d (1 - a) gn)) d z).2.1, 1 - a, nxg d (1 - a) gn, cnt kt 135 + 1, kt, kb) := by simp only [wg0, hroom, if_true]
      have hfr : fr [219, 221, 222, 225, 227] N K := fr_trans (fr_sI (fr_refl _ _) rfl) (fr_sub s3 rfl)
      have c135 := cpk135 kt
      generalize hSn : sn kt kb (1 - a) (lN (nxg d (1 - a) gn)) d z = S at *
      rw [sI_n (by decide)] at s5
      cases hok : S.2.2.2 with
      | true =>
        rw [hok] at s2 hw0
        rw [if_pos hok] at s5
        have hgl : nxg d (1 - a) gn < 2 ^ 31 := by
          unfold nxg
          have := o5 (1 - a) 0 (by omega) (by omega)
          have := o5 (1 - a) 1 (by omega) (by omega)
          omega
        have hS256 : ∀ a' j, S.1 a' j < 256 := by
          rw [← hSn]
          unfold sn sn_h
          split
          · exact dkw_lt (sn_lt o1 o7 (Nat.le_refl _)) (rw0_lt2 (by omega) (by omega) (hdp_lt _))
          · exact sn_lt o1 o7 (Nat.le_refl _)
        obtain ⟨p1, K2, p2, p3, p4, p5⟩ := c_app (N := K) (kt := kt) (kb := kb) (x := x) (d := S.1) (gk := gk) (gc := gc) (a := 1 - a) (us := cnt kt 135 + 1) (gn := nxg d (1 - a) gn) (z := S.2.1) (by omega) hgl hgc (by omega)
          (by rw [s5]; simp [up_a]) (by rw [s5]; simp [up_a]) (by rw [s5]; simp [up_a]) (by rw [s5]; simp [up_a]) (by rw [s5]; simp [up_a]; exact h11)
          (fun i hi => by rw [hfr.1 226 rfl]; exact hg i hi) (fun i hi j hj => by rw [s3.1 227 rfl, sI_e]; exact hf i hi j hj) hx (fun k hk j hj => by rw [hfr.1 223 rfl]; exact n7 k hk j hj) (fun k hk => by rw [hfr.1 224 rfl]; exact n8 k hk) s4 hS256
        have hw : wgr gk gc x (d, z, a, gn, us, kt, kb) = wg1 gk gc x (S.1, S.2.1, 1 - a, nxg d (1 - a) gn, cnt kt 135 + 1, kt, kb) := by
          unfold wgr; rw [hw0]; rfl
        rw [hw]
        unfold wg1
        simp only
        generalize ap gk gc x (1 - a) (cnt kt 135 + 1) (lN (nxg d (1 - a) gn)) S.1 S.2.1 gc = A at *
        simp (disch := omega) only [cd_121_2, cq_121_2, cp_121_88, cf_121_88, nI_ltI, k11, Nat.lt_irrefl, h136, hroom, s1, s2, p1, p2, decide_false, Bool.false_eq_true, not_false_eq_true, not_true_eq_false, if_true, if_false, true_implies, false_implies, implies_true, and_true, true_and]
        refine ⟨_, rfl, K2, rfl, fun w => ?_, fun w => ?_⟩
        · obtain ⟨y1, y2, y3, y4⟩ := p4 w
          refine ⟨⟨p3, ?_, ?_, ?_, ?_, ?_, y3, y4⟩, fr_trans (fr_sub hfr rfl) (fr_sub y1 rfl)⟩ <;> rw [y2, s5] <;> simp [up_a]
          exact n5
        · obtain ⟨y1, y2⟩ := p5 w
          exact ⟨p3, y2, fr_trans hfr (fr_sub y1 rfl)⟩
      | false =>
        rw [hok] at s2 hw0
        rw [if_neg (by rw [hok]; decide)] at s5
        have hw : wgr gk gc x (d, z, a, gn, us, kt, kb) = (false, S.1, S.2.1, 1 - a, nxg d (1 - a) gn, cnt kt 135 + 1, kt, kb) := by
          unfold wgr; rw [hw0]; rfl
        rw [hw]
        simp (disch := omega) only [cd_121_2, cq_121_2, nI_ltI, k11, Nat.lt_irrefl, h136, hroom, s1, s2, decide_false, Bool.false_eq_true, not_false_eq_true, not_true_eq_false, if_true, if_false, true_implies, false_implies, implies_true, and_true, true_and]
        refine ⟨_, rfl, K, rfl, s4, ?_, hfr⟩
        rw [s5, up_a, if_pos rfl]
    · have hw : wgr gk gc x (d, z, a, gn, us, kt, kb) = wg1 gk gc x (d, z, a, gn, us, kt, kb) := by
        have hw0 : wg0 gc (d, z, a, gn, us, kt, kb) = (true, (d, z, a, gn, us, kt, kb)) := by unfold wg0; exact if_neg hroom
        unfold wgr; rw [hw0]; rfl
      obtain ⟨p1, K2, p2, p3, p4, p5⟩ := c_app (N := mz_sI N 227 f) (kt := kt) (kb := kb) (x := x) (d := d) (gk := gk) (gc := gc) (a := a) (us := us) (gn := gn) (z := z) o3 (by omega) hgc (by omega)
          (by rw [sI_n (by decide)]; exact n2) (by rw [sI_n (by decide)]; exact n3) k6 (by rw [sI_n (by decide)]; exact n6) k11
          (fun i hi => by rw [sI_n (by decide)]; exact hg i hi) (fun i hi j hj => by rw [sI_e]; exact hf i hi j hj) hx (fun k hk j hj => by rw [sI_n (by decide)]; exact n7 k hk j hj) (fun k hk => by rw [sI_n (by decide)]; exact n8 k hk) hdk o1
      rw [hw]
      unfold wg1
      simp only
      generalize ap gk gc x a us (lN gn) d z gc = A at *
      simp (disch := omega) only [cd_121_2, cq_121_2, cp_121_88, cf_121_88, nI_ltI, k11, Nat.lt_irrefl, h136, hroom, p1, p2, decide_true, not_false_eq_true, not_true_eq_false, if_true, if_false, true_implies, false_implies, implies_true, and_true, true_and]
      refine ⟨_, rfl, K2, rfl, fun w => ?_, fun w => ?_⟩
      · obtain ⟨y1, y2, y3, y4⟩ := p4 w
        refine ⟨⟨p3, ?_, ?_, ?_, ?_, ?_, y3, y4⟩, fr_trans (fr_sI (fr_refl _ _) rfl) (fr_sub y1 rfl)⟩ <;> rw [y2, sI_n (by decide)] <;> simp [up_a]
        · exact n2
        · exact n3
        · exact n5
      · obtain ⟨y1, y2⟩ := p5 w
        exact ⟨p3, y2, fr_trans (fr_sI (fr_refl _ _) rfl) (fr_sub y1 rfl)⟩
theorem wg_r (hB : B < 2 ^ 30) (hgc : gc ≤ 16) (hs : st_ok B s) (hN : st_r N s) (h39 : N.1 232 139 = nI gc) (hg : ∀ i, i < gc → N.1 333 i = nI (gk i) ∧ gk i < 135) (henc : ∀ i, i < gc → encR N x (gk i)) (hx : ∀ k j, x k j < 256) :
    cp_474_0 N ∧ ∃ K, cf_474_0 N = ((wgr gk gc x s).1, K) ∧ rdf N K ∧ ((wgr gk gc x s).1 = true → st_r K (wgr gk gc x s).2) ∧ ((wgr gk gc x s).1 = false → r_dk (wgr gk gc x s).2.1 K ∧ K.1 232 137 = 1) := by
  obtain ⟨d, z, a, gn, us, kt, kb⟩ := s
  obtain ⟨o1, o2, o3, o4, o5, o6, o7⟩ := hs
  obtain ⟨n1, n2, n3, n4, n5, n6, n7, n8⟩ := hN
  simp only at o1 o2 o3 o4 o5 o6 o7 n1 n2 n3 n4 n5 n6 n7 n8
  have hcond : (200 < N.1 232 135 + N.1 232 139) ↔ 200 < us + gc := by
    rw [n4, h39, nI_add, show (200 : Int32) = nI 200 from rfl, nI_ltI (by omega) (by omega)]
  by_cases hroom : 200 < us + gc
  · obtain ⟨s1, K, s2, s3, s3b, s4, s5, s6⟩ := r_snap (N := N) (kt := kt) (kb := kb) (d := d) (a1 := 330) (a2 := 331) (a := a) (gn := gn) (B := B) (z := z) o3 hB o4 o5 n5 n2 n3 rfl rfl n8 n7 o7 n1 o1 n6
    have hw0 : wg0 gc (d, z, a, gn, us, kt, kb) = ((sn kt kb (1 - a) (lN (nxg d (1 - a) gn)) d z).2.2.2, (sn kt kb (1 - a) (lN (nxg d (1 - a) gn)) d z).1, (sn kt kb (1 - a) (lN (nxg d (1 - a) gn)) d z).2.1, 1 - a, nxg d (1 - a) gn, cnt kt 135 + 1, kt, kb) := by simp only [wg0, hroom, if_true]
    have c135 := cpk135 kt
    generalize hSn : sn kt kb (1 - a) (lN (nxg d (1 - a) gn)) d z = S at *
    have hrdf : rdf N K := by
      refine ⟨fun c hc => s3.1 c (by
        cases e : [232, 329, 332, 341].contains c with
        | false => rfl
        | true =>
          have hm : c ∈ [232, 329, 332, 341] := by simpa using e
          have : [232, 329, 330, 331, 332, 341].contains c = true := by
            simp only [List.mem_cons, List.not_mem_nil, or_false] at hm
            rcases hm with w | w | w | w <;> rw [w] <;> rfl
          rw [this] at hc; cases hc), fun f h1 h2 h3 h4 => ?_, s3b, fun f hf => ?_⟩
      · rw [s5]
        split
        · rw [up_a, if_neg h2, up_a, if_neg h1, up_a, if_neg h3]
        · rw [up_a, if_neg h4, up_a, if_neg h3]
      · rw [s6]
        split
        · rw [upL_a, if_neg hf]
        · rfl
    cases hok : S.2.2.2 with
    | true =>
      rw [hok] at s2 hw0
      rw [if_pos hok] at s5 s6
      have hfr : ∀ c, [232, 329, 332, 341].contains c = false → K.1 c = N.1 c := s3.1
      obtain ⟨p1, K2, p2, p3, p4, p5, p6⟩ := r_app (N := K) (kt := kt) (kb := kb) (x := x) (d := S.1) (gk := gk) (gc := gc) (a := 1 - a) (us := cnt kt 135 + 1) (gn := nxg d (1 - a) gn) (z := S.2.1) (by omega) hgc (by omega)
        (by rw [s5]; simp [up_a]; exact n5) (by rw [s5]; simp [up_a]) (by rw [s6]; simp [upL_a]) (by rw [s5]; simp [up_a]) (by rw [s5]; simp [up_a]) (by rw [s5]; simp [up_a]; exact h39)
        (fun i hi => by rw [hfr 333 rfl]; exact hg i hi) (fun i hi M hM => henc i hi M (rdf_trans hrdf hM)) hx (fun k hk hkt j hj => by rw [hfr 331 rfl]; exact n7 k hk hkt j hj) (fun k hk => by rw [hfr 330 rfl]; exact n8 k hk) s4
      have hw : wgr gk gc x (d, z, a, gn, us, kt, kb) = wg1 gk gc x (S.1, S.2.1, 1 - a, nxg d (1 - a) gn, cnt kt 135 + 1, kt, kb) := by
        unfold wgr; rw [hw0]; rfl
      rw [hw]
      unfold wg1
      simp only
      generalize ap gk gc x (1 - a) (cnt kt 135 + 1) (lN (nxg d (1 - a) gn)) S.1 S.2.1 gc = A at *
      rw [cp_474_0, cf_474_0, if_pos (hcond.mpr hroom), s2]
      simp only [if_true]
      rw [cp_474_32, cf_474_32, p2]
      refine ⟨⟨fun _ => ⟨s1, fun _ => p1, fun w => absurd trivial w⟩, fun w => absurd (hcond.mpr hroom) w⟩, K2, rfl, rdf_trans hrdf p4, fun w => ?_, fun w => ⟨p3, p6 w⟩⟩
      obtain ⟨y1, y2, y3, y4⟩ := p5 w
      refine ⟨p3, ?_, ?_, ?_, ?_, ?_, y3, y4⟩
      · rw [y1, s5]; simp [up_a]
      · rw [y2, s6]; simp [upL_a]
      · rw [y1]; simp [up_a]
      · rw [y1, s5]; simp [up_a]; exact n5
      · rw [y1]; simp [up_a]
    | false =>
      rw [hok] at s2 hw0
      rw [if_neg (by rw [hok]; decide)] at s5
      have hw : wgr gk gc x (d, z, a, gn, us, kt, kb) = (false, S.1, S.2.1, 1 - a, nxg d (1 - a) gn, cnt kt 135 + 1, kt, kb) := by
        unfold wgr; rw [hw0]; rfl
      rw [hw, cp_474_0, cf_474_0, if_pos (hcond.mpr hroom), s2]
      refine ⟨⟨fun _ => ⟨s1, (fun w => by cases w), fun _ => trivial⟩, fun w => absurd (hcond.mpr hroom) w⟩, K, rfl, hrdf, (fun w => by cases w), fun _ => ⟨s4, ?_⟩⟩
      rw [s5, up_a, if_pos rfl]
  · have hw : wgr gk gc x (d, z, a, gn, us, kt, kb) = wg1 gk gc x (d, z, a, gn, us, kt, kb) := by
      have hw0 : wg0 gc (d, z, a, gn, us, kt, kb) = (true, (d, z, a, gn, us, kt, kb)) := by unfold wg0; exact if_neg hroom
      unfold wgr; rw [hw0]; rfl
    obtain ⟨p1, K2, p2, p3, p4, p5, p6⟩ := r_app (N := N) (kt := kt) (kb := kb) (x := x) (d := d) (gk := gk) (gc := gc) (a := a) (us := us) (gn := gn) (z := z) o3 hgc (by omega) n5 n2 n3 n4 n6 h39 hg henc hx n7 n8 n1
    rw [hw]
    unfold wg1
    simp only
    generalize ap gk gc x a us (lN gn) d z gc = A at *
    rw [cp_474_0, cf_474_0, if_neg (fun q => hroom (hcond.mp q)), cp_474_32, cf_474_32, p2]
    refine ⟨⟨fun q => absurd (hcond.mp q) hroom, fun _ => p1⟩, K2, rfl, p4, fun w => ?_, fun w => ⟨p3, p6 w⟩⟩
    obtain ⟨y1, y2, y3, y4⟩ := p5 w
    refine ⟨p3, ?_, ?_, ?_, ?_, ?_, y3, y4⟩
    · rw [y1]; simp [up_a]; exact n2
    · rw [y2]; exact n3
    · rw [y1]; simp [up_a]
    · rw [y1]; simp [up_a]; exact n5
    · rw [y1]; simp [up_a]
end Grp
