/-! PURE (50zzs): both share alike. -/
def s2 (N : mz_N) (a b : Nat) (g h : Nat → Int64) : mz_N := (N.1, fun c => if c = a then g else if c = b then h else N.2 c)
section Sh2
variable {N : mz_N} {a b : Nat} {g h : Nat → Int64} {v n s : Nat} {w : Nat → Nat}
theorem s2_a {i : Int32} {x : Int64} : mz_wL (s2 N a b g h) a i x = s2 N a b (vp_updL g i.toNatClampNeg x) h := by
  refine mz_ext (fun c => rfl) (fun c => ?_)
  rw [wL_s, sL_2]
  show (if c = a then vp_updL (if a = a then g else _) _ x else if c = a then g else if c = b then h else N.2 c) = if c = a then _ else if c = b then h else N.2 c
  rw [if_pos rfl]
  by_cases z : c = a
  · rw [if_pos z, if_pos z]
  · rw [if_neg z, if_neg z, if_neg z]
theorem s2_b {i : Int32} {x : Int64} (hab : b ≠ a) : mz_wL (s2 N a b g h) b i x = s2 N a b g (vp_updL h i.toNatClampNeg x) := by
  refine mz_ext (fun c => rfl) (fun c => ?_)
  rw [wL_s, sL_2]
  show (if c = b then vp_updL (if b = a then g else if b = b then h else _) _ x else if c = a then g else if c = b then h else N.2 c) = if c = a then g else if c = b then _ else N.2 c
  rw [if_neg hab, if_pos rfl]
  by_cases z : c = b
  · rw [if_pos z, if_neg (show ¬ c = a from fun y => hab (z.symm.trans y)), if_pos z]
  · rw [if_neg z, if_neg z, if_neg z]
theorem s2_0 : s2 N a b (N.2 a) (N.2 b) = N := by
  refine mz_ext (fun c => rfl) (fun c => ?_)
  show (if c = a then N.2 a else if c = b then N.2 b else N.2 c) = N.2 c
  by_cases z : c = a
  · rw [if_pos z, z]
  · rw [if_neg z]
    by_cases y : c = b
    · rw [if_pos y, y]
    · rw [if_neg y]
theorem s2_ga (j : Nat) : (s2 N a b g h).2 a j = g j := by show (if a = a then g else _) j = g j; rw [if_pos rfl]
theorem s2_gb (hab : b ≠ a) (j : Nat) : (s2 N a b g h).2 b j = h j := by show (if b = a then g else if b = b then h else _) j = h j; rw [if_neg hab, if_pos rfl]
theorem s2_gc {c : Nat} (h1 : c ≠ a) (h2 : c ≠ b) (j : Nat) : (s2 N a b g h).2 c j = N.2 c j := by show (if c = a then g else if c = b then h else _) j = _; rw [if_neg h1, if_neg h2]
theorem mxi_1 {R : Nat → Nat} : mxi R 1 = 0 := by have := mxi_lt (R := R) (j := 1) (by omega); omega
theorem mxi_l2 {R : Nat → Nat} {j : Nat} (hn : 0 < n) (hj : j ≤ n) : mxi R j < n := by
  rcases Nat.eq_zero_or_pos j with z | z
  · rw [z]; exact hn
  · have := mxi_lt (R := R) z; omega
theorem lrem_n {x y : Nat} (hx : x < 2 ^ 63) (h0 : 0 < y) (hy : y < 2 ^ 63) : mz_lrem (lN x) (lN y) = lN (x % y) := pk_lRem hx h0 hy
theorem grt_c {a0 n0 : Nat} {M : mz_N} {R : Nat → Nat} (hn : 0 < n) (hn0 : n ≤ n0) (hn1 : n0 < 2 ^ 31) (hR : ∀ j, j < n → M.2 a0 j = mr (R j) ∧ R j < 2 ^ 62) : cp_241_0 a0 n0 (nI n) M ∧ cf_241_0 a0 n0 (nI n) M = nI (mxi R n) := by
  have hx := mz_lps (f := cq_241_4 a0 n0 (nI n) M) (P := cd_241_4 a0 n0 (nI n) M) (t := nI (mxi R n)) n (fun j => (nI (mxi R j), nI j)) (fun j hj => ?_) ?_ (k := 1) hn
  · rw [cp_241_0, cf_241_0, cp_241_4, cf_241_4]
    show (∃ m, mz_ok _ _ m ((0 : Int32), (1 : Int32))) ∧ mz_run _ ((0 : Int32), (1 : Int32)) = _
    have e1 : (nI (mxi R 1), nI 1) = ((0 : Int32), (1 : Int32)) := by rw [mxi_1]; rfl
    rw [← e1]
    exact hx
  · have hm := mxi_l2 (R := R) hn (Nat.le_of_lt hj)
    have l : nI j < nI n := (nI_ltI (by omega) (by omega)).mpr hj
    have ga : mz_gL M a0 (nI (mxi R j)) = mr (R (mxi R j)) := by rw [gL_a, nI_clamp (by omega)]; exact (hR _ hm).1
    have gb : mz_gL M a0 (nI j) = mr (R j) := by rw [gL_a, nI_clamp (by omega)]; exact (hR j hj).1
    have lt := mr_lt (hR _ hm).2 (hR j hj).2
    rw [cd_241_4, cq_241_4]
    simp only [l, if_true, ga, gb, lt]
    refine ⟨⟨fun _ => ⟨ib_n (by omega) hn1, ib_n (by omega) hn1, fun _ => trivial, fun _ => trivial⟩, fun _ => trivial⟩, ?_⟩
    by_cases z : R (mxi R j) < R j
    · rw [if_pos z, cf_241_21, nI_1, mxi, if_pos z]
    · rw [if_neg z, cf_241_21, nI_1, mxi, if_neg z]
  · have l : ¬ nI n < nI n := fun q => by have := (nI_ltI (by omega) (by omega)).mp q; omega
    rw [cd_241_4, cq_241_4]
    simp only [l, if_false]
    exact ⟨⟨False.elim, fun _ => trivial⟩, trivial⟩
theorem grt_r {a1 n1 a3 : Nat} {l : Int64} {R S : Nat → Nat} (h3 : 328 ≠ a3) (hn : 0 < n) (hn0 : n ≤ 41) (hR : ∀ j, j < n → h j = mr (R j) ∧ R j < 2 ^ 62) : cp_529_115 a1 n1 a3 (nI n) l 0 1 (s2 N a3 328 g h) ∧ cf_529_115 a1 n1 a3 (nI n) l 0 1 (s2 N a3 328 g h) = .inl (l - 1, s2 N a3 328 (vp_updL g (mxi R n) (g (mxi R n) + 1)) (vp_updL h (mxi R n) (-1))) := by
  have hx := mz_lps (f := cq_529_115 a1 n1 a3 (nI n) l (s2 N a3 328 g h)) (P := cd_529_115 a1 n1 a3 (nI n) l (s2 N a3 328 g h)) (t := .inl (l - 1, s2 N a3 328 (vp_updL g (mxi R n) (g (mxi R n) + 1)) (vp_updL h (mxi R n) (-1)))) n (fun j => (nI (mxi R j), nI j)) (fun j hj => ?_) ?_ (k := 1) hn
  · rw [cp_529_115, cf_529_115]
    show (∃ m, mz_ok _ _ m ((0 : Int32), (1 : Int32))) ∧ mz_run _ ((0 : Int32), (1 : Int32)) = _
    have e1 : (nI (mxi R 1), nI 1) = ((0 : Int32), (1 : Int32)) := by rw [mxi_1]; rfl
    rw [← e1]
    exact hx
  · have hm := mxi_l2 (R := R) hn (Nat.le_of_lt hj)
    have l : nI j < nI n := (nI_ltI (by omega) (by omega)).mpr hj
    have ga : mz_gL (s2 N a3 328 g h) 328 (nI (mxi R j)) = mr (R (mxi R j)) := by rw [gL_a, nI_clamp (by omega), s2_gb h3]; exact (hR _ hm).1
    have gb : mz_gL (s2 N a3 328 g h) 328 (nI j) = mr (R j) := by rw [gL_a, nI_clamp (by omega), s2_gb h3]; exact (hR j hj).1
    have lt := mr_lt (hR _ hm).2 (hR j hj).2
    rw [cd_529_115, cq_529_115]
    simp only [l, if_true, ga, gb, lt]
    refine ⟨⟨fun _ => ⟨ib_n (by omega) (by omega), ib_n (by omega) (by omega), fun _ => trivial, fun _ => trivial⟩, fun z => absurd trivial z⟩, ?_⟩
    by_cases z : R (mxi R j) < R j
    · rw [if_pos z, cf_529_147, nI_1, mxi, if_pos z]
    · rw [if_neg z, cf_529_147, nI_1, mxi, if_neg z]
  · have hm := mxi_lt (R := R) hn
    have l : ¬ nI n < nI n := fun q => by have := (nI_ltI (by omega) (by omega)).mp q; omega
    have i1 : mz_ib (nI (mxi R n)) 41 := ib_n (by omega) (by omega)
    rw [cd_529_115, cq_529_115]
    simp only [l, if_false]
    refine ⟨⟨False.elim, fun _ => ⟨i1, i1, i1⟩⟩, ?_⟩
    rw [s2_a, s2_b h3, gL_a, nI_clamp (by omega), s2_ga]
theorem dst_u {x : (Nat → Nat) × (Nat → Nat)} {t : Nat} (hg : ∀ j, j < n → g j = lN ((dst n t x).1 j) ∧ h j = mr ((dst n t x).2 j)) (hm : mxi (dst n t x).2 n < n) : ∀ j, j < n → vp_updL g (mxi (dst n t x).2 n) (g (mxi (dst n t x).2 n) + 1) j = lN ((dst n (t + 1) x).1 j) ∧ vp_updL h (mxi (dst n t x).2 n) (-1) j = mr ((dst n (t + 1) x).2 j) := by
  intro j hj
  show _ = lN (up (dst n t x).1 (mxi (dst n t x).2 n) ((dst n t x).1 (mxi (dst n t x).2 n) + 1) j) ∧ _ = mr (up (dst n t x).2 (mxi (dst n t x).2 n) 0 j)
  rw [upL_a, upL_a]
  unfold up
  by_cases z : j = mxi (dst n t x).2 n
  · rw [if_pos z, if_pos z, if_pos z, if_pos z, (hg _ hm).1]
    exact ⟨by rw [← lN_add]; rfl, rfl⟩
  · rw [if_neg z, if_neg z, if_neg z, if_neg z]
    exact hg j hj
theorem p3_c {a1 n1 a3 n3 a4 n4 l : Nat} {x : (Nat → Nat) × (Nat → Nat)} (h3 : a4 ≠ a3) (k3 : n ≤ n3) (k4 : n ≤ n4) (k5 : n3 < 2 ^ 31 ∧ n4 < 2 ^ 31) (hl : l ≤ n) (hx : ∀ j, j < n → x.2 j < 2 ^ 62) (hg : ∀ j, j < n → g j = lN (x.1 j) ∧ h j = mr (x.2 j)) : cp_240_101 a1 n1 a3 n3 a4 n4 (nI n) (lN l) 0 (s2 N a3 a4 g h) ∧ ∃ g' h', cf_240_101 a1 n1 a3 n3 a4 n4 (nI n) (lN l) 0 (s2 N a3 a4 g h) = (true, s2 N a3 a4 g' h') ∧ ∀ j, j < n → g' j = lN ((dst n l x).1 j) := by
  rw [cp_240_101, cf_240_101]
  refine mz_lpn (f := cq_240_101 a1 n1 a3 n3 a4 n4 (nI n)) (P := cd_240_101 a1 n1 a3 n3 a4 n4 (nI n)) (Q := fun t => ∃ g' h', t = (true, s2 N a3 a4 g' h') ∧ ∀ j, j < n → g' j = lN ((dst n l x).1 j)) l (fun t s => ∃ g h, s = (lN (l - t), nI t, s2 N a3 a4 g h) ∧ ∀ j, j < n → g j = lN ((dst n t x).1 j) ∧ h j = mr ((dst n t x).2 j)) ?_ ?_ (Nat.zero_le _) ⟨g, h, rfl, hg⟩
  · rintro t s ht ⟨g, h, rfl, hg⟩
    have l1 : nI t < nI n := (nI_ltI (by omega) (by omega)).mpr (by omega)
    have l2 : (0 : Int64) < lN (l - t) := lN_pos (by omega) (by omega)
    have hm := mxi_lt (R := (dst n t x).2) (show 0 < n by omega)
    obtain ⟨c1, c2⟩ := grt_c (M := s2 N a3 a4 g h) (a0 := a4) (R := (dst n t x).2) (show 0 < n by omega) k4 k5.2 (fun j hj => ⟨by rw [s2_gb h3]; exact (hg j hj).2, Nat.lt_of_le_of_lt (dst_le t) (hx j hj)⟩)
    have i3 : mz_ib (nI (mxi (dst n t x).2 n)) n3 := ib_n (by omega) (by omega)
    have i4 : mz_ib (nI (mxi (dst n t x).2 n)) n4 := ib_n (by omega) (by omega)
    rw [cd_240_101, cq_240_101]
    simp only [l1, l2, if_true, c2]
    refine ⟨⟨fun _ => ⟨fun _ => ⟨c1, i3, i3, i4⟩, fun _ => trivial⟩, fun _ => trivial⟩, Or.inl ⟨_, rfl, _, _, ?_, dst_u hg hm⟩⟩
    rw [s2_a, s2_b h3, gL_a, nI_clamp (by omega), s2_ga, nI_1, show (1 : Int64) = lN 1 from rfl, lN_sub (show 1 ≤ l - t by omega), show l - t - 1 = l - (t + 1) by omega]
  · rintro s ⟨g, h, rfl, hg⟩
    have l2 : ¬ (0 : Int64) < lN (l - l) := by rw [Nat.sub_self]; decide
    rw [cd_240_101, cq_240_101]
    simp only [l2, if_false, ite_self]
    exact ⟨⟨fun _ => ⟨False.elim, fun _ => trivial⟩, fun _ => trivial⟩, _, rfl, g, h, rfl, fun j hj => (hg j hj).1⟩
theorem p3_r {a1 n1 a3 l : Nat} {x : (Nat → Nat) × (Nat → Nat)} (h3 : 328 ≠ a3) (k3 : n ≤ 41) (hl : l ≤ n) (hx : ∀ j, j < n → x.2 j < 2 ^ 62) (hg : ∀ j, j < n → g j = lN (x.1 j) ∧ h j = mr (x.2 j)) : cp_529_102 a1 n1 a3 (nI n) (lN l) (s2 N a3 328 g h) ∧ ∃ g' h', cf_529_102 a1 n1 a3 (nI n) (lN l) (s2 N a3 328 g h) = (true, s2 N a3 328 g' h') ∧ ∀ j, j < n → g' j = lN ((dst n l x).1 j) := by
  rw [cp_529_102, cf_529_102]
  refine mz_lpn (f := cq_529_102 a1 n1 a3 (nI n)) (P := cd_529_102 a1 n1 a3 (nI n)) (Q := fun t => ∃ g' h', t = (true, s2 N a3 328 g' h') ∧ ∀ j, j < n → g' j = lN ((dst n l x).1 j)) l (fun t s => ∃ g h, s = (lN (l - t), s2 N a3 328 g h) ∧ ∀ j, j < n → g j = lN ((dst n t x).1 j) ∧ h j = mr ((dst n t x).2 j)) ?_ ?_ (Nat.zero_le _) ⟨g, h, rfl, hg⟩
  · rintro t s ht ⟨g, h, rfl, hg⟩
    have l2 : (0 : Int64) < lN (l - t) := lN_pos (by omega) (by omega)
    have hm := mxi_lt (R := (dst n t x).2) (show 0 < n by omega)
    obtain ⟨c1, c2⟩ := grt_r (N := N) (g := g) (h := h) (a1 := a1) (n1 := n1) (l := lN (l - t)) (S := fun _ => 0) (R := (dst n t x).2) h3 (show 0 < n by omega) k3 (fun j hj => ⟨(hg j hj).2, Nat.lt_of_le_of_lt (dst_le t) (hx j hj)⟩)
    rw [cd_529_102, cq_529_102]
    simp only [l2, if_true]
    refine ⟨⟨fun _ => c1, fun z => absurd trivial z⟩, Or.inl ⟨_, c2, _, _, ?_, dst_u hg hm⟩⟩
    rw [show (1 : Int64) = lN 1 from rfl, lN_sub (show 1 ≤ l - t by omega), show l - t - 1 = l - (t + 1) by omega]
  · rintro s ⟨g, h, rfl, hg⟩
    have l2 : ¬ (0 : Int64) < lN (l - l) := by rw [Nat.sub_self]; decide
    rw [cd_529_102, cq_529_102]
    simp only [l2, if_false]
    exact ⟨⟨False.elim, fun _ => trivial⟩, _, rfl, g, h, rfl, fun j hj => (hg j hj).1⟩
theorem p2_c {a1 n1 a3 n3 a4 n4 : Nat} (ha13 : a1 ≠ a3) (ha14 : a1 ≠ a4) (h3 : a4 ≠ a3) (k1 : n ≤ n1) (k3 : n ≤ n3) (k4 : n ≤ n4) (k5 : n1 < 2 ^ 31 ∧ n3 < 2 ^ 31 ∧ n4 < 2 ^ 31) (hw : ∀ i, i < n → N.2 a1 i = lN (w i)) (hv : v < 2 ^ 62) (hs : 0 < sumN w n) (hs2 : sumN w n < 2 ^ 61) (hb : ∀ i, i < n → v * w i < 2 ^ 62) : cp_240_48 a1 n1 a3 n3 a4 n4 (lN v) (nI n) (lN (sumN w n)) (lN v) 0 (s2 N a3 a4 g h) ∧ ∃ g' h', cf_240_48 a1 n1 a3 n3 a4 n4 (lN v) (nI n) (lN (sumN w n)) (lN v) 0 (s2 N a3 a4 g h) = (true, s2 N a3 a4 g' h') ∧ ∀ j, j < n → g' j = lN (shr v w n j) := by
  have hq : ∀ t, t ≤ n → sumN (shq v w n) t ≤ v := fun t ht => Nat.le_trans (sumN_mono ht) (shq_le hs)
  have n0 : ¬ lN (sumN w n) = 0 := fun z => by have := lN_pos hs (show sumN w n < 2 ^ 63 by omega); rw [z] at this; exact absurd this (by decide)
  rw [cp_240_48, cf_240_48]
  refine mz_lpn (f := cq_240_48 a1 n1 a3 n3 a4 n4 (lN v) (nI n) (lN (sumN w n))) (P := cd_240_48 a1 n1 a3 n3 a4 n4 (lN v) (nI n) (lN (sumN w n))) (Q := fun t => ∃ g' h', t = (true, s2 N a3 a4 g' h') ∧ ∀ j, j < n → g' j = lN (shr v w n j)) n (fun t s => ∃ g h, s = (lN (v - sumN (shq v w n) t), nI t, s2 N a3 a4 g h) ∧ ∀ j, j < t → g j = lN (shq v w n j) ∧ h j = mr (shm v w n j + 1)) ?_ ?_ (Nat.zero_le _) ⟨g, h, rfl, fun j hj => absurd hj (Nat.not_lt_zero _)⟩
  · rintro i s hi ⟨g, h, rfl, hg⟩
    have hq1 := hq (i + 1) hi
    rw [sumN] at hq1
    have l1 : nI i < nI n := (nI_ltI (by omega) (by omega)).mpr hi
    have ga : ∀ g h, mz_gL (s2 N a3 a4 g h) a1 (nI i) = lN (w i) := fun g h => by rw [gL_a, nI_clamp (by omega), s2_gc ha13 ha14]; exact hw i hi
    have gc : ∀ g h, mz_gL (s2 N a3 a4 g h) a3 (nI i) = g i := fun g h => by rw [gL_a, nI_clamp (by omega), s2_ga]
    have e1 : lN v * lN (w i) / lN (sumN w n) = lN (shq v w n i) := by rw [lN_mul, pk_lDiv (Nat.lt_trans (hb i hi) (by omega)) hs (by omega)]; rfl
    have e2 : mz_lrem (lN v * lN (w i)) (lN (sumN w n)) = lN (shm v w n i) := by rw [lN_mul, lrem_n (Nat.lt_trans (hb i hi) (by omega)) hs (by omega)]; rfl
    have i1 : mz_ib (nI i) n1 := ib_n (show i < n1 by omega) (by omega)
    rw [cd_240_48, cq_240_48]
    simp only [l1, if_true, ga, e1, s2_a, s2_b h3, nI_clamp (show i < 2 ^ 31 by omega), e2, gc, cf_240_92]
    refine ⟨⟨fun _ => ⟨i1, n0, ib_n (show i < n3 by omega) (by omega), i1, n0, ib_n (show i < n4 by omega) (by omega), ib_n (show i < n3 by omega) (by omega), trivial⟩, fun z => absurd trivial z⟩, Or.inl ⟨_, rfl, vp_updL g i (lN (shq v w n i)), vp_updL h i (lN (shm v w n i)), ?_, fun j hj => ?_⟩⟩
    · rw [nI_1, upL_a, if_pos rfl, lN_sub (show shq v w n i ≤ v - sumN (shq v w n) i by omega), sumN, Nat.sub_sub]
    · rw [upL_a, upL_a]
      by_cases z : j = i
      · rw [if_pos z, if_pos z, z, mr_s]; exact ⟨rfl, rfl⟩
      · rw [if_neg z, if_neg z]; exact hg j (by omega)
  · rintro s ⟨g, h, rfl, hg⟩
    have l : ¬ nI n < nI n := fun q => by have := (nI_ltI (by omega) (by omega)).mp q; omega
    obtain ⟨c1, c2⟩ := p3_c (N := N) (g := g) (h := h) (x := (shq v w n, fun i => shm v w n i + 1)) h3 k3 k4 ⟨k5.2.1, k5.2.2⟩ (shl_le hs) (fun j hj => by show shm v w n j + 1 < 2 ^ 62; have := shm_lt (v := v) hs j; omega) hg
    rw [cd_240_48, cq_240_48]
    simp only [l, if_false]
    exact ⟨⟨False.elim, fun _ => c1⟩, _, rfl, c2⟩
theorem shr_c {a1 n1 a3 n3 a4 n4 : Nat} (ha13 : a1 ≠ a3) (ha14 : a1 ≠ a4) (h3 : a4 ≠ a3) (k1 : n ≤ n1) (k3 : n ≤ n3) (k4 : n ≤ n4) (k5 : n1 < 2 ^ 31 ∧ n3 < 2 ^ 31 ∧ n4 < 2 ^ 31) (hw : ∀ i, i < n → N.2 a1 i = lN (w i)) (hv : v < 2 ^ 62) (hs2 : sumN w n < 2 ^ 61) (hb : ∀ i, i < n → v * w i < 2 ^ 62) : cp_240_0 a1 n1 a3 n3 a4 n4 (lN v) (nI n) N ∧ ∃ g' h', cf_240_0 a1 n1 a3 n3 a4 n4 (lN v) (nI n) N = (decide (0 < sumN w n), s2 N a3 a4 g' h') ∧ ∀ j, j < n → g' j = lN (if 0 < sumN w n then shr v w n j else 0) := by
  rw [cp_240_0, cf_240_0, cp_240_6, cf_240_6]
  refine mz_lpn (f := cq_240_6 a1 n1 a3 n3 a4 n4 (lN v) (nI n)) (P := cd_240_6 a1 n1 a3 n3 a4 n4 (lN v) (nI n)) (Q := fun t => ∃ g' h', t = (decide (0 < sumN w n), s2 N a3 a4 g' h') ∧ ∀ j, j < n → g' j = lN (if 0 < sumN w n then shr v w n j else 0)) n (fun t s => ∃ g, s = (lN (sumN w t), nI t, s2 N a3 a4 g (N.2 a4)) ∧ ∀ j, j < t → g j = 0) ?_ ?_ (Nat.zero_le _) ⟨N.2 a3, by rw [s2_0]; rfl, fun j hj => absurd hj (Nat.not_lt_zero _)⟩
  · rintro i s hi ⟨g, rfl, hg⟩
    have l1 : nI i < nI n := (nI_ltI (by omega) (by omega)).mpr hi
    have ga : mz_gL (s2 N a3 a4 g (N.2 a4)) a1 (nI i) = lN (w i) := by rw [gL_a, nI_clamp (by omega), s2_gc ha13 ha14]; exact hw i hi
    rw [cd_240_6, cq_240_6]
    simp only [l1, if_true, ga, s2_a, nI_clamp (show i < 2 ^ 31 by omega), lN_add]
    refine ⟨⟨fun _ => ⟨ib_n (show i < n1 by omega) (by omega), ib_n (show i < n3 by omega) (by omega)⟩, fun z => absurd trivial z⟩, Or.inl ⟨_, rfl, vp_updL g i 0, ?_, fun j hj => ?_⟩⟩
    · rw [nI_1, sumN]
    · rw [upL_a]
      by_cases z : j = i
      · rw [if_pos z]
      · rw [if_neg z]; exact hg j (by omega)
  · rintro s ⟨g, rfl, hg⟩
    have l : ¬ nI n < nI n := fun q => by have := (nI_ltI (by omega) (by omega)).mp q; omega
    rw [cd_240_6, cq_240_6]
    simp only [l, if_false]
    by_cases z : 0 < sumN w n
    · have z1 := lN_pos z (show sumN w n < 2 ^ 63 by omega)
      have z2 : ¬ lN (sumN w n) = 0 := fun y => by rw [y] at z1; exact absurd z1 (by decide)
      obtain ⟨c1, g', h', c2, c3⟩ := p2_c (N := N) (g := g) (h := N.2 a4) ha13 ha14 h3 k1 k3 k4 k5 hw hv z hs2 hb
      simp only [z1, if_true]
      exact ⟨⟨False.elim, fun _ => ⟨fun _ => c1, fun y => absurd trivial y⟩⟩, _, rfl, g', h', by rw [c2, decide_eq_true z], fun j hj => by rw [if_pos z]; exact c3 j hj⟩
    · have z0 : sumN w n = 0 := by omega
      have z1 : ¬ (0 : Int64) < lN (sumN w n) := by rw [z0]; decide
      have z2 : lN (sumN w n) = 0 := by rw [z0]; rfl
      simp only [z1, if_false]
      exact ⟨⟨False.elim, fun _ => ⟨False.elim, fun _ => trivial⟩⟩, _, rfl, g, N.2 a4, by rw [decide_eq_false z], fun j hj => by rw [if_neg z]; exact hg j hj⟩
theorem p2_r {a1 n1 a3 : Nat} (ha13 : a1 ≠ a3) (ha14 : a1 ≠ 328) (h3 : 328 ≠ a3) (k1 : n ≤ n1) (k3 : n ≤ 41) (k5 : n1 < 2 ^ 31) (hw : ∀ i, i < n → N.2 a1 i = lN (w i)) (hv : v < 2 ^ 62) (hs : 0 < sumN w n) (hs2 : sumN w n < 2 ^ 61) (hb : ∀ i, i < n → v * w i < 2 ^ 62) : cp_529_49 a1 n1 a3 (lN v) (nI n) (lN (sumN w n)) (lN v) 0 (s2 N a3 328 g h) ∧ ∃ g' h', cf_529_49 a1 n1 a3 (lN v) (nI n) (lN (sumN w n)) (lN v) 0 (s2 N a3 328 g h) = (true, s2 N a3 328 g' h') ∧ ∀ j, j < n → g' j = lN (shr v w n j) := by
  have hq : ∀ t, t ≤ n → sumN (shq v w n) t ≤ v := fun t ht => Nat.le_trans (sumN_mono ht) (shq_le hs)
  have n0 : ¬ lN (sumN w n) = 0 := fun z => by have := lN_pos hs (show sumN w n < 2 ^ 63 by omega); rw [z] at this; exact absurd this (by decide)
  rw [cp_529_49, cf_529_49]
  refine mz_lpn (f := cq_529_49 a1 n1 a3 (lN v) (nI n) (lN (sumN w n))) (P := cd_529_49 a1 n1 a3 (lN v) (nI n) (lN (sumN w n))) (Q := fun t => ∃ g' h', t = (true, s2 N a3 328 g' h') ∧ ∀ j, j < n → g' j = lN (shr v w n j)) n (fun t s => ∃ g h, s = (lN (v - sumN (shq v w n) t), nI t, s2 N a3 328 g h) ∧ ∀ j, j < t → g j = lN (shq v w n j) ∧ h j = mr (shm v w n j + 1)) ?_ ?_ (Nat.zero_le _) ⟨g, h, rfl, fun j hj => absurd hj (Nat.not_lt_zero _)⟩
  · rintro i s hi ⟨g, h, rfl, hg⟩
    have hq1 := hq (i + 1) hi
    rw [sumN] at hq1
    have l1 : nI i < nI n := (nI_ltI (by omega) (by omega)).mpr hi
    have ga : ∀ g h, mz_gL (s2 N a3 328 g h) a1 (nI i) = lN (w i) := fun g h => by rw [gL_a, nI_clamp (by omega), s2_gc ha13 ha14]; exact hw i hi
    have gc : ∀ g h, mz_gL (s2 N a3 328 g h) a3 (nI i) = g i := fun g h => by rw [gL_a, nI_clamp (by omega), s2_ga]
    have e1 : lN v * lN (w i) / lN (sumN w n) = lN (shq v w n i) := by rw [lN_mul, pk_lDiv (Nat.lt_trans (hb i hi) (by omega)) hs (by omega)]; rfl
    have e2 : mz_lrem (lN v * lN (w i)) (lN (sumN w n)) = lN (shm v w n i) := by rw [lN_mul, lrem_n (Nat.lt_trans (hb i hi) (by omega)) hs (by omega)]; rfl
    have i1 : mz_ib (nI i) n1 := ib_n (show i < n1 by omega) (by omega)
    rw [cd_529_49, cq_529_49]
    simp only [l1, if_true, ga, e1, s2_a, s2_b h3, nI_clamp (show i < 2 ^ 31 by omega), e2, gc, cf_529_96]
    refine ⟨⟨fun _ => ⟨i1, n0, ib_n (show i < 41 by omega) (by omega), i1, n0, ib_n (show i < 41 by omega) (by omega), ib_n (show i < 41 by omega) (by omega), trivial⟩, fun z => absurd trivial z⟩, Or.inl ⟨_, rfl, vp_updL g i (lN (shq v w n i)), vp_updL h i (lN (shm v w n i)), ?_, fun j hj => ?_⟩⟩
    · rw [nI_1, upL_a, if_pos rfl, lN_sub (show shq v w n i ≤ v - sumN (shq v w n) i by omega), sumN, Nat.sub_sub]
    · rw [upL_a, upL_a]
      by_cases z : j = i
      · rw [if_pos z, if_pos z, z, mr_s]; exact ⟨rfl, rfl⟩
      · rw [if_neg z, if_neg z]; exact hg j (by omega)
  · rintro s ⟨g, h, rfl, hg⟩
    have l : ¬ nI n < nI n := fun q => by have := (nI_ltI (by omega) (by omega)).mp q; omega
    obtain ⟨c1, c2⟩ := p3_r (N := N) (g := g) (h := h) (x := (shq v w n, fun i => shm v w n i + 1)) h3 k3 (shl_le hs) (fun j hj => by show shm v w n j + 1 < 2 ^ 62; have := shm_lt (v := v) hs j; omega) hg
    rw [cd_529_49, cq_529_49]
    simp only [l, if_false]
    exact ⟨⟨False.elim, fun _ => c1⟩, _, rfl, c2⟩
theorem shr_r {a1 n1 a3 : Nat} (ha13 : a1 ≠ a3) (ha14 : a1 ≠ 328) (h3 : 328 ≠ a3) (k1 : n ≤ n1) (k3 : n ≤ 41) (k5 : n1 < 2 ^ 31) (hw : ∀ i, i < n → N.2 a1 i = lN (w i)) (hv : v < 2 ^ 62) (hs2 : sumN w n < 2 ^ 61) (hb : ∀ i, i < n → v * w i < 2 ^ 62) : cp_529_0 a1 n1 a3 (lN v) (nI n) N ∧ ∃ g' h', cf_529_0 a1 n1 a3 (lN v) (nI n) N = (decide (0 < sumN w n), s2 N a3 328 g' h') ∧ ∀ j, j < n → g' j = lN (if 0 < sumN w n then shr v w n j else 0) := by
  rw [cp_529_0, cf_529_0, cp_529_6, cf_529_6]
  refine mz_lpn (f := cq_529_6 a1 n1 a3 (lN v) (nI n)) (P := cd_529_6 a1 n1 a3 (lN v) (nI n)) (Q := fun t => ∃ g' h', t = (decide (0 < sumN w n), s2 N a3 328 g' h') ∧ ∀ j, j < n → g' j = lN (if 0 < sumN w n then shr v w n j else 0)) n (fun t s => ∃ g, s = (lN (sumN w t), nI t, s2 N a3 328 g (N.2 328)) ∧ ∀ j, j < t → g j = 0) ?_ ?_ (Nat.zero_le _) ⟨N.2 a3, by rw [s2_0]; rfl, fun j hj => absurd hj (Nat.not_lt_zero _)⟩
  · rintro i s hi ⟨g, rfl, hg⟩
    have l1 : nI i < nI n := (nI_ltI (by omega) (by omega)).mpr hi
    have ga : mz_gL (s2 N a3 328 g (N.2 328)) a1 (nI i) = lN (w i) := by rw [gL_a, nI_clamp (by omega), s2_gc ha13 ha14]; exact hw i hi
    rw [cd_529_6, cq_529_6]
    simp only [l1, if_true, ga, s2_a, nI_clamp (show i < 2 ^ 31 by omega), lN_add]
    refine ⟨⟨fun _ => ⟨ib_n (show i < n1 by omega) (by omega), ib_n (show i < 41 by omega) (by omega)⟩, fun z => absurd trivial z⟩, Or.inl ⟨_, rfl, vp_updL g i 0, ?_, fun j hj => ?_⟩⟩
    · rw [nI_1, sumN]
    · rw [upL_a]
      by_cases z : j = i
      · rw [if_pos z]
      · rw [if_neg z]; exact hg j (by omega)
  · rintro s ⟨g, rfl, hg⟩
    have l : ¬ nI n < nI n := fun q => by have := (nI_ltI (by omega) (by omega)).mp q; omega
    rw [cd_529_6, cq_529_6]
    simp only [l, if_false]
    by_cases z : 0 < sumN w n
    · have z1 := lN_pos z (show sumN w n < 2 ^ 63 by omega)
      have z2 : ¬ lN (sumN w n) = 0 := fun y => by rw [y] at z1; exact absurd z1 (by decide)
      obtain ⟨c1, g', h', c2, c3⟩ := p2_r (N := N) (g := g) (h := N.2 328) ha13 ha14 h3 k1 k3 k5 hw hv z hs2 hb
      simp only [z2, if_false]
      exact ⟨⟨False.elim, fun _ => ⟨False.elim, fun _ => c1⟩⟩, _, rfl, g', h', by rw [c2, decide_eq_true z], fun j hj => by rw [if_pos z]; exact c3 j hj⟩
    · have z0 : sumN w n = 0 := by omega
      have z1 : ¬ (0 : Int64) < lN (sumN w n) := by rw [z0]; decide
      have z2 : lN (sumN w n) = 0 := by rw [z0]; rfl
      simp only [z2, if_true]
      exact ⟨⟨False.elim, fun _ => ⟨fun _ => trivial, fun y => absurd trivial y⟩⟩, _, rfl, g, N.2 328, by rw [decide_eq_false z], fun j hj => by rw [if_neg z]; exact hg j hj⟩
end Sh2
