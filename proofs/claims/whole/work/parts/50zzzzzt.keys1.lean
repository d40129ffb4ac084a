/-! PURE (50zzzzzt): a merge's keys; the trial is taken. -/
def dfn (E t : Nat → Nat) (st : Nat) : Nat → Bool
  | 0 => false
  | n + 1 => dfn E t st n || decide (t (110 * st + n) ≠ E (110 * st + n))
def mkl (E t : Nat → Nat) : Nat → kyL
  | 0 => []
  | k + 1 => if dfn E t k 110 = true then (1, k) :: mkl E t k else mkl E t k
section Ky
variable {N M K : mz_N} {b : Bool} {d st : Nat} {E t e fl : Nat → Nat}
theorem dfn_t : ∀ m n, n ≤ m → dfn E t st n = true → dfn E t st m = true := by
  intro m
  induction m with
  | zero => intro n hn h; rw [show n = 0 by omega] at h; exact h
  | succ m ih =>
    intro n hn h
    by_cases w : n = m + 1
    · rw [← w]; exact h
    · rw [dfn, ih n (by omega) h]; rfl
theorem dfn_f : ∀ n, dfn E t st n = false → ∀ i, i < n → t (110 * st + i) = E (110 * st + i) := by
  intro n
  induction n with
  | zero => intro _ i hi; exact absurd hi (Nat.not_lt_zero i)
  | succ n ih =>
    intro h i hi
    rw [dfn] at h
    cases w : dfn E t st n with
    | true => rw [w] at h; cases h
    | false =>
      rw [w] at h
      by_cases y : i = n
      · rw [y]; exact Decidable.byContradiction (fun z => by rw [decide_eq_true z] at h; cases h)
      · exact ih w i (by omega)
theorem mkl_ok : ∀ k, k ≤ 5 → gka (mkl E t k) ∧ (mkl E t k).length ≤ k ∧ (∀ x, x ∈ mkl E t k → x.1 = 1 ∧ x.2 < k) ∧ ∀ u, u < k → dfn E t u 110 = true → (1, u) ∈ mkl E t k := by
  intro k
  induction k with
  | zero => intro _; exact ⟨gka_n, Nat.le_refl _, (fun x hx => by cases hx), fun u hu => absurd hu (Nat.not_lt_zero u)⟩
  | succ k ih =>
    intro hk
    obtain ⟨h1, h2, h3, h4⟩ := ih (by omega)
    rw [mkl]
    cases w : dfn E t k 110 with
    | true =>
      rw [if_pos rfl]
      refine ⟨gka_c (by omega) (by omega) ((show ∀ v, v < 5 → kyo 1 v < 135 by decide) k (by omega)) h1, by simp only [List.length_cons]; omega, fun x hx => ?_, fun u hu hd => ?_⟩
      · rcases List.mem_cons.mp hx with y | y
        · rw [y]; exact ⟨rfl, by show k < k + 1; omega⟩
        · have := h3 x y; exact ⟨this.1, by omega⟩
      · by_cases y : u = k
        · rw [y]; exact List.mem_cons_self
        · exact List.mem_cons_of_mem _ (h4 u (by omega) hd)
    | false =>
      rw [if_neg (fun z => by cases z)]
      refine ⟨h1, by omega, fun x hx => ?_, fun u hu hd => ?_⟩
      · have := h3 x hx; exact ⟨this.1, by omega⟩
      · by_cases y : u = k
        · rw [y, w] at hd; cases hd
        · exact h4 u (by omega) hd
theorem dif_c (hs : st < 5) (h12 : ∀ i, i < 550 → M.1 12 i = nI (t i)) (h3 : ∀ i, i < 550 → M.1 3 i = nI (E i)) (hb : ∀ i, i < 550 → t i < 4 ∧ E i < 4) : cp_118_0 (nI st) M ∧ cf_118_0 (nI st) M = dfn E t st 110 := by
  rw [cp_118_0, cf_118_0, cp_118_2, cf_118_2]
  refine mz_lpn (f := cq_118_2 (nI st) M) (P := cd_118_2 (nI st) M) (Q := fun r => r = dfn E t st 110) 110 (fun k s => s = nI k ∧ dfn E t st k = false) ?_ ?_ (Nat.zero_le _) ⟨rfl, rfl⟩
  · rintro k s hk ⟨rfl, hk2⟩
    have l : nI k < 110 := (nI_ltI (b := 110) (by omega) (by omega)).mpr hk
    have x1 : nI st * 110 + nI k = nI (110 * st + k) := by rw [show (110 : Int32) = nI 110 from rfl, pk_mul, nI_add, Nat.mul_comm]
    have i5 : mz_ib (nI (110 * st + k)) 550 := ib_n (by omega) (by omega)
    have g1 : mz_gI M 12 (nI (110 * st + k)) = nI (t (110 * st + k)) := by rw [gI_a, nI_clamp (by omega)]; exact h12 _ (by omega)
    have g2 : mz_gI M 3 (nI (110 * st + k)) = nI (E (110 * st + k)) := by rw [gI_a, nI_clamp (by omega)]; exact h3 _ (by omega)
    have bb := hb (110 * st + k) (by omega)
    have qq : (nI (t (110 * st + k)) = nI (E (110 * st + k))) = (t (110 * st + k) = E (110 * st + k)) := propext (nI_eq (by omega) (by omega))
    rw [cd_118_2, cq_118_2]
    simp only [l, if_true, x1, g1, g2, qq]
    refine ⟨⟨fun _ => ⟨i5, i5⟩, fun z => absurd trivial z⟩, ?_⟩
    by_cases w : t (110 * st + k) = E (110 * st + k)
    · rw [if_pos w]
      exact Or.inl ⟨_, rfl, nI_1 _, by rw [dfn, hk2, decide_eq_false (fun z => z w)]; rfl⟩
    · rw [if_neg w]
      exact Or.inr ⟨_, rfl, (dfn_t 110 (k + 1) (by omega) (by rw [dfn, hk2, decide_eq_true w]; rfl)).symm⟩
  · rintro s ⟨rfl, hk2⟩
    have l : ¬ nI 110 < 110 := by decide
    rw [cd_118_2, cq_118_2]
    simp only [l, if_false]
    exact ⟨⟨False.elim, fun _ => trivial⟩, _, rfl, hk2.symm⟩
theorem dif_r (hs : st < 5) (h7 : ∀ i, i < 550 → M.1 233 (3850 + i) = nI (t i)) (h3 : ∀ i, i < 550 → M.1 233 i = nI (E i)) (hb : ∀ i, i < 550 → t i < 4 ∧ E i < 4) (hp : cp_472_0 1 (nI st) M) : cp_467_125 (nI d) (nI st) false 0 M ∧ cf_467_125 (nI d) (nI st) false 0 M = .inl (nI (st + 1), if dfn E t st 110 = true then cf_472_0 1 (nI st) M else M) := by
  rw [cp_467_125, cf_467_125]
  refine mz_lpn (f := cq_467_125 (nI d) (nI st) M) (P := cd_467_125 (nI d) (nI st) M) (Q := fun r => r = .inl (nI (st + 1), if dfn E t st 110 = true then cf_472_0 1 (nI st) M else M)) 110 (fun k s => s = (dfn E t st k, nI k)) ?_ ?_ (Nat.zero_le _) rfl
  · rintro k s hk rfl
    have l : nI k < 110 := (nI_ltI (b := 110) (by omega) (by omega)).mpr hk
    have x1 : 3850 + 110 * nI st + nI k = nI (3850 + (110 * st + k)) := by rw [show (110 : Int32) = nI 110 from rfl, show (3850 : Int32) = nI 3850 from rfl, pk_mul, nI_add, nI_add, Nat.add_assoc]
    have x2 : 110 * nI st + nI k = nI (110 * st + k) := by rw [show (110 : Int32) = nI 110 from rfl, pk_mul, nI_add]
    have i5 : mz_ib (nI (110 * st + k)) 4400 := ib_n (by omega) (by omega)
    have i6 : mz_ib (nI (3850 + (110 * st + k))) 4400 := ib_n (by omega) (by omega)
    have g1 : mz_gI M 233 (nI (3850 + (110 * st + k))) = nI (t (110 * st + k)) := by rw [gI_a, nI_clamp (by omega)]; exact h7 _ (by omega)
    have g2 : mz_gI M 233 (nI (110 * st + k)) = nI (E (110 * st + k)) := by rw [gI_a, nI_clamp (by omega)]; exact h3 _ (by omega)
    have bb := hb (110 * st + k) (by omega)
    have qq : (nI (t (110 * st + k)) = nI (E (110 * st + k))) = (t (110 * st + k) = E (110 * st + k)) := propext (nI_eq (by omega) (by omega))
    rw [cd_467_125, cq_467_125]
    simp only [l, if_true, x1, x2, g1, g2, qq]
    refine ⟨⟨fun _ => ⟨fun _ => trivial, fun _ => ⟨i6, i5, fun _ => trivial, fun _ => trivial⟩⟩, fun z => absurd trivial z⟩, Or.inl ?_⟩
    cases w : dfn E t st k with
    | true =>
      rw [if_pos rfl]
      exact ⟨_, rfl, by show (true, nI k + 1) = _; rw [nI_1, dfn, w]; rfl⟩
    | false =>
      rw [if_neg (fun z => by cases z)]
      by_cases y : t (110 * st + k) = E (110 * st + k)
      · rw [if_pos y]
        exact ⟨_, rfl, by show (false, nI k + 1) = _; rw [nI_1, dfn, w, decide_eq_false (fun z => z y)]; rfl⟩
      · rw [if_neg y]
        exact ⟨_, rfl, by show (true, nI k + 1) = _; rw [nI_1, dfn, w, decide_eq_true y]; rfl⟩
  · rintro s rfl
    have l : ¬ nI 110 < 110 := by decide
    rw [cd_467_125, cq_467_125]
    simp only [l, if_false]
    refine ⟨⟨False.elim, fun _ => ⟨fun _ => ⟨hp, trivial⟩, fun _ => trivial⟩⟩, ?_⟩
    cases w : dfn E t st 110 with
    | true => rw [if_pos rfl, if_pos rfl]; exact ⟨_, rfl, by rw [cf_467_192, nI_1]⟩
    | false => rw [if_neg (fun z => by cases z), if_neg (fun z => by cases z)]; exact ⟨_, rfl, by rw [cf_467_192, nI_1]⟩
theorem key_c (h12 : ∀ i, i < 550 → M.1 12 i = nI (t i)) (h3 : ∀ i, i < 550 → M.1 3 i = nI (E i)) (hb : ∀ i, i < 550 → t i < 4 ∧ E i < 4) (hf : cp_120_0 (nI d) (gjc M (mkl E t 5)) ∧ cp_121_0 (cf_120_0 (nI d) (gjc M (mkl E t 5))) b) {w : Bool} {W : mz_N} (he : cf_121_0 (cf_120_0 (nI d) (gjc M (mkl E t 5))) b = (w, W)) : cp_111_52 (nI d) 0 (cf_117_0 M) b ∧ cf_111_52 (nI d) 0 (cf_117_0 M) b = (0, (if w = true then W.1 2 3 else -1001), W) := by
  rw [cp_111_52, cf_111_52]
  refine mz_lps (f := cq_111_52 (nI d) b) (P := cd_111_52 (nI d) b) 5 (fun k => (nI k, gjc M (mkl E t k))) (fun k hk => ?_) ?_ (k := 0) (Nat.zero_le _)
  · have l : nI k < 5 := (nI_ltI (b := 5) (by omega) (by omega)).mpr hk
    obtain ⟨a1, a2, a3, a4⟩ := mkl_ok (E := E) (t := t) k (by omega)
    obtain ⟨c1, c2, c3⟩ := gjc_ok (N := M) a1 (by omega)
    obtain ⟨d1, d2⟩ := dif_c (M := gjc M (mkl E t k)) hk (fun i hi => by rw [c2.1 12 rfl]; exact h12 i hi) (fun i hi => by rw [c2.1 3 rfl]; exact h3 i hi) hb
    have j1 : cp_119_0 1 (nI k) (gjc M (mkl E t k)) := gjc_p (k := (1, k)) (gka_c (by omega) (by omega) ((show ∀ v, v < 5 → kyo 1 v < 135 by decide) k hk) a1) (by omega)
    rw [cd_111_52, cq_111_52]
    simp only [l, if_true, d2]
    refine ⟨⟨fun _ => ⟨d1, fun _ => ⟨j1, trivial⟩, fun _ => trivial⟩, fun z => absurd trivial z⟩, ?_⟩
    rw [mkl]
    cases y : dfn E t k 110 with
    | true => rw [if_pos rfl, if_pos rfl, cf_111_77, nI_1]; rfl
    | false => rw [if_neg (fun z => by cases z), if_neg (fun z => by cases z), cf_111_77, nI_1]
  · have l : ¬ nI 5 < 5 := by decide
    rw [cd_111_52, cq_111_52]
    simp only [l, if_false, he]
    refine ⟨⟨False.elim, fun _ => hf⟩, ?_⟩
    cases w <;> rfl
/-- what the reference writes -/
noncomputable def acr (d : Nat) (M : mz_N) : mz_N := cf_427_0 (mz_pI (cf_426_0 0 (4 + nI d) (cf_426_0 0 (1 + nI d) (cf_426_0 7 0 M))) 232 4 (((cf_426_0 0 (4 + nI d) (cf_426_0 0 (1 + nI d) (cf_426_0 7 0 M))).1 232 4) + 1))
def acp (d : Nat) (M : mz_N) : Prop := cp_426_0 7 0 M ∧ cp_426_0 0 (1 + nI d) (cf_426_0 7 0 M) ∧ cp_426_0 0 (4 + nI d) (cf_426_0 0 (1 + nI d) (cf_426_0 7 0 M)) ∧ cp_427_0 (mz_pI (cf_426_0 0 (4 + nI d) (cf_426_0 0 (1 + nI d) (cf_426_0 7 0 M))) 232 4 (((cf_426_0 0 (4 + nI d) (cf_426_0 0 (1 + nI d) (cf_426_0 7 0 M))).1 232 4) + 1))
theorem key_r (h7 : ∀ i, i < 550 → M.1 233 (3850 + i) = nI (t i)) (h3 : ∀ i, i < 550 → M.1 233 i = nI (E i)) (hb : ∀ i, i < 550 → t i < 4 ∧ E i < 4) (hf : acp d (gjr M (mkl E t 5)) ∧ cp_474_0 (acr d (gjr M (mkl E t 5)))) {w : Bool} {W : mz_N} (he : cf_474_0 (acr d (gjr M (mkl E t 5))) = (w, W)) : cp_467_114 (nI d) 0 (cf_471_0 M) ∧ cf_467_114 (nI d) 0 (cf_471_0 M) = ((if w = true then W.1 232 4 else -1001), W) := by
  rw [cp_467_114, cf_467_114]
  refine mz_lps (f := cq_467_114 (nI d)) (P := cd_467_114 (nI d)) 5 (fun k => (nI k, gjr M (mkl E t k))) (fun k hk => ?_) ?_ (k := 0) (Nat.zero_le _)
  · have l : nI k < 5 := (nI_ltI (b := 5) (by omega) (by omega)).mpr hk
    obtain ⟨a1, a2, a3, a4⟩ := mkl_ok (E := E) (t := t) k (by omega)
    obtain ⟨c1, c2, c3⟩ := gjr_ok (N := M) a1 (by omega)
    have j1 : cp_472_0 1 (nI k) (gjr M (mkl E t k)) := gjr_p (k := (1, k)) (gka_c (by omega) (by omega) ((show ∀ v, v < 5 → kyo 1 v < 135 by decide) k hk) a1) (by omega)
    obtain ⟨d1, d2⟩ := dif_r (d := d) (M := gjr M (mkl E t k)) hk (fun i hi => by rw [c2.1 233 rfl]; exact h7 i hi) (fun i hi => by rw [c2.1 233 rfl]; exact h3 i hi) hb j1
    rw [cd_467_114, cq_467_114]
    simp only [l, if_true, d2]
    refine ⟨⟨fun _ => d1, fun z => absurd trivial z⟩, ?_⟩
    rw [mkl]
    cases y : dfn E t k 110 with
    | true => rw [if_pos rfl, if_pos rfl]; rfl
    | false => rw [if_neg (fun z => by cases z), if_neg (fun z => by cases z)]
  · have l : ¬ nI 5 < 5 := by decide
    obtain ⟨⟨f1, f2, f3, f4⟩, f5⟩ := hf
    unfold acr at f5 he
    rw [cd_467_114, cq_467_114]
    simp only [l, if_false, he]
    refine ⟨⟨False.elim, fun _ => ⟨f1, f2, f3, f4, f5, fun _ => trivial, fun _ => trivial⟩⟩, ?_⟩
    cases w <;> rfl
theorem r_copyP {u v : Nat} (hu : u < 8) (hv : v < 8) (huv : u ≠ v) : cp_426_0 (nI u) (nI v) N ∧ ∃ g, cf_426_0 (nI u) (nI v) N = mz_sI N 233 g ∧ ∀ j, g j = if 550 * v ≤ j ∧ j < 550 * v + 550 then N.1 233 (550 * u + (j - 550 * v)) else N.1 233 j := by
  refine mz_lpn (f := cq_426_2 (nI u) (nI v)) (P := cd_426_2 (nI u) (nI v)) (Q := fun t => ∃ g, t = mz_sI N 233 g ∧ ∀ j, g j = if 550 * v ≤ j ∧ j < 550 * v + 550 then N.1 233 (550 * u + (j - 550 * v)) else N.1 233 j) 550 (fun t s => ∃ g, s = (nI t, mz_sI N 233 g) ∧ ∀ j, g j = if 550 * v ≤ j ∧ j < 550 * v + t then N.1 233 (550 * u + (j - 550 * v)) else N.1 233 j) ?_ ?_ (Nat.zero_le _) ⟨N.1 233, by rw [sI_same]; rfl, fun j => by rw [if_neg (by omega)]⟩
  · rintro t s ht ⟨g, rfl, hg⟩
    have hlt : nI t < 550 := (nI_ltI (b := 550) (by omega) (by omega)).mpr ht
    have e0 : 550 * nI u + nI t = nI (550 * u + t) := by rw [show (550 : Int32) = nI 550 from rfl, pk_mul, nI_add]
    have e1 : 550 * nI v + nI t = nI (550 * v + t) := by rw [show (550 : Int32) = nI 550 from rfl, pk_mul, nI_add]
    have g1 : mz_gI (mz_sI N 233 g) 233 (nI (550 * u + t)) = N.1 233 (550 * u + t) := by rw [gI_a, sI_e, nI_clamp (by omega), hg, if_neg (by omega)]
    rw [cd_426_2, cq_426_2]
    simp only [hlt, if_true, e0, e1, g1, nI_1]
    refine ⟨⟨fun _ => ⟨ib_n (by omega) (by omega), ib_n (by omega) (by omega)⟩, fun z => absurd trivial z⟩, Or.inl ⟨_, rfl, upd g (550 * v + t) (N.1 233 (550 * u + t)), ?_, fun j => ?_⟩⟩
    · rw [wI_s, nI_clamp (by omega), sI_e, sI_sI]
    · rw [up_a]
      by_cases y : j = 550 * v + t
      · rw [if_pos y, if_pos (by omega), show j - 550 * v = t by omega]
      · rw [if_neg y, hg]
        by_cases y2 : 550 * v ≤ j ∧ j < 550 * v + t
        · rw [if_pos y2, if_pos (by omega)]
        · rw [if_neg y2, if_neg (by omega)]
  · rintro s ⟨g, rfl, hg⟩
    have hlt : ¬ nI 550 < 550 := by decide
    rw [cd_426_2, cq_426_2]
    simp only [hlt, if_false]
    exact ⟨⟨False.elim, fun _ => trivial⟩, _, rfl, g, rfl, hg⟩
def acA : List Nat := [3, 5, 6, 7, 9, 10, 11] ++ sv_A
theorem acc_c (hd : d < 3) (hn : pl_n t ≤ 40) (h12 : ∀ i, i < 550 → M.1 12 i = nI (t i)) (h4 : ∀ i, i < 550 → t i < 4) (hfl : ∀ c, c < 240 → M.1 37 c = nI (fl c) ∧ fl c < 16) : cp_120_0 (nI d) M ∧ fq acA [] M (cf_120_0 (nI d) M) ∧ (∀ i, i < 550 → (cf_120_0 (nI d) M).1 3 i = nI (t i)) ∧ (∀ u, u < 3 → ∀ i, i < 550 → (cf_120_0 (nI d) M).1 (5 + u) i = (if u = d then nI (t i) else M.1 (5 + u) i) ∧ (cf_120_0 (nI d) M).1 (9 + u) i = (if u = d then nI (t i) else M.1 (9 + u) i)) ∧ (cf_120_0 (nI d) M).1 2 3 = M.1 2 3 + 1 ∧ c_pl t fl (cf_120_0 (nI d) M) := by
  have y3 : ∀ j, (mz_yI M 12 0 3 0 550).1 3 j = if j < 550 then M.1 12 j else M.1 3 j := fun j => by
    rw [yI_s, sI_e, cpy_a, show (0 : Int32).toNatClampNeg = 0 from rfl, show (550 : Int32).toNatClampNeg = 550 from rfl]
    by_cases w : j < 550
    · rw [if_pos w, if_pos (by omega), Nat.zero_add, Nat.sub_zero]
    · rw [if_neg w, if_neg (by omega)]
  have yn : ∀ c, c ≠ 3 → (mz_yI M 12 0 3 0 550).1 c = M.1 c := fun c hc => by rw [yI_s, sI_n hc]
  have y2 : (mz_yI M 12 0 3 0 550).2 = M.2 := rfl
  rw [cp_120_0, cf_120_0, cp_120_31, cf_120_31]
  generalize mz_yI M 12 0 3 0 550 = Y at y3 yn y2
  obtain ⟨a1, a2, a3⟩ := c_bring (N := Y) (v := d) hd
  generalize cf_90_0 (nI d) Y = Z at a2 a3
  have z2 : Z.1 2 3 = M.1 2 3 := by rw [a2.1 2 rfl, yn 2 (by decide)]
  have zq : fq acA [] M (mz_pI Z 2 3 (Z.1 2 3 + 1)) := fq_pI (fq_trans (M := Y) ⟨fun c hc => yn c (fun z => by rw [z] at hc; cases hc), fun c _ => by rw [y2]⟩ (fq_sub a2 rfl rfl)) rfl
  have z3 : ∀ i, i < 550 → (mz_pI Z 2 3 (Z.1 2 3 + 1)).1 3 i = nI (t i) := fun i hi => by
    rw [pI_s, sI_n (by decide), a3, if_neg (by omega), y3, if_pos hi]; exact h12 i hi
  have zd : ∀ u, u < 3 → ∀ i, i < 550 → (mz_pI Z 2 3 (Z.1 2 3 + 1)).1 (5 + u) i = (if u = d then nI (t i) else M.1 (5 + u) i) ∧ (mz_pI Z 2 3 (Z.1 2 3 + 1)).1 (9 + u) i = (if u = d then nI (t i) else M.1 (9 + u) i) := fun u hu i hi => by
    rw [pI_s, sI_n (by omega), sI_n (by omega), a3, a3]
    by_cases w : u = d
    · rw [if_pos w, if_pos w, if_pos (show (5 + u = 5 + d ∨ 5 + u = 9 + d) ∧ i < 550 by omega), if_pos (show (9 + u = 5 + d ∨ 9 + u = 9 + d) ∧ i < 550 by omega), y3, if_pos hi]; exact ⟨h12 i hi, h12 i hi⟩
    · rw [if_neg w, if_neg w, if_neg (show ¬ ((5 + u = 5 + d ∨ 5 + u = 9 + d) ∧ i < 550) by omega), if_neg (show ¬ ((9 + u = 5 + d ∨ 9 + u = 9 + d) ∧ i < 550) by omega), yn _ (by omega), yn _ (by omega)]; exact ⟨rfl, rfl⟩
  have zf : ∀ c, c < 240 → (mz_pI Z 2 3 (Z.1 2 3 + 1)).1 37 c = nI (fl c) ∧ fl c < 16 := fun c hc => by rw [zq.1 37 rfl]; exact hfl c hc
  have zv : (mz_pI Z 2 3 (Z.1 2 3 + 1)).1 2 3 = M.1 2 3 + 1 := by rw [pI_s, sI_e, up_a, if_pos rfl, z2]
  generalize mz_pI Z 2 3 (Z.1 2 3 + 1) = W at zq z3 zd zf zv
  obtain ⟨s1, s2, s3⟩ := c_survey (N := W) (e := t) (fl := fl) hn (fun i hi => ⟨z3 i hi, h4 i hi⟩) zf
  have sd : ∀ u, u < 3 → (cf_77_0 W).1 (5 + u) = W.1 (5 + u) ∧ (cf_77_0 W).1 (9 + u) = W.1 (9 + u) := fun u hu => by
    rcases (show u = 0 ∨ u = 1 ∨ u = 2 by omega) with w | w | w <;> subst w <;> exact ⟨s2.1.1 _ rfl, s2.1.1 _ rfl⟩
  exact ⟨⟨a1, s1⟩, fq_trans zq (fq_sub (fq_fr s2.1) rfl rfl), fun i hi => by rw [s2.1.1 3 rfl]; exact z3 i hi, fun u hu i hi => by rw [(sd u hu).1, (sd u hu).2]; exact zd u hu i hi, by rw [s2.2 3 (by decide) (by decide)]; exact zv, s3⟩
theorem acc_r (hd : d < 3) (hn : pl_n t ≤ 40) (h7 : ∀ i, i < 550 → M.1 233 (3850 + i) = nI (t i)) (h4 : ∀ i, i < 550 → t i < 4) (hbo : ∀ i, i < 550 → ge_sd (i % 110) < 4 → t i = 2 ∨ t i = 3) (hfl : ∀ c, c < 240 → M.1 234 c = nI (fl c) ∧ fl c < 16) : acp d M ∧ fq (233 :: rl_A) [] M (acr d M) ∧ (∀ i, i < 550 → (acr d M).1 233 i = nI (t i)) ∧ (∀ u, u < 3 → ∀ i, i < 550 → (acr d M).1 233 (550 * (1 + u) + i) = (if u = d then nI (t i) else M.1 233 (550 * (1 + u) + i)) ∧ (acr d M).1 233 (550 * (4 + u) + i) = (if u = d then nI (t i) else M.1 233 (550 * (4 + u) + i))) ∧ (acr d M).1 232 4 = M.1 232 4 + 1 ∧ (∀ f, f ≠ 4 → f ≠ 7 → (acr d M).1 232 f = M.1 232 f) ∧ r_pl t fl (acr d M) := by
  have e1 : (1 : Int32) + nI d = nI (1 + d) := by rw [show (1 : Int32) = nI 1 from rfl, nI_add]
  have e4 : (4 : Int32) + nI d = nI (4 + d) := by rw [show (4 : Int32) = nI 4 from rfl, nI_add]
  obtain ⟨a1, g1, a2, a3⟩ := r_copyP (N := M) (u := 7) (v := 0) (by omega) (by omega) (by omega)
  obtain ⟨b1', g2, b2, b3⟩ := r_copyP (N := mz_sI M 233 g1) (u := 0) (v := 1 + d) (by omega) (by omega) (by omega)
  obtain ⟨c1, g3, c2, c3⟩ := r_copyP (N := mz_sI (mz_sI M 233 g1) 233 g2) (u := 0) (v := 4 + d) (by omega) (by omega) (by omega)
  have a1' : cp_426_0 7 0 M := a1
  have a2' : cf_426_0 7 0 M = mz_sI M 233 g1 := a2
  have b1'' : cp_426_0 0 (nI (1 + d)) (mz_sI M 233 g1) := b1'
  have b2' : cf_426_0 0 (nI (1 + d)) (mz_sI M 233 g1) = mz_sI (mz_sI M 233 g1) 233 g2 := b2
  have c1' : cp_426_0 0 (nI (4 + d)) (mz_sI (mz_sI M 233 g1) 233 g2) := c1
  have c2' : cf_426_0 0 (nI (4 + d)) (mz_sI (mz_sI M 233 g1) 233 g2) = mz_sI (mz_sI (mz_sI M 233 g1) 233 g2) 233 g3 := c2
  have b3' : ∀ j, g2 j = if 550 * (1 + d) ≤ j ∧ j < 550 * (1 + d) + 550 then g1 (550 * 0 + (j - 550 * (1 + d))) else g1 j := b3
  have c3' : ∀ j, g3 j = if 550 * (4 + d) ≤ j ∧ j < 550 * (4 + d) + 550 then g2 (550 * 0 + (j - 550 * (4 + d))) else g2 j := c3
  have k1 : ∀ i, i < 550 → g1 i = nI (t i) := fun i hi => by rw [a3, if_pos (by omega), show 550 * 7 + (i - 550 * 0) = 3850 + i by omega]; exact h7 i hi
  have k2 : ∀ i, i < 550 → g2 i = nI (t i) := fun i hi => by rw [b3', if_neg (by omega)]; exact k1 i hi
  have k3 : ∀ i, i < 550 → g3 i = nI (t i) := fun i hi => by rw [c3', if_neg (by omega)]; exact k2 i hi
  unfold acp acr
  rw [a2', e1, e4, b2', c2']
  have zq : fq (233 :: rl_A) [] M (mz_pI (mz_sI (mz_sI (mz_sI M 233 g1) 233 g2) 233 g3) 232 4 ((mz_sI (mz_sI (mz_sI M 233 g1) 233 g2) 233 g3).1 232 4 + 1)) := fq_pI (fq_sI (fq_sI (fq_sI (fq_refl _ _ _) rfl) rfl) rfl) rfl
  have z233 : (mz_pI (mz_sI (mz_sI (mz_sI M 233 g1) 233 g2) 233 g3) 232 4 ((mz_sI (mz_sI (mz_sI M 233 g1) 233 g2) 233 g3).1 232 4 + 1)).1 233 = g3 := by rw [pI_s, sI_n (by decide), sI_e]
  have z4 : (mz_pI (mz_sI (mz_sI (mz_sI M 233 g1) 233 g2) 233 g3) 232 4 ((mz_sI (mz_sI (mz_sI M 233 g1) 233 g2) 233 g3).1 232 4 + 1)).1 232 4 = M.1 232 4 + 1 := by rw [pI_s, sI_e, up_a, if_pos rfl, sI_n (by decide), sI_n (by decide), sI_n (by decide)]
  have z0 : ∀ f, f ≠ 4 → (mz_pI (mz_sI (mz_sI (mz_sI M 233 g1) 233 g2) 233 g3) 232 4 ((mz_sI (mz_sI (mz_sI M 233 g1) 233 g2) 233 g3).1 232 4 + 1)).1 232 f = M.1 232 f := fun f hf => by rw [pI_s, sI_e, up_a, if_neg hf, sI_n (by decide), sI_n (by decide), sI_n (by decide)]
  generalize mz_pI (mz_sI (mz_sI (mz_sI M 233 g1) 233 g2) 233 g3) 232 4 ((mz_sI (mz_sI (mz_sI M 233 g1) 233 g2) 233 g3).1 232 4 + 1) = W at zq z233 z4 z0
  obtain ⟨s1, s2, s3⟩ := r_lay (N := W) (e := t) (fl := fl) hn (fun c hc => by rw [zq.1 234 rfl]; exact hfl c hc) (fun i hi => ⟨by rw [z233]; exact k3 i hi, h4 i hi⟩) hbo
  refine ⟨⟨a1', b1'', c1', s1⟩, fq_trans zq (fq_sub (fq_fr s2.1) rfl rfl), fun i hi => by rw [s2.1.1 233 rfl, z233]; exact k3 i hi, fun u hu i hi => ?_, by rw [s2.2 4 (by decide)]; exact z4, fun f h1 h2 => by rw [s2.2 f h2]; exact z0 f h1, s3⟩
  rw [s2.1.1 233 rfl, z233]
  have w1 : ∀ j, 550 ≤ j → g1 j = M.1 233 j := fun j hj => by rw [a3, if_neg (by omega)]
  by_cases w : u = d
  · subst w
    rw [if_pos rfl, if_pos rfl, c3', c3', if_neg (show ¬ (550 * (4 + u) ≤ 550 * (1 + u) + i ∧ 550 * (1 + u) + i < 550 * (4 + u) + 550) by omega), if_pos (show 550 * (4 + u) ≤ 550 * (4 + u) + i ∧ 550 * (4 + u) + i < 550 * (4 + u) + 550 by omega), b3', if_pos (show 550 * (1 + u) ≤ 550 * (1 + u) + i ∧ 550 * (1 + u) + i < 550 * (1 + u) + 550 by omega), show 550 * 0 + (550 * (1 + u) + i - 550 * (1 + u)) = i by omega, show 550 * 0 + (550 * (4 + u) + i - 550 * (4 + u)) = i by omega]
    exact ⟨k1 i hi, k2 i hi⟩
  · have y1 : g2 (550 * (1 + u) + i) = M.1 233 (550 * (1 + u) + i) := by rw [b3', if_neg (by omega), w1 _ (by omega)]
    have y2 : g2 (550 * (4 + u) + i) = M.1 233 (550 * (4 + u) + i) := by rw [b3', if_neg (by omega), w1 _ (by omega)]
    rw [if_neg w, if_neg w, c3', c3', if_neg (show ¬ (550 * (4 + d) ≤ 550 * (1 + u) + i ∧ 550 * (1 + u) + i < 550 * (4 + d) + 550) by omega), if_neg (show ¬ (550 * (4 + d) ≤ 550 * (4 + u) + i ∧ 550 * (4 + u) + i < 550 * (4 + d) + 550) by omega)]
    exact ⟨y1, y2⟩
end Ky
