/-! PURE (50zzzl): the reference notes its alarms. -/
section Alr
variable {N : mz_N} {e fl : Nat → Nat} {w : wtc} {tm co : Nat} {on tr sh fa : Nat → Bool} {dry : Bool} {G : Nat → Int32} {cr mo : Nat → Nat}
def wcr (N : mz_N) (w : wtc) : Prop := (∀ a, a < 18 → N.1 279 a = mz_b01 (w.1 a)) ∧ (∀ i, i < 32 → i < w.2.2.2 → N.1 280 i = nI (w.2.1 i) ∧ N.2 281 i = lN (w.2.2.1 i)) ∧ N.1 232 72 = nI w.2.2.2
/-- a search that goes on to its end -/
theorem srch {α β : Type} [Nonempty β] {f : Bool × Int32 → (Bool × Int32) ⊕ β} {P : Bool × Int32 → Prop} {p : Nat → Bool} {n : Nat} {r : Bool → β}
    (hs : ∀ i, i < n → ∀ b, P (b, nI i) ∧ f (b, nI i) = .inl (b || p i, nI (i + 1))) (he : ∀ b, P (b, nI n) ∧ f (b, nI n) = .inr (r b)) : (∃ m, mz_ok f P m (false, 0)) ∧ mz_run f (false, 0) = r (anb p n) := by
  refine mz_lpn (f := f) (P := P) (Q := fun t => t = r (anb p n)) n (fun i t => t = (anb p i, nI i)) ?_ ?_ (Nat.zero_le _) rfl
  · rintro i t hi rfl
    obtain ⟨a, b⟩ := hs i hi (anb p i)
    exact ⟨a, Or.inl ⟨_, b, rfl⟩⟩
  · rintro t rfl
    obtain ⟨a, b⟩ := he (anb p n)
    exact ⟨a, _, b, rfl⟩
theorem tr_r (h : ∀ j, j < 11 → N.1 275 j = nI (b1 (tr j))) : cp_538_72 false 0 N ∧ cf_538_72 false 0 N = (anb tr 11, N) := by
  rw [cp_538_72, cf_538_72]
  refine srch (α := Unit) (f := cq_538_72 N) (P := cd_538_72 N) (p := tr) (n := 11) (r := fun b => (b, N)) (fun i hi b => ?_) (fun b => ?_)
  · have l : nI i < 11 := (nI_ltI (b := 11) (by omega) (by omega)).mpr hi
    have g : mz_gZ N 275 (nI i) = tr i := by rw [gZ_a, nI_clamp (by omega), h i hi]; cases tr i <;> rfl
    have z : mz_z01 (mz_gI N 275 (nI i)) := by rw [gI_a, nI_clamp (by omega), h i hi]; exact z01_b _
    have ii : mz_ib (nI i) 11 := ib_n hi (by omega)
    rw [cd_538_72, cq_538_72]
    simp only [l, if_true, g]
    cases b with
    | true =>
      rw [if_pos rfl]
      exact ⟨⟨fun _ => ⟨fun _ => trivial, fun z => absurd rfl z⟩, fun z => absurd trivial z⟩, by rw [cf_538_91, cf_538_96, nI_1]; rfl⟩
    | false =>
      rw [if_neg (by decide)]
      cases ht : tr i with
      | true =>
        rw [if_pos rfl]
        exact ⟨⟨fun _ => ⟨(fun z => by cases z), fun _ => ⟨ii, z, fun _ => trivial, fun z => absurd rfl z⟩⟩, fun z => absurd trivial z⟩, by rw [cf_538_91, cf_538_96, nI_1]; rfl⟩
      | false =>
        rw [if_neg (by decide)]
        exact ⟨⟨fun _ => ⟨(fun z => by cases z), fun _ => ⟨ii, z, (fun z => by cases z), fun _ => trivial⟩⟩, fun z => absurd trivial z⟩, by rw [cf_538_96, nI_1]; rfl⟩
  · rw [cd_538_72, cq_538_72]
    exact ⟨⟨fun z => absurd z (show ¬ nI 11 < 11 by decide), fun _ => trivial⟩, if_neg (show ¬ (nI 11 : Int32) < 11 by decide)⟩
theorem sh_r (h : ∀ j, j < 11 → N.1 273 j = nI (b1 (sh j))) : cp_538_140 false 0 N ∧ cf_538_140 false 0 N = (anb sh 11, N) := by
  rw [cp_538_140, cf_538_140]
  refine srch (α := Unit) (f := cq_538_140 N) (P := cd_538_140 N) (p := sh) (n := 11) (r := fun b => (b, N)) (fun i hi b => ?_) (fun b => ?_)
  · have l : nI i < 11 := (nI_ltI (b := 11) (by omega) (by omega)).mpr hi
    have g : mz_gZ N 273 (nI i) = sh i := by rw [gZ_a, nI_clamp (by omega), h i hi]; cases sh i <;> rfl
    have z : mz_z01 (mz_gI N 273 (nI i)) := by rw [gI_a, nI_clamp (by omega), h i hi]; exact z01_b _
    have ii : mz_ib (nI i) 11 := ib_n hi (by omega)
    rw [cd_538_140, cq_538_140]
    simp only [l, if_true, g]
    cases b with
    | true =>
      rw [if_pos rfl]
      exact ⟨⟨fun _ => ⟨fun _ => trivial, fun z => absurd rfl z⟩, fun z => absurd trivial z⟩, by rw [cf_538_159, cf_538_164, nI_1]; rfl⟩
    | false =>
      rw [if_neg (by decide)]
      cases ht : sh i with
      | true =>
        rw [if_pos rfl]
        exact ⟨⟨fun _ => ⟨(fun z => by cases z), fun _ => ⟨ii, z, fun _ => trivial, fun z => absurd rfl z⟩⟩, fun z => absurd trivial z⟩, by rw [cf_538_159, cf_538_164, nI_1]; rfl⟩
      | false =>
        rw [if_neg (by decide)]
        exact ⟨⟨fun _ => ⟨(fun z => by cases z), fun _ => ⟨ii, z, (fun z => by cases z), fun _ => trivial⟩⟩, fun z => absurd trivial z⟩, by rw [cf_538_164, nI_1]; rfl⟩
  · rw [cd_538_140, cq_538_140]
    exact ⟨⟨fun z => absurd z (show ¬ nI 11 < 11 by decide), fun _ => trivial⟩, if_neg (show ¬ (nI 11 : Int32) < 11 by decide)⟩
theorem mo_r (h : ∀ c, c < 240 → N.2 263 c = lN (mo c) ∧ mo c ≤ 1000) : cp_538_319 false 0 N ∧ cf_538_319 false 0 N = (anb (fun c => decide (500 ≤ mo c)) 240, N) := by
  rw [cp_538_319, cf_538_319]
  refine srch (α := Unit) (f := cq_538_319 N) (P := cd_538_319 N) (p := fun c => decide (500 ≤ mo c)) (n := 240) (r := fun b => (b, N)) (fun i hi b => ?_) (fun b => ?_)
  · have l : nI i < 240 := (nI_ltI (b := 240) (by omega) (by omega)).mpr hi
    obtain ⟨m1, m2⟩ := h i hi
    have g : mz_gL N 263 (nI i) = lN (mo i) := by rw [gL_a, nI_clamp (by omega)]; exact m1
    have lt : (lN (mo i) < 500) ↔ mo i < 500 := lN_lt64 (b := 500) (by omega) (by omega)
    have ii : mz_ib (nI i) 240 := ib_n hi (by omega)
    rw [cd_538_319, cq_538_319]
    simp only [l, if_true, g, lt]
    cases b with
    | true =>
      rw [if_pos rfl]
      exact ⟨⟨fun _ => ⟨fun _ => trivial, fun z => absurd rfl z⟩, fun z => absurd trivial z⟩, by rw [cf_538_343, cf_538_348, nI_1]; rfl⟩
    | false =>
      rw [if_neg (by decide)]
      by_cases z : mo i < 500
      · rw [if_pos z]
        exact ⟨⟨fun _ => ⟨(fun z => by cases z), fun _ => ⟨ii, fun _ => trivial, fun y => absurd z y⟩⟩, fun z => absurd trivial z⟩, by rw [cf_538_348, nI_1, decide_eq_false (by omega)]; rfl⟩
      · rw [if_neg z]
        exact ⟨⟨fun _ => ⟨(fun z => by cases z), fun _ => ⟨ii, fun y => absurd y z, fun _ => trivial⟩⟩, fun z => absurd trivial z⟩, by rw [cf_538_343, cf_538_348, nI_1, decide_eq_true (by omega)]; rfl⟩
  · rw [cd_538_319, cq_538_319]
    exact ⟨⟨fun z => absurd z (show ¬ nI 240 < 240 by decide), fun _ => trivial⟩, if_neg (show ¬ (nI 240 : Int32) < 240 by decide)⟩
theorem dt_r {u : Nat → Int64} (hp : r_pl e fl N) (h40 : ∀ k, k < pl_n e → N.2 340 k = ts e u k) : cp_538_270 false 0 N ∧ cf_538_270 false 0 N = (adt e u (pl_n e), N) := by
  have hb2 := pl_n_le e
  have ea : ∀ n, adt e u n = anb (dtc e u) n := fun n => by
    induction n with
    | zero => rfl
    | succ n ih =>
      show (adt e u n || dtc e u n) = (anb (dtc e u) n || dtc e u n)
      rw [ih]
  rw [ea, cp_538_270, cf_538_270]
  refine srch (α := Unit) (f := cq_538_270 N) (P := cd_538_270 N) (p := dtc e u) (n := pl_n e) (r := fun b => (b, N)) (fun i hi b => ?_) (fun b => ?_)
  · have l : nI i < nI (pl_n e) := (nI_ltI (by omega) (by omega)).mpr hi
    have hz := pl_sz_le hi
    have g37 : (20 : Int64) * (mz_gI N 237 (nI i)).toInt64 = 20 * lN (pl_sz e i) := by
      rw [gI_a, nI_clamp (by omega), (hp.2.2.1 i hi).2, nI_L (by omega)]
    have g40 : mz_gL N 340 (nI i) = ts e u i := by rw [gL_a, nI_clamp (by omega)]; exact h40 i hi
    have ii : mz_ib (nI i) 240 := ib_n (by omega) (by omega)
    rw [cd_538_270, cq_538_270]
    simp only [hp.1, l, if_true, g37, g40]
    cases b with
    | true =>
      rw [if_pos rfl]
      exact ⟨⟨fun _ => ⟨fun _ => trivial, fun z => absurd rfl z⟩, fun z => absurd trivial z⟩, by rw [cf_538_303, cf_538_308, nI_1]; rfl⟩
    | false =>
      rw [if_neg (by decide)]
      by_cases z : 20 * lN (pl_sz e i) < ts e u i
      · have hd : dtc e u i = true := decide_eq_true z
        rw [if_pos z, hd]
        exact ⟨⟨fun _ => ⟨(fun z => by cases z), fun _ => ⟨ii, ii, fun _ => trivial, fun y => absurd z y⟩⟩, fun z => absurd trivial z⟩, by rw [cf_538_303, cf_538_308, nI_1]; rfl⟩
      · have hd : dtc e u i = false := decide_eq_false z
        rw [if_neg z, hd]
        exact ⟨⟨fun _ => ⟨(fun z => by cases z), fun _ => ⟨ii, ii, fun y => absurd y z, fun _ => trivial⟩⟩, fun z => absurd trivial z⟩, by rw [cf_538_308, nI_1]; rfl⟩
  · have l : ¬ nI (pl_n e) < nI (pl_n e) := fun q => by have := (nI_ltI (by omega) (by omega)).mp q; omega
    rw [cd_538_270, cq_538_270]
    simp only [hp.1, l, if_false]
    exact ⟨⟨False.elim, fun _ => trivial⟩, trivial⟩
theorem st_r2 {u : Nat → Int64} (hn : pl_n e ≤ 40) (hp : r_pl e fl N) (h40 : ∀ k, k < pl_n e → N.2 340 k = ts e u k) : cp_538_183 false 0 N ∧ cf_538_183 false 0 N = (anb (stf e fl u) 10, N) := by
  rw [cp_538_183, cf_538_183]
  refine srch (α := Unit) (f := cq_538_183 N) (P := cd_538_183 N) (p := stf e fl u) (n := 10) (r := fun b => (b, N)) (fun i hi b => ?_) (fun b => ?_)
  · have l : nI i < 10 := (nI_ltI (b := 10) (by omega) (by omega)).mpr hi
    have ii : mz_ib (nI i) 10 := ib_n hi (by omega)
    have g42 : mz_gI N 242 (nI i) = nO (pl_n e) (pl_ht e fl i) := by rw [gI_a, nI_clamp (by omega)]; exact (hp.2.2.2.2.2 i hi).1
    rw [cd_538_183, cq_538_183]
    simp only [l, if_true, g42]
    by_cases y : pl_ht e fl i < pl_n e
    · have eO : nO (pl_n e) (pl_ht e fl i) = nI (pl_ht e fl i) := if_pos y
      have nm : ¬ nI (pl_ht e fl i) < 0 := nI_pos (by omega)
      have hz := pl_sz_le y
      have g37 : (1000 : Int64) * (mz_gI N 237 (nI (pl_ht e fl i))).toInt64 = 1000 * lN (pl_sz e (pl_ht e fl i)) := by
        rw [gI_a, nI_clamp (by omega), (hp.2.2.1 _ y).2, nI_L (by omega)]
      have g40 : mz_gL N 340 (nI (pl_ht e fl i)) = ts e u (pl_ht e fl i) := by rw [gL_a, nI_clamp (by omega)]; exact h40 _ y
      have ih : mz_ib (nI (pl_ht e fl i)) 240 := ib_n (by omega) (by omega)
      have p8 : cp_538_208 (nI (pl_ht e fl i)) b (nI i) N := by
        rw [cp_538_208, g42, eO, g37, g40]
        exact ⟨fun _ => trivial, fun _ => ⟨ii, fun q => (nm q).elim, fun _ => ⟨ih, ih, fun _ => trivial, fun _ => trivial⟩⟩⟩
      simp only [eO, nm, if_false]
      refine ⟨⟨fun _ => ⟨ii, False.elim, fun _ => ⟨ii, p8⟩⟩, fun z => absurd trivial z⟩, ?_⟩
      rw [cf_538_208, g42, eO, g37, g40]
      cases b with
      | true => rw [if_pos rfl, cf_538_246, cf_538_251, nI_1]; rfl
      | false =>
        rw [if_neg (by decide), if_neg nm]
        by_cases z : 1000 * lN (pl_sz e (pl_ht e fl i)) < ts e u (pl_ht e fl i)
        · have hd : stf e fl u i = true := decide_eq_true ⟨y, z⟩
          rw [if_pos z, hd, cf_538_246, cf_538_251, nI_1]; rfl
        · have hd : stf e fl u i = false := decide_eq_false (fun q => z q.2)
          rw [if_neg z, hd, cf_538_250, cf_538_251, nI_1]; rfl
    · have eO : nO (pl_n e) (pl_ht e fl i) = -1 := if_neg y
      have lm : (-1 : Int32) < 0 := by decide
      have hd : stf e fl u i = false := decide_eq_false (fun q => y q.1)
      simp only [eO, lm, if_true]
      rw [cp_538_208, cf_538_208, g42, eO, hd]
      cases b with
      | true =>
        rw [if_pos rfl]
        exact ⟨⟨fun _ => ⟨ii, fun _ => ⟨fun _ => trivial, fun z => absurd rfl z⟩, fun z => absurd trivial z⟩, fun z => absurd trivial z⟩, by rw [cf_538_246, cf_538_251, nI_1]; rfl⟩
      | false =>
        rw [if_neg (by decide), if_pos lm]
        exact ⟨⟨fun _ => ⟨ii, fun _ => ⟨(fun z => by cases z), fun _ => ⟨ii, fun _ => trivial, fun z => absurd lm z⟩⟩, fun z => absurd trivial z⟩, fun z => absurd trivial z⟩, by rw [cf_538_250, cf_538_251, nI_1]; rfl⟩
  · rw [cd_538_183, cq_538_183]
    exact ⟨⟨fun z => absurd z (show ¬ nI 10 < 10 by decide), fun _ => trivial⟩, if_neg (show ¬ (nI 10 : Int32) < 10 by decide)⟩
/-- an alarm in the reference -/
theorem on_r {v : Nat → Nat} {st u : Nat → Int64} {a : Nat} (ha : a < 18) (hn : pl_n e ≤ 40) (hp : r_pl e fl N) (h78 : ∀ j, j < 10 → N.1 278 j = nI (v j) ∧ v j ≤ 2 ^ 30) (hdry : N.1 232 67 = mz_b01 dry) (hco : N.2 232 68 = lN co) (hco2 : co < 2 ^ 30) (htr : ∀ j, j < 11 → N.1 275 j = nI (b1 (tr j))) (hsh : ∀ j, j < 11 → N.1 273 j = nI (b1 (sh j))) (hfa : ∀ j, j < 3 → N.1 307 j = nI (b1 (fa j))) (hmo : ∀ c, c < 240 → N.2 263 c = lN (mo c) ∧ mo c ≤ 1000) (hst : N.2 261 = st) (hu : N.2 265 = u)
    (o0 : ∀ j, j < 10 → on j = decide (30 ≤ v j)) (o10 : on 10 = dry) (o11 : on 11 = decide (240 ≤ co)) (o12 : on 12 = anb tr 11) (o13 : on 13 = anb fa 3) (o14 : on 14 = anb sh 11) (o15 : on 15 = anb (stf e fl st) 10) (o16 : on 16 = adt e u (pl_n e)) (o17 : on 17 = anb (fun c => decide (500 ≤ mo c)) 240) :
    cp_538_0 (nI a) N ∧ ∃ M, cf_538_0 (nI a) N = (on a, M) ∧ fq [] [340] N M := by
  have ne : ∀ k, k < 18 → a ≠ k → ¬ nI a = nI k := fun k hk h z => h ((nI_eq (by omega) (by omega)).mp z)
  rw [cp_538_0, cf_538_0]
  by_cases h10 : a = 10
  · have q : nI a = 10 := by rw [h10]; rfl
    rw [if_pos q, h10, o10]
    refine ⟨⟨fun _ => by rw [hdry]; exact z01_b01 _, fun z => absurd rfl z⟩, N, ?_, fq_refl _ _ _⟩
    show (decide (N.1 232 67 = 1), N) = _
    rw [hdry, d_b01]
  have n10 : ¬ nI a = 10 := ne 10 (by omega) h10
  rw [if_neg n10]
  by_cases h11 : a = 11
  · have q : nI a = 11 := by rw [h11]; rfl
    have lt : (lN co < 240) ↔ co < 240 := lN_lt64 (b := 240) (by omega) (by omega)
    rw [if_pos q, h11, o11, hco]
    refine ⟨⟨fun z => absurd z (by decide), fun _ => ⟨fun _ => trivial, fun z => absurd rfl z⟩⟩, N, ?_, fq_refl _ _ _⟩
    by_cases z : co < 240
    · rw [if_pos (lt.mpr z), decide_eq_false (by omega)]
    · rw [if_neg (fun y => z (lt.mp y)), decide_eq_true (by omega)]
  have n11 : ¬ nI a = 11 := ne 11 (by omega) h11
  rw [if_neg n11]
  by_cases h12 : a = 12
  · have q : nI a = 12 := by rw [h12]; rfl
    obtain ⟨p1, p2⟩ := tr_r htr
    rw [if_pos q, h12, o12]
    exact ⟨⟨fun z => absurd z (by decide), fun _ => ⟨fun z => absurd z (by decide), fun _ => ⟨fun _ => p1, fun z => absurd rfl z⟩⟩⟩, N, p2, fq_refl _ _ _⟩
  have n12 : ¬ nI a = 12 := ne 12 (by omega) h12
  rw [if_neg n12]
  by_cases h13 : a = 13
  · have q : nI a = 13 := by rw [h13]; rfl
    have z : ∀ j, j < 3 → mz_z01 (mz_gI N 307 (nI j)) := fun j hj => by rw [gI_a, nI_clamp (by omega), hfa j hj]; exact z01_b _
    have g : ∀ j, j < 3 → mz_gZ N 307 (nI j) = fa j := fun j hj => by rw [gZ_a, nI_clamp (by omega), hfa j hj]; cases fa j <;> rfl
    have g0 : mz_gZ N 307 0 = fa 0 := g 0 (by omega)
    have g1 : mz_gZ N 307 1 = fa 1 := g 1 (by omega)
    have g2 : mz_gZ N 307 2 = fa 2 := g 2 (by omega)
    have z0 : mz_z01 (mz_gI N 307 0) := z 0 (by omega)
    have z1 : mz_z01 (mz_gI N 307 1) := z 1 (by omega)
    have z2 : mz_z01 (mz_gI N 307 2) := z 2 (by omega)
    rw [if_pos q, h13, o13, g0, g1, g2]
    refine ⟨⟨fun z => absurd z (by decide), fun _ => ⟨fun z => absurd z (by decide), fun _ => ⟨fun z => absurd z (by decide), fun _ => ⟨fun _ => ⟨z0, fun _ => trivial, fun _ => ⟨z1, fun _ => trivial, fun _ => z2⟩⟩, fun z => absurd rfl z⟩⟩⟩⟩, N, ?_, fq_refl _ _ _⟩
    show _ = ((((false || fa 0) || fa 1) || fa 2), N)
    cases fa 0 <;> cases fa 1 <;> cases fa 2 <;> rfl
  have n13 : ¬ nI a = 13 := ne 13 (by omega) h13
  rw [if_neg n13]
  by_cases h14 : a = 14
  · have q : nI a = 14 := by rw [h14]; rfl
    obtain ⟨p1, p2⟩ := sh_r hsh
    rw [if_pos q, h14, o14]
    exact ⟨⟨fun z => absurd z (by decide), fun _ => ⟨fun z => absurd z (by decide), fun _ => ⟨fun z => absurd z (by decide), fun _ => ⟨fun z => absurd z (by decide), fun _ => ⟨fun _ => p1, fun z => absurd rfl z⟩⟩⟩⟩⟩, N, p2, fq_refl _ _ _⟩
  have n14 : ¬ nI a = 14 := ne 14 (by omega) h14
  rw [if_neg n14]
  by_cases h15 : a = 15
  · have q : nI a = 15 := by rw [h15]; rfl
    obtain ⟨s1, f, s2, s3⟩ := sma_r (N := N) (e := e) (a1 := 261) hp.1 hp.2.1 (by decide)
    obtain ⟨p1, p2⟩ := st_r2 (N := mz_sL N 340 f) (e := e) (fl := fl) (u := st) hn hp (fun k hk => by rw [sL_e, s3 k hk, hst])
    rw [if_pos q, h15, o15, s2]
    exact ⟨⟨fun z => absurd z (by decide), fun _ => ⟨fun z => absurd z (by decide), fun _ => ⟨fun z => absurd z (by decide), fun _ => ⟨fun z => absurd z (by decide), fun _ => ⟨fun z => absurd z (by decide), fun _ => ⟨fun _ => ⟨s1, p1⟩, fun z => absurd rfl z⟩⟩⟩⟩⟩⟩, _, p2, fq_sL (fq_refl _ _ _) rfl⟩
  have n15 : ¬ nI a = 15 := ne 15 (by omega) h15
  rw [if_neg n15]
  by_cases h16 : a = 16
  · have q : nI a = 16 := by rw [h16]; rfl
    obtain ⟨s1, f, s2, s3⟩ := sma_r (N := N) (e := e) (a1 := 265) hp.1 hp.2.1 (by decide)
    obtain ⟨p1, p2⟩ := dt_r (N := mz_sL N 340 f) (e := e) (fl := fl) (u := u) hp (fun k hk => by rw [sL_e, s3 k hk, hu])
    rw [if_pos q, h16, o16, s2]
    exact ⟨⟨fun z => absurd z (by decide), fun _ => ⟨fun z => absurd z (by decide), fun _ => ⟨fun z => absurd z (by decide), fun _ => ⟨fun z => absurd z (by decide), fun _ => ⟨fun z => absurd z (by decide), fun _ => ⟨fun z => absurd z (by decide), fun _ => ⟨fun _ => ⟨s1, p1⟩, fun z => absurd rfl z⟩⟩⟩⟩⟩⟩⟩, _, p2, fq_sL (fq_refl _ _ _) rfl⟩
  have n16 : ¬ nI a = 16 := ne 16 (by omega) h16
  rw [if_neg n16]
  by_cases h17 : a = 17
  · have q : nI a = 17 := by rw [h17]; rfl
    obtain ⟨p1, p2⟩ := mo_r hmo
    rw [if_pos q, h17, o17]
    exact ⟨⟨fun z => absurd z (by decide), fun _ => ⟨fun z => absurd z (by decide), fun _ => ⟨fun z => absurd z (by decide), fun _ => ⟨fun z => absurd z (by decide), fun _ => ⟨fun z => absurd z (by decide), fun _ => ⟨fun z => absurd z (by decide), fun _ => ⟨fun z => absurd z (by decide), fun _ => ⟨fun _ => p1, fun z => absurd rfl z⟩⟩⟩⟩⟩⟩⟩⟩, N, p2, fq_refl _ _ _⟩
  have n17 : ¬ nI a = 17 := ne 17 (by omega) h17
  have h9 : a < 10 := by omega
  obtain ⟨v1, v2⟩ := h78 a h9
  have g78 : mz_gI N 278 (nI a) = nI (v a) := by rw [gI_a, nI_clamp (by omega)]; exact v1
  have lt : (nI (v a) < 30) ↔ v a < 30 := nI_ltI (b := 30) (by omega) (by omega)
  rw [if_neg n17, g78, o0 a h9]
  refine ⟨⟨fun z => absurd z n10, fun _ => ⟨fun z => absurd z n11, fun _ => ⟨fun z => absurd z n12, fun _ => ⟨fun z => absurd z n13, fun _ => ⟨fun z => absurd z n14, fun _ => ⟨fun z => absurd z n15, fun _ => ⟨fun z => absurd z n16, fun _ => ⟨fun z => absurd z n17, fun _ => ib_n h9 (by omega)⟩⟩⟩⟩⟩⟩⟩⟩, N, ?_, fq_refl _ _ _⟩
  by_cases z : v a < 30
  · rw [if_pos (lt.mpr z), decide_eq_false (by omega)]
  · rw [if_neg (fun y => z (lt.mp y)), decide_eq_true (by omega)]
end Alr
