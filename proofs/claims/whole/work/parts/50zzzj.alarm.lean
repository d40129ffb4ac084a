/-! PURE (50zzzj): alarms, and the class's. -/
def anb (p : Nat → Bool) : Nat → Bool
  | 0 => false
  | n + 1 => anb p n || p n
theorem anb_t {p : Nat → Bool} {i : Nat} (h : p i = true) : ∀ n, i < n → anb p n = true := by
  intro n
  induction n with
  | zero => intro hc; exact absurd hc (Nat.not_lt_zero _)
  | succ n ih =>
    intro hc
    show (anb p n || p n) = true
    by_cases z : i = n
    · rw [← z, h, Bool.or_true]
    · rw [ih (by omega), Bool.true_or]
theorem anb_cg {p q : Nat → Bool} : ∀ n, (∀ i, i < n → p i = q i) → anb p n = anb q n := by
  intro n
  induction n with
  | zero => intro _; rfl
  | succ n ih =>
    intro h
    show (anb p n || p n) = (anb q n || q n)
    rw [ih (fun i hi => h i (by omega)), h n (by omega)]
/-- a whole part by a hundred or more is small -/
theorem q100 {y : Int} {d : Nat} (hy : 0 ≤ y) (h0 : 100 ≤ d) : 0 ≤ y / (d : Int) ∧ 100 * (y / (d : Int)) ≤ y := by
  have h1 := Int.ediv_nonneg hy (show (0 : Int) ≤ d by omega)
  have h2 : y / (d : Int) * d ≤ y := Int.ediv_mul_le y (show (d : Int) ≠ 0 by omega)
  have h3 : y / (d : Int) * 100 ≤ y / (d : Int) * d := Int.mul_le_mul_of_nonneg_left (by omega) h1
  exact ⟨h1, by omega⟩
theorem by_b {x : Int64} {d : Nat} (h0 : 100 ≤ d) (hd : d < 2 ^ 31) : -(2 ^ 57 : Int) ≤ (cf_489_0 x (lN d)).toInt ∧ (cf_489_0 x (lN d)).toInt ≤ (2 ^ 57 : Int) := by
  have hx1 := Int64.toInt_lt x
  have hx2 := Int64.le_toInt x
  have hq : -(2 ^ 56 + 2 ^ 55 : Int) ≤ Int.tdiv x.toInt d ∧ Int.tdiv x.toInt d ≤ (2 ^ 56 + 2 ^ 55 : Int) := by
    rcases Int.lt_or_le x.toInt 0 with w | w
    · have h1 : Int.tdiv x.toInt d = -((-x.toInt) / d) := by
        rw [← Int.tdiv_eq_ediv_of_nonneg (show 0 ≤ -x.toInt by omega), Int.neg_tdiv, Int.neg_neg]
      obtain ⟨a, b⟩ := q100 (y := -x.toInt) (d := d) (by omega) h0
      rw [h1]; omega
    · obtain ⟨a, b⟩ := q100 (y := x.toInt) (d := d) w h0
      rw [Int.tdiv_eq_ediv_of_nonneg w]; omega
  have e1 : (x / lN d).toInt = Int.tdiv x.toInt d := by
    rw [Int64.toInt_div, lN_j (by omega)]
    exact Int.bmod_eq_of_le (by omega) (by omega)
  rw [cf_489_0]
  split
  · rw [Int64.toInt_sub, e1, show (1 : Int64).toInt = 1 from rfl, Int.bmod_eq_of_le (by omega) (by omega)]
    omega
  · rw [e1]; omega
/-- too cold: 3 degrees and more below its target -/
noncomputable def col (e fl : Nat → Nat) (G : Nat → Int32) (h : Nat → Int64) (j : Nat) : Bool := decide (pl_ht e fl j < pl_n e ∧ (wrm e h (pl_ht e fl j)).toInt + 30 < (G j).toInt)
def crn (c : Nat → Bool) (cr : Nat → Nat) (j : Nat) : Nat := if c j = true then cr j + 1 else 0
def stf (e fl : Nat → Nat) (w : Nat → Int64) (j : Nat) : Bool := decide (pl_ht e fl j < pl_n e ∧ 1000 * lN (pl_sz e (pl_ht e fl j)) < ts e w (pl_ht e fl j))
/-- was on, kinds and times of the notes, how many -/
abbrev wtc : Type := (Nat → Bool) × (Nat → Nat) × (Nat → Nat) × Nat
def snd1 (a : Nat) (on : Bool) (tm : Nat) (w : wtc) : wtc := if on = true ∧ w.1 a = false then (up w.1 a on, up w.2.1 (w.2.2.2 % 32) a, up w.2.2.1 (w.2.2.2 % 32) tm, w.2.2.2 + 1) else (up w.1 a on, w.2.1, w.2.2.1, w.2.2.2)
def snA (on : Nat → Bool) (tm t : Nat) (w : wtc) : wtc := it (fun a w => snd1 a (on a) tm w) t w
theorem snA_s {on : Nat → Bool} {tm t : Nat} {w : wtc} : snA on tm (t + 1) w = snd1 t (on t) tm (snA on tm t w) := it_s _ t w
theorem snd1_n {a tm : Nat} {on : Bool} {w : wtc} : (snd1 a on tm w).2.2.2 ≤ w.2.2.2 + 1 := by unfold snd1; split <;> (show _ ≤ _) <;> simp
theorem snA_n {on : Nat → Bool} {tm : Nat} {w : wtc} : ∀ t, (snA on tm t w).2.2.2 ≤ w.2.2.2 + t := by
  intro t
  induction t with
  | zero => exact Nat.le_refl _
  | succ t ih => rw [snA_s]; have := snd1_n (a := t) (tm := tm) (on := on t) (w := snA on tm t w); omega
theorem snA_cg {p q : Nat → Bool} {tm : Nat} {w : wtc} : ∀ t, (∀ a, a < t → p a = q a) → snA p tm t w = snA q tm t w := by
  intro t
  induction t with
  | zero => intro _; rfl
  | succ t ih => intro h; rw [snA_s, snA_s, ih (fun a ha => h a (by omega)), h t (by omega)]
def wcl (N : mz_N) (w : wtc) : Prop := (∀ a, a < 18 → N.1 83 a = mz_b01 (w.1 a)) ∧ (∀ i, i < 32 → i < w.2.2.2 → N.1 85 i = nI (w.2.1 i) ∧ N.1 86 i = nI (w.2.2.1 i)) ∧ N.1 81 3 = nI w.2.2.2
section Alc
variable {N : mz_N} {e fl : Nat → Nat} {w : wtc} {a tm : Nat} {on : Bool} {G : Nat → Int32}
theorem z01_b01 (b : Bool) : mz_z01 (mz_b01 b) := by
  cases b
  · exact Or.inl rfl
  · exact Or.inr rfl
theorem d_b01 (b : Bool) : decide (mz_b01 b = 1) = b := by cases b <;> rfl
theorem snd_c (ha : a < 18) (hw : wcl N w) (hc : w.2.2.2 < 2 ^ 30) : cp_263_0 (nI a) on (nI tm) N ∧ ∃ K, cf_263_0 (nI a) on (nI tm) N = K ∧ fq [81, 83, 85, 86] [] N K ∧ wcl K (snd1 a on tm w) ∧ ∀ j, j ≠ 3 → K.1 81 j = N.1 81 j := by
  obtain ⟨w1, w2, w3⟩ := hw
  have ia : mz_ib (nI a) 18 := ib_n ha (by omega)
  have ca : (nI a).toNatClampNeg = a := nI_clamp (by omega)
  have gz : mz_gZ N 83 (nI a) = w.1 a := by rw [gZ_a, ca, w1 a ha]; exact d_b01 _
  have hz : mz_z01 (mz_gI N 83 (nI a)) := by rw [gI_a, ca, w1 a ha]; exact z01_b01 _
  have same : ∀ K, fq [81, 83, 85, 86] [] N K → (∀ b, b ≠ a → K.1 83 b = N.1 83 b) → K.1 83 a = mz_b01 on → ¬ (on = true ∧ w.1 a = false) → K.1 85 = N.1 85 → K.1 86 = N.1 86 → K.1 81 = N.1 81 → wcl K (snd1 a on tm w) := fun K _ k1 k2 k3 k4 k5 k6 => by
    rw [snd1, if_neg k3]
    refine ⟨fun b hb => ?_, fun i hi => by rw [k4, k5]; exact w2 i hi, by rw [k6]; exact w3⟩
    show K.1 83 b = mz_b01 (up w.1 a on b)
    unfold up
    by_cases z : b = a
    · rw [if_pos z, z, k2]
    · rw [if_neg z, k1 b z]; exact w1 b hb
  have nochg : ¬ (on = true ∧ w.1 a = false) → ∃ K, cf_263_53 (nI a) on N = K ∧ fq [81, 83, 85, 86] [] N K ∧ wcl K (snd1 a on tm w) ∧ ∀ j, j ≠ 3 → K.1 81 j = N.1 81 j := fun hno => by
    have hf : fq [81, 83, 85, 86] [] N (mz_wI N 83 (nI a) (mz_b01 on)) := fq_wI (fq_refl _ _ _) rfl
    refine ⟨_, rfl, hf, same _ hf (fun b hb => ?_) ?_ hno rfl rfl rfl, fun j _ => rfl⟩
    · rw [cf_263_53, wI_s, sI_e, up_a, ca, if_neg hb]
    · rw [cf_263_53, wI_s, sI_e, up_a, ca, if_pos rfl]
  rw [cp_263_0, cf_263_0, gz]
  cases ho : on with
  | false =>
    rw [if_neg (by decide)]
    rw [ho] at nochg
    exact ⟨⟨(fun z => by cases z), fun _ => ia⟩, nochg (fun z => by cases z.1)⟩
  | true =>
    rw [if_pos rfl]
    rw [ho] at nochg
    cases hwa : w.1 a with
    | true =>
      rw [if_pos rfl]
      refine ⟨⟨fun _ => ⟨ia, hz, fun _ => ia, fun z => absurd rfl z⟩, fun z => absurd rfl z⟩, nochg (fun z => ?_)⟩
      have := z.2; rw [hwa] at this; cases this
    | false =>
      rw [if_neg (by decide)]
      have er : mz_irem (nI w.2.2.2) 32 = nI (w.2.2.2 % 32) := by rw [show (32 : Int32) = nI 32 from rfl, irem_n (by omega) (by omega) (by omega)]
      have e81 : ∀ i x, (mz_wI N 85 i x).1 81 3 = nI w.2.2.2 := fun i x => w3
      have e81' : ∀ i x k y, (mz_wI (mz_wI N 85 i x) 86 k y).1 81 3 = nI w.2.2.2 := fun i x k y => w3
      have ir : mz_ib (nI (w.2.2.2 % 32)) 32 := ib_n (by omega) (by omega)
      simp only [w3, e81, e81', er, nI_1]
      refine ⟨⟨fun _ => ⟨ia, hz, (fun z => by cases z), fun _ => ⟨ir, ir, ia⟩⟩, fun z => absurd trivial z⟩, ?_⟩
      refine ⟨_, rfl, fq_wI (fq_pI (fq_wI (fq_wI (fq_refl _ _ _) rfl) rfl) rfl) rfl, ?_, fun j hj => ?_⟩
      · rw [snd1, if_pos ⟨rfl, hwa⟩]
        have cr : (nI (w.2.2.2 % 32)).toNatClampNeg = w.2.2.2 % 32 := nI_clamp (by omega)
        have hlt : ∀ i, i < 32 → i < w.2.2.2 + 1 → i ≠ w.2.2.2 % 32 → i < w.2.2.2 := fun i a c d => by omega
        refine ⟨fun b hb => ?_, fun i hi hi2 => ⟨?_, ?_⟩, ?_⟩
        · show upd (N.1 83) (nI a).toNatClampNeg (mz_b01 true) b = mz_b01 (up w.1 a true b)
          rw [up_a, ca]
          unfold up
          by_cases z : b = a
          · rw [if_pos z, if_pos z]
          · rw [if_neg z, if_neg z]; exact w1 b hb
        · show upd (N.1 85) (nI (w.2.2.2 % 32)).toNatClampNeg (nI a) i = nI (up w.2.1 (w.2.2.2 % 32) a i)
          rw [up_a, cr]
          unfold up
          by_cases z : i = w.2.2.2 % 32
          · rw [if_pos z, if_pos z]
          · rw [if_neg z, if_neg z]; exact (w2 i hi (hlt i hi hi2 z)).1
        · show upd (N.1 86) (nI (w.2.2.2 % 32)).toNatClampNeg (nI tm) i = nI (up w.2.2.1 (w.2.2.2 % 32) tm i)
          rw [up_a, cr]
          unfold up
          by_cases z : i = w.2.2.2 % 32
          · rw [if_pos z, if_pos z]
          · rw [if_neg z, if_neg z]; exact (w2 i hi (hlt i hi hi2 z)).2
        · show upd (N.1 81) 3 (nI (w.2.2.2 + 1)) 3 = nI (w.2.2.2 + 1)
          rw [up_a, if_pos rfl]
      · show upd (N.1 81) 3 (nI (w.2.2.2 + 1)) j = _
        rw [up_a, if_neg hj]
/-- is any of eleven so -/
theorem any_c {v : Nat} {p : Nat → Bool} (hv : v < 6) (h : ∀ j, j < 11 → N.1 (58 + v) j = nI (b1 (p j))) : cp_265_0 (nI v) N ∧ cf_265_0 (nI v) N = anb p 11 := by
  rw [cp_265_0, cf_265_0, cp_265_2, cf_265_2]
  refine mz_lpn (f := cq_265_2 (nI v) N) (P := cd_265_2 (nI v) N) (Q := fun t => t = anb p 11) 11 (fun x t => t = nI x ∧ anb p x = false) ?_ ?_ (Nat.zero_le _) ⟨rfl, rfl⟩
  · rintro x t hx ⟨rfl, hp⟩
    have l : nI x < 11 := (nI_ltI (b := 11) (by omega) (by omega)).mpr hx
    have g : mz_gI N (58 + (nI v).toNatClampNeg) (nI x) = nI (b1 (p x)) := by rw [gI_a, nI_clamp (by omega), nI_clamp (by omega)]; exact h x hx
    rw [cd_265_2, cq_265_2]
    simp only [l, if_true, g]
    refine ⟨⟨fun _ => ⟨ib_n hv (by omega), ib_n hx (by omega)⟩, fun _ => trivial⟩, ?_⟩
    cases hpx : p x with
    | true =>
      rw [if_pos (show nI (b1 true) = 1 from rfl)]
      exact Or.inr ⟨true, rfl, (anb_t hpx 11 hx).symm⟩
    | false =>
      rw [if_neg (show ¬ nI (b1 false) = 1 by decide), nI_1]
      refine Or.inl ⟨_, rfl, rfl, ?_⟩
      show (anb p x || p x) = false
      rw [hp, hpx]; rfl
  · rintro t ⟨rfl, hp⟩
    rw [cd_265_2, cq_265_2]
    exact ⟨⟨fun z => absurd z (show ¬ nI 11 < 11 by decide), fun _ => trivial⟩, _, if_neg (show ¬ (nI 11 : Int32) < 11 by decide), hp.symm⟩
theorem fail_c {p : Nat → Bool} (h : ∀ j, j < 3 → N.1 128 j = nI (b1 (p j))) : cp_266_0 N ∧ cf_266_0 N = anb p 3 := by
  have e : ∀ j, j < 3 → cf_224_0 (nI j) N = !(p j) := fun j hj => by
    rw [cf_224_0, gI_a, nI_clamp (by omega), h j hj]
    cases p j <;> rfl
  have i : ∀ j, j < 3 → cp_224_0 (nI j) N := fun j hj => ib_n hj (by omega)
  have e0 : cf_224_0 0 N = !(p 0) := e 0 (by omega)
  have e1 : cf_224_0 1 N = !(p 1) := e 1 (by omega)
  have e2 : cf_224_0 2 N = !(p 2) := e 2 (by omega)
  rw [cp_266_0, cf_266_0, e0, e1, e2]
  refine ⟨⟨i 0 (by omega), fun _ => ⟨i 1 (by omega), fun _ => i 2 (by omega), fun _ => trivial⟩, fun _ => trivial⟩, ?_⟩
  show _ = (((false || p 0) || p 1) || p 2)
  cases p 0 <;> cases p 1 <;> cases p 2 <;> rfl
theorem mouldy_c {mo : Nat → Nat} (h : ∀ c, c < 240 → N.1 72 c = nI (mo c) ∧ mo c ≤ 1000) : cp_267_0 N ∧ cf_267_0 N = anb (fun c => decide (500 ≤ mo c)) 240 := by
  rw [cp_267_0, cf_267_0, cp_267_2, cf_267_2]
  refine mz_lpn (f := cq_267_2 N) (P := cd_267_2 N) (Q := fun t => t = anb (fun c => decide (500 ≤ mo c)) 240) 240 (fun x t => t = nI x ∧ anb (fun c => decide (500 ≤ mo c)) x = false) ?_ ?_ (Nat.zero_le _) ⟨rfl, rfl⟩
  · rintro x t hx ⟨rfl, hp⟩
    have l : nI x < 240 := (nI_ltI (b := 240) (by omega) (by omega)).mpr hx
    obtain ⟨m1, m2⟩ := h x hx
    have g : mz_gI N 72 (nI x) = nI (mo x) := by rw [gI_a, nI_clamp (by omega)]; exact m1
    have lt : (nI (mo x) < 500) ↔ mo x < 500 := nI_ltI (b := 500) (by omega) (by omega)
    rw [cd_267_2, cq_267_2]
    simp only [l, if_true, g, lt]
    refine ⟨⟨fun _ => ib_n hx (by omega), fun _ => trivial⟩, ?_⟩
    by_cases z : mo x < 500
    · rw [if_pos z, nI_1]
      refine Or.inl ⟨_, rfl, rfl, ?_⟩
      show (anb (fun c => decide (500 ≤ mo c)) x || decide (500 ≤ mo x)) = false
      rw [hp, decide_eq_false (by omega)]; rfl
    · rw [if_neg z]
      exact Or.inr ⟨true, rfl, (anb_t (p := fun c => decide (500 ≤ mo c)) (decide_eq_true (show 500 ≤ mo x by omega)) 240 hx).symm⟩
  · rintro t ⟨rfl, hp⟩
    rw [cd_267_2, cq_267_2]
    exact ⟨⟨fun z => absurd z (show ¬ nI 240 < 240 by decide), fun _ => trivial⟩, _, if_neg (show ¬ (nI 240 : Int32) < 240 by decide), hp.symm⟩
end Alc
