/-! PURE (50zzzzd): power and water, both sides together. -/
theorem ar_b {e fl : Nat → Nat} {f : Nat} : pl_ar e fl f ≤ 240 := by
  have h1 : sumN (pl_arp e fl f) (pl_n e) ≤ sumN (pl_sz e) (pl_n e) := sumN_le (fun i _ => by unfold pl_arp; split; exact Nat.le_refl _; exact Nat.zero_le _)
  rw [pl_all] at h1
  exact h1
theorem shd_pt {k : Nat → Nat} {lm : Nat} : ∀ n x c, (shd k lm n x).1 c ≤ x.1 c := by
  intro n
  induction n with
  | zero => intro x c; exact Nat.le_refl _
  | succ n ih =>
    intro x c
    show (if lm < sumN x.1 11 then shd k lm n (shd1 k x) else x).1 c ≤ x.1 c
    split
    · refine Nat.le_trans (ih _ c) ?_
      show up x.1 (wst x.1 k 11) 0 c ≤ x.1 c
      rw [up_d]; split; exact Nat.zero_le _; exact Nat.le_refl _
    · exact Nat.le_refl _
theorem pwx_b {k L0 : Nat → Nat} {mn fit : Bool} {ch fu wo : Nat} (h1 : ch ≤ 3000) (h2 : fu ≤ 1000) : (∀ c, (pwx k L0 mn fit ch fu wo).1.1 c ≤ L0 c) ∧ (pwx k L0 mn fit ch fu wo).2.2.1 ≤ 1000 ∧ (pwx k L0 mn fit ch fu wo).2.2.2.1 ≤ wo + 1 ∧ (pwx k L0 mn fit ch fu wo).2.2.2.2 ≤ 3000 := by
  unfold pwx
  by_cases a : mn = true
  · rw [if_pos a]
    exact ⟨fun c => Nat.le_refl _, h2, Nat.zero_le _, Nat.min_le_left _ _⟩
  · rw [if_neg a]
    by_cases z : 2 ≤ wo ∧ 0 < fu ∧ fit = true
    · rw [if_pos z]
      exact ⟨fun c => shd_pt 11 _ c, by show fu - 1 ≤ 1000; omega, Nat.le_refl _, by show ch - _ ≤ 3000; omega⟩
    · rw [if_neg z]
      exact ⟨fun c => shd_pt 11 _ c, h2, Nat.le_refl _, by show ch - _ ≤ 3000; omega⟩
theorem ld0_b {e fl P : Nat → Nat} {hr vn : Nat} {dk lm bo ra : Bool} {tr : Nat → Bool} (hP : ∀ j, P j ≤ 20) (hv : vn ≤ 9) (j : Nat) : ld0 (pnt e fl P hr) (pl_ar e fl) dk lm bo ra vn tr j ≤ 2000 := by
  have hpn : pnt e fl P hr j ≤ 20 := by unfold pnt; split; exact hP _; omega
  have ha := ar_b (e := e) (fl := fl) (f := j)
  unfold ld0
  split
  · omega
  · split
    · have h1 : (if bo = true then 30 else 0) ≤ 30 := by split <;> omega
      have h2 : (if ra = true then 40 else 0) ≤ 40 := by split <;> omega
      omega
    · split <;> omega
theorem ld0_t {pn ar : Nat → Nat} {dk lm bo ra : Bool} {vn : Nat} {tr : Nat → Bool} {j : Nat} (h : tr j = true) : ld0 pn ar dk lm bo ra vn tr j = 0 := by unfold ld0; rw [if_pos h]
theorem htn_b {L r h : Nat} (hL : L ≤ 2000) (hr : 1 ≤ r) (hh : h < 50) : htn L r h ≤ 20100 := by
  unfold htn
  split
  · have : 10 * (L - r) / r ≤ 10 * (L - r) := Nat.div_le_self _ _
    omega
  · omega
theorem vn_of {T : Nat → Int} (h : tgB T) : ∃ vn, vn ≤ 9 ∧ iI (T 13) = nI vn := by
  have := h 13 (by omega)
  unfold tgJ at this
  rw [if_neg (by omega), if_pos rfl] at this
  refine ⟨(T 13).toNat, by omega, ?_⟩
  rw [iI_n, Int.toNat_of_nonneg this.1]
section Po
variable {N1 N2 : mz_N} {b : Bool} {e fl P rk rt : Nat → Nat} {T : Nat → Int} {u : SuS} {c : CiS} {q hr tm : Nat} {fit : Bool}
theorem pow_ok (hB : plB e fl) (hpl : plW N1 N2 e fl) (hT : tgR N1 N2 T) (hTB : tgB T) (hu : suC N1 u) (hu2 : suR N2 u) (huB : suB q u) (hq : q < 2 ^ 29) (hc : ciR N1 N2 c) (hcB : ciB c) (hhr : hr < 24) (hP : ∀ j, j < 240 → N1.1 40 j = nI (P j) ∧ N2.1 244 j = nI (P j)) (hPb : ∀ j, P j ≤ 20) (hk : ∀ j, j < 11 → N1.1 63 j = nI (rk j) ∧ N2.1 248 j = nI (rk j) ∧ rk j ≤ 9) (hr2 : ∀ j, j < 11 → N1.1 62 j = nI (rt j) ∧ N2.1 247 j = nI (rt j) ∧ 1 ≤ rt j ∧ rt j ≤ 500) (hf1 : N1.1 128 2 = nI (b1 (!fit))) (hf2 : N2.1 307 2 = nI (b1 (!fit))) :
    cp_219_0 (nI hr) N1 ∧ cp_518_0 (nI hr) N2 ∧ ∃ (c' : CiS) (u' : SuS) (lv : Bool), ciR (cf_219_0 (nI hr) N1) (cf_518_0 (nI hr) N2) c' ∧ ciB c' ∧ suC (cf_219_0 (nI hr) N1) u' ∧ suR (cf_518_0 (nI hr) N2) u' ∧ suB (q + 1) u' ∧ u'.co ≤ q ∧ (cf_219_0 (nI hr) N1).1 56 6 = mz_b01 lv ∧ (cf_518_0 (nI hr) N2).1 276 10 = mz_b01 lv ∧ (∀ j, j < 11 → (cf_219_0 (nI hr) N1).1 211 j = N1.1 211 j + nI (c'.1 j) ∧ (cf_518_0 (nI hr) N2).2 322 j = N2.2 322 j + lN (c'.1 j)) ∧ fq [56, 58, 59, 60, 61, 211] [] N1 (cf_219_0 (nI hr) N1) ∧ fq [232, 272, 273, 274, 275, 276] [322] N2 (cf_518_0 (nI hr) N2) ∧ (∀ j, j ≠ 1 → j ≠ 2 → j ≠ 3 → j ≠ 5 → j ≠ 6 → (cf_219_0 (nI hr) N1).1 56 j = N1.1 56 j) ∧ ∀ j, j ≠ 53 → j ≠ 54 → j ≠ 55 → j ≠ 65 → (cf_518_0 (nI hr) N2).1 232 j = N2.1 232 j := by
  obtain ⟨vn, v9, ve⟩ := vn_of hTB
  have v1 : N1.1 53 13 = nI vn := (hT 13 (by omega)).1.trans ve
  have v2 : N2.1 257 13 = nI vn := (hT 13 (by omega)).2.trans ve
  have x10 : (N1.1 53 10 = 1) = (N2.1 257 10 = 1) := by rw [(hT 10 (by omega)).1, (hT 10 (by omega)).2]
  have b0 := huB.bo
  have xbo : decide (0 < N1.1 56 13) = decide (0 < N2.2 232 66) := by
    rw [hu.bo, hu2.bo]
    by_cases z : 0 < u.bo
    · rw [decide_eq_true ((nI_gt0 (by omega)).mpr z), decide_eq_true ((lN_g0 (by omega)).mpr z)]
    · rw [decide_eq_false (fun y => z ((nI_gt0 (by omega)).mp y)), decide_eq_false (fun y => z ((lN_g0 (by omega)).mp y))]
  obtain ⟨p1, a0, d0, p2, p3⟩ := lds0_c (N := N1) (e := e) (fl := fl) (P := P) (ar := pl_ar e fl) (hr := hr) (dk := decide (hr < 7 ∨ 18 ≤ hr)) (lm := decide (N1.1 53 10 = 1)) (vn := vn) (bo := decide (0 < N1.1 56 13)) (ra := u.ra) (tr := c.2.2.1) hB.n (fun j hj => (hpl.1.2.2.2.2.2 j hj).1) (fun j hj => (hP j hj).1) hPb (fun j hj => (hpl.1.2.2.2.2.2 j hj).2) hhr rfl rfl v1 rfl hu.ra (fun j hj => (hc j hj).2.2.1.1)
  have hL0 : ∀ j, j < 11 → ld0 (pnt e fl P hr) (pl_ar e fl) (decide (hr < 7 ∨ 18 ≤ hr)) (decide (N1.1 53 10 = 1)) (decide (0 < N1.1 56 13)) u.ra vn c.2.2.1 j ≤ 2000 := fun j _ => ld0_b hPb v9 j
  have ht3 : ∀ j, j < 11 → c.2.1 j ≤ 30000 := fun j hj => by have := (hcB j hj).2.1; omega
  have wo2 : u.wo < 2 ^ 30 := by have := huB.wo; omega
  obtain ⟨a1, A, Bb, Cc, Dd, F, m, a2, a3, a4, a5, a6, a7, a8, a9, a10⟩ := pow_c (N := N1) (hq := hr) (k := rk) (r := rt) (h := c.2.1) (tr := c.2.2.1) (mn := u.mn) (fit := fit) (ch := u.ch) (fu := u.fu) (wo := u.wo) ⟨p1, p2, p3⟩ hL0 (fun j hj => ⟨(hk j hj).1, (hk j hj).2.2⟩) (fun j hj => ⟨(hr2 j hj).1, (hr2 j hj).2.2⟩) (fun j hj => ⟨(hc j hj).2.1.1, ht3 j hj⟩) (fun j hj => (hc j hj).2.2.1.1) hu.mn hu.ch huB.ch hu.fu huB.fu hu.wo wo2 hf1
  obtain ⟨r1, A2, D2, B2, C2, l2, F2, m2, r2, r3, r4, r5, r6, r7, r8, r9, r10⟩ := pow_r (N := N2) (e := e) (fl := fl) (P := P) (ar := pl_ar e fl) (hr := hr) (dk := decide (hr < 7 ∨ 18 ≤ hr)) (lm := decide (N2.1 257 10 = 1)) (vn := vn) (bo := decide (0 < N2.2 232 66)) (ra := u.ra) (tr := c.2.2.1) (k := rk) (r := rt) (h := c.2.1) (mn := u.mn) (fit := fit) (ch := u.ch) (fu := u.fu) (wo := u.wo) hB.n (fun j hj => (hpl.2.2.2.2.2.2 j hj).1) (fun j hj => (hP j hj).2) hPb (fun j hj => (hpl.2.2.2.2.2.2 j hj).2) hhr rfl rfl v2 rfl hu2.ra (fun j _ => ld0_b hPb v9 j) (fun j hj => ⟨(hk j hj).2.1, (hk j hj).2.2⟩) (fun j hj => ⟨(hr2 j hj).2.1, (hr2 j hj).2.2⟩) (fun j hj => ⟨(hc j hj).2.1.2, ht3 j hj⟩) (fun j hj => (hc j hj).2.2.1.2) hu2.mn hu2.ch huB.ch hu2.fu huB.fu hu2.wo wo2 hf2
  have xl : decide (N1.1 53 10 = 1) = decide (N2.1 257 10 = 1) := by rw [(hT 10 (by omega)).1, (hT 10 (by omega)).2]
  rw [← xl, ← xbo] at r3 r4 r5 r6 r7 r8 r9
  obtain ⟨y1, y2, y3, y4⟩ := pwx_b (k := rk) (L0 := ld0 (pnt e fl P hr) (pl_ar e fl) (decide (hr < 7 ∨ 18 ≤ hr)) (decide (N1.1 53 10 = 1)) (decide (0 < N1.1 56 13)) u.ra vn c.2.2.1) (mn := u.mn) (fit := fit) (wo := u.wo) huB.ch huB.fu
  have zt : ∀ j, c.2.2.1 j = true → ld0 (pnt e fl P hr) (pl_ar e fl) (decide (hr < 7 ∨ 18 ≤ hr)) (decide (N1.1 53 10 = 1)) (decide (0 < N1.1 56 13)) u.ra vn c.2.2.1 j = 0 := fun j hj => ld0_t hj
  generalize ld0 (pnt e fl P hr) (pl_ar e fl) (decide (hr < 7 ∨ 18 ≤ hr)) (decide (N1.1 53 10 = 1)) (decide (0 < N1.1 56 13)) u.ra vn c.2.2.1 = L0 at *
  generalize pwx rk L0 u.mn fit u.ch u.fu u.wo = X at *
  rw [a2, r2]
  refine ⟨a1, r1, (X.1.1, fun j => htn (X.1.1 j) (rt j) (c.2.1 j), fun j => c.2.2.1 j || decide (50 ≤ htn (X.1.1 j) (rt j) (c.2.1 j)), X.1.2), (X.2.2.2.2, X.2.2.1, X.2.2.2.1, u.tk, u.st, u.co, u.bo, u.mn, X.2.1, u.wa, u.ra), !(c.2.2.1 10) && !(X.1.2 10), fun j hj => ⟨⟨(a3 j hj).1, (r3 j hj).1⟩, ⟨(a4 j hj).1, (r5 j hj).1⟩, ⟨(a4 j hj).2.1, (r5 j hj).2.1⟩, (a3 j hj).2, (r3 j hj).2⟩, fun j hj => ⟨?_, ?_, ?_⟩, ⟨a5, a6, a7, ?_, ?_, ?_, ?_, ?_, a8, ?_, ?_⟩, ⟨r6, r7, r8, ?_, ?_, ?_, ?_, ?_, r9, ?_, ?_⟩, ⟨y4, y2, by have := huB.wo; show X.2.2.2.1 ≤ _; omega, huB.tk, huB.st, by have := huB.co; show u.co ≤ _; omega, huB.bo⟩, huB.co, a9, r4 10 (by omega), fun j hj => ⟨(a4 j hj).2.2, (r5 j hj).2.2⟩, ?_, ?_, a10, r10⟩
  · exact Nat.le_trans (y1 j) (hL0 j hj)
  · show htn (X.1.1 j) (rt j) (c.2.1 j) ≤ 20100
    obtain ⟨_, h2, h3⟩ := hcB j hj
    cases hh : c.2.2.1 j with
    | true =>
      have : X.1.1 j = 0 := by have := y1 j; rw [zt j hh] at this; omega
      rw [this]
      unfold htn
      rw [if_neg (by omega)]
      omega
    | false => exact htn_b (Nat.le_trans (y1 j) (hL0 j hj)) (hr2 j hj).2.2.1 (h3 hh)
  · intro z
    have z' : (c.2.2.1 j || decide (50 ≤ htn (X.1.1 j) (rt j) (c.2.1 j))) = false := z
    rw [Bool.or_eq_false_iff] at z'
    have := of_decide_eq_false z'.2
    show htn (X.1.1 j) (rt j) (c.2.1 j) < 50
    omega
  · show F 7 = _; rw [a10 7 (by decide) (by decide) (by decide) (by decide) (by decide)]; exact hu.tk
  · show F 11 = _; rw [a10 11 (by decide) (by decide) (by decide) (by decide) (by decide)]; exact hu.st
  · show F 12 = _; rw [a10 12 (by decide) (by decide) (by decide) (by decide) (by decide)]; exact hu.co
  · show F 13 = _; rw [a10 13 (by decide) (by decide) (by decide) (by decide) (by decide)]; exact hu.bo
  · show F 4 = _; rw [a10 4 (by decide) (by decide) (by decide) (by decide) (by decide)]; exact hu.mn
  · show F 8 = _; rw [a10 8 (by decide) (by decide) (by decide) (by decide) (by decide)]; exact hu.wa
  · show F 9 = _; rw [a10 9 (by decide) (by decide) (by decide) (by decide) (by decide)]; exact hu.ra
  · show F2 61 = _; rw [r10 61 (by decide) (by decide) (by decide) (by decide)]; exact hu2.tk
  · show F2 62 = _; rw [r10 62 (by decide) (by decide) (by decide) (by decide)]; exact hu2.st
  · exact hu2.co
  · exact hu2.bo
  · show F2 52 = _; rw [r10 52 (by decide) (by decide) (by decide) (by decide)]; exact hu2.mn
  · show F2 63 = _; rw [r10 63 (by decide) (by decide) (by decide) (by decide)]; exact hu2.wa
  · show F2 64 = _; rw [r10 64 (by decide) (by decide) (by decide) (by decide)]; exact hu2.ra
  · refine ⟨fun z hz => ?_, fun _ _ => rfl⟩
    have n1 : z ≠ 56 := fun y => by rw [y] at hz; cases hz
    have n2 : z ≠ 58 := fun y => by rw [y] at hz; cases hz
    have n3 : z ≠ 59 := fun y => by rw [y] at hz; cases hz
    have n4 : z ≠ 60 := fun y => by rw [y] at hz; cases hz
    have n5 : z ≠ 61 := fun y => by rw [y] at hz; cases hz
    have n6 : z ≠ 211 := fun y => by rw [y] at hz; cases hz
    unfold pmc
    simp only [n1, n2, n3, n4, n5, n6, if_false]
  · refine ⟨fun z hz => ?_, fun z hz => ?_⟩
    · have n1 : z ≠ 232 := fun y => by rw [y] at hz; cases hz
      have n2 : z ≠ 272 := fun y => by rw [y] at hz; cases hz
      have n3 : z ≠ 273 := fun y => by rw [y] at hz; cases hz
      have n4 : z ≠ 274 := fun y => by rw [y] at hz; cases hz
      have n5 : z ≠ 275 := fun y => by rw [y] at hz; cases hz
      have n6 : z ≠ 276 := fun y => by rw [y] at hz; cases hz
      unfold prc
      simp only [n1, n2, n3, n4, n5, n6, if_false]
    · have n1 : z ≠ 322 := fun y => by rw [y] at hz; cases hz
      unfold prc
      simp only [n1, if_false]
theorem pmp_b {wa rd : Bool} {tk : Nat} (h : tk ≤ 2000) : (pmp wa rd tk).2.2 ≤ 2000 := by
  unfold pmp
  split
  · exact Nat.min_le_left _ _
  · exact h
theorem wat_ok {sd : Int64} {lv : Bool} (hB : plB e fl) (hpl : plW N1 N2 e fl) (hT : tgR N1 N2 T) (hu : suC N1 u) (hu2 : suR N2 u) (huB : suB (q + 1) u) (hco : u.co ≤ q) (hq : q < 2 ^ 29) (hhr : hr < 24) (hP : ∀ j, j < 240 → N1.1 40 j = nI (P j) ∧ N2.1 244 j = nI (P j)) (hPb : ∀ j, P j ≤ 20) (t1 : N1.1 208 0 = nI tm) (t2 : N2.2 232 2 = lN tm) (t3 : tm < 2 ^ 31) (l1 : N1.1 56 6 = mz_b01 lv) (l2 : N2.1 276 10 = mz_b01 lv) (hf1 : N1.1 128 1 = nI (b1 (!fit))) (hf2 : N2.1 307 1 = nI (b1 (!fit))) (s1 : N1.2 56 15 = sd) (s2 : N2.2 232 1 = sd) :
    cp_229_0 (nI hr) N1 ∧ cp_522_0 (nI hr) N2 ∧ ∃ (u' : SuS) (hw tkn : Nat → Nat) (dry : Bool), suC (cf_229_0 (nI hr) N1) u' ∧ suR (cf_522_0 (nI hr) N2) u' ∧ suB (q + 1) u' ∧ (cf_229_0 (nI hr) N1).1 56 10 = mz_b01 dry ∧ (cf_522_0 (nI hr) N2).1 232 67 = mz_b01 dry ∧ (∀ j, j < 10 → (cf_229_0 (nI hr) N1).1 64 j = nI (hw j) ∧ (cf_522_0 (nI hr) N2).1 277 j = nI (hw j) ∧ hw j ≤ 4) ∧ (∀ j, j < 11 → (cf_229_0 (nI hr) N1).1 212 j = N1.1 212 j + nI (tkn j) ∧ (cf_522_0 (nI hr) N2).2 323 j = N2.2 323 j + lN (tkn j) ∧ tkn j ≤ 10 ∧ (j = 10 → tkn j = 0)) ∧ (cf_229_0 (nI hr) N1).1 56 6 = mz_b01 lv ∧ fq [56, 64, 212] [] N1 (cf_229_0 (nI hr) N1) ∧ fq [232, 277] [232, 323] N2 (cf_522_0 (nI hr) N2) ∧ (∀ j, j ≠ 7 → j ≠ 8 → j ≠ 9 → j ≠ 10 → j ≠ 11 → j ≠ 12 → (cf_229_0 (nI hr) N1).1 56 j = N1.1 56 j) ∧ (∀ j, j ≠ 61 → j ≠ 62 → j ≠ 63 → j ≠ 64 → j ≠ 67 → (cf_522_0 (nI hr) N2).1 232 j = N2.1 232 j) ∧ ∀ j, j ≠ 68 → (cf_522_0 (nI hr) N2).2 232 j = N2.2 232 j := by
  have xp : decide (N1.1 53 12 = 1) = decide (N2.1 257 12 = 1) := by rw [(hT 12 (by omega)).1, (hT 12 (by omega)).2]
  obtain ⟨a1, H1, W1, F1, a2, a3, a4, a5, a6, a7, a8, a9, a10, a11⟩ := wat_c (N := N1) (e := e) (fl := fl) (P := P) (hr := hr) (tm := tm) (s := (u.tk, u.st, false)) (wa := u.wa) (lv := lv) (pu := decide (N1.1 53 12 = 1)) (fit := fit) (co := u.co) hB.n (fun j hj => (hpl.1.2.2.2.2.2 j hj).1) (fun j hj => (hP j hj).1) hPb hhr t1 t3 hu.tk huB.tk hu.st huB.st rfl hu.wa l1 rfl hf1 hu.co (by omega)
  obtain ⟨r1, H2, F2, m2, L2, r2, r3, r4, r5, r6, r7, r8, r9, r10, r11, r12⟩ := wat_r (N := N2) (e := e) (fl := fl) (P := P) (hr := hr) (tm := tm) (s := (u.tk, u.st, false)) (wa := u.wa) (lv := lv) (pu := decide (N1.1 53 12 = 1)) (fit := fit) (co := u.co) hB.n (fun j hj => (hpl.2.2.2.2.2.2 j hj).1) (fun j hj => (hP j hj).2) hPb hhr t2 hu2.tk huB.tk hu2.st huB.st rfl hu2.wa l2 xp hf2 hu2.co
  rw [s1] at a3 a5 a6 a7 a8 a9 a10
  rw [s2] at r3 r5 r6 r7 r8 r9 r10
  obtain ⟨y1, y2⟩ := wtS_le (sd := sd) (tm := tm) (f := 10) (pn := pnt e fl P hr) (s := (u.tk, u.st, false)) huB.tk huB.st
  have y3 := pmp_b (wa := u.wa) (rd := decide (N1.1 53 12 = 1) && fit && lv) y1
  generalize wtS sd tm (pnt e fl P hr) 10 (u.tk, u.st, false) = X at *
  generalize pmp u.wa (decide (N1.1 53 12 = 1) && fit && lv) X.1 = Z at *
  rw [a2, r2]
  refine ⟨a1, r1, (u.ch, u.fu, u.wo, Z.2.2, X.2.1, if X.2.1 < 5000 then u.co + 1 else 0, u.bo, u.mn, u.en, Z.1, Z.2.1), fun f => hot1 (lts sd (lN tm) (pnt e fl P hr) f) (wtS sd tm (pnt e fl P hr) f (u.tk, u.st, false)), fun f => if f < 10 then tok1 (lts sd (lN tm) (pnt e fl P hr) f) (wtS sd tm (pnt e fl P hr) f (u.tk, u.st, false)) else 0, X.2.2, ⟨?_, ?_, ?_, a9, a5, a10, ?_, ?_, ?_, a7, a8⟩, ⟨?_, ?_, ?_, r9, r5, r10, ?_, ?_, ?_, r7, r8⟩, ⟨huB.ch, huB.fu, huB.wo, y3, y2, ?_, huB.bo⟩, a6, r6, fun j hj => ⟨(a3 j hj).1, (r3 j hj).1, ?_⟩, fun j hj => ?_, ?_, ?_, ?_, a11, r11, r12⟩
  · show F1 1 = _; rw [a11 1 (by decide) (by decide) (by decide) (by decide) (by decide) (by decide)]; exact hu.ch
  · show F1 2 = _; rw [a11 2 (by decide) (by decide) (by decide) (by decide) (by decide) (by decide)]; exact hu.fu
  · show F1 3 = _; rw [a11 3 (by decide) (by decide) (by decide) (by decide) (by decide) (by decide)]; exact hu.wo
  · show F1 13 = _; rw [a11 13 (by decide) (by decide) (by decide) (by decide) (by decide) (by decide)]; exact hu.bo
  · show F1 4 = _; rw [a11 4 (by decide) (by decide) (by decide) (by decide) (by decide) (by decide)]; exact hu.mn
  · show F1 5 = _; rw [a11 5 (by decide) (by decide) (by decide) (by decide) (by decide) (by decide)]; exact hu.en
  · show F2 54 = _; rw [r11 54 (by decide) (by decide) (by decide) (by decide) (by decide)]; exact hu2.ch
  · show F2 53 = _; rw [r11 53 (by decide) (by decide) (by decide) (by decide) (by decide)]; exact hu2.fu
  · show F2 55 = _; rw [r11 55 (by decide) (by decide) (by decide) (by decide) (by decide)]; exact hu2.wo
  · show L2 66 = _; rw [r12 66 (by decide)]; exact hu2.bo
  · show F2 52 = _; rw [r11 52 (by decide) (by decide) (by decide) (by decide) (by decide)]; exact hu2.mn
  · show F2 65 = _; rw [r11 65 (by decide) (by decide) (by decide) (by decide) (by decide)]; exact hu2.en
  · show (if X.2.1 < 5000 then u.co + 1 else 0) ≤ q + 1
    split <;> omega
  · show hot1 _ _ ≤ 4
    unfold hot1
    split
    · exact Nat.min_le_left _ _
    · omega
  · show W1 j = _ ∧ m2 j = _ ∧ _
    by_cases w : j < 10
    · simp only [if_pos w]
      refine ⟨(a3 j w).2, (r3 j w).2, ?_, fun z => by omega⟩
      unfold tok1
      split
      · have h1 := Nat.min_le_left 6 (wtS sd tm (pnt e fl P hr) j (u.tk, u.st, false)).1
        have h2 := Nat.min_le_left 4 ((wtS sd tm (pnt e fl P hr) j (u.tk, u.st, false)).1 - min 6 (wtS sd tm (pnt e fl P hr) j (u.tk, u.st, false)).1)
        omega
      · omega
    · simp only [if_neg w]
      refine ⟨?_, ?_, Nat.zero_le _, fun _ => trivial⟩
      · rw [a4 j (by omega)]; exact (Int32.add_zero _).symm
      · rw [r4 j (by omega)]; exact (Int64.add_zero _).symm
  · show F1 6 = _; rw [a11 6 (by decide) (by decide) (by decide) (by decide) (by decide) (by decide)]; exact l1
  · refine ⟨fun z hz => ?_, fun _ _ => rfl⟩
    have n1 : z ≠ 56 := fun y => by rw [y] at hz; cases hz
    have n2 : z ≠ 64 := fun y => by rw [y] at hz; cases hz
    have n3 : z ≠ 212 := fun y => by rw [y] at hz; cases hz
    unfold wmc
    simp only [n1, n2, n3, if_false]
  · refine ⟨fun z hz => ?_, fun z hz => ?_⟩
    · have n1 : z ≠ 232 := fun y => by rw [y] at hz; cases hz
      have n2 : z ≠ 277 := fun y => by rw [y] at hz; cases hz
      unfold wqc
      simp only [n1, n2, if_false]
    · have n1 : z ≠ 232 := fun y => by rw [y] at hz; cases hz
      have n2 : z ≠ 323 := fun y => by rw [y] at hz; cases hz
      unfold wqc
      simp only [n1, n2, if_false]
end Po
