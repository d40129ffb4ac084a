/-! PURE (50zzzze): heat, both sides together. -/
section Wm
variable {N1 N2 : mz_N} {e fl P sn mt : Nat → Nat} {T : Nat → Int} {u : SuS} {c : CiS} {k : ClS} {q hr cap gs : Nat} {fit lv : Bool} {ou : Int64}
theorem wnt_le {T : Nat → Int64} {G : Nat → Int32} (j : Nat) : wnt e fl T G j ≤ 60 * pl_sz e j := by
  unfold wnt clp
  omega
theorem bs_w {T : Nat → Int64} {G : Nat → Int32} {st ra : Nat} {j : Nat} (hj : j < pl_n e + 1) : bs e fl T G st ra j ≤ bw e fl T G st j := by
  unfold bs
  split
  · rename_i w; exact shr_le w bv_le hj
  · exact Nat.zero_le _
theorem bm_b {T : Nat → Int64} {G : Nat → Int32} {st ra j : Nat} : bm e fl (bs e fl T G st ra) j (pl_n e) ≤ 14400 := by
  have h1 : bm e fl (bs e fl T G st ra) j (pl_n e) ≤ sumN (fun i => 60 * pl_sz e i) (pl_n e) := by
    unfold bm
    refine sumN_le (fun i hi => ?_)
    have h2 := bs_w (e := e) (fl := fl) (T := T) (G := G) (st := st) (ra := ra) (show i < pl_n e + 1 by omega)
    unfold bw at h2
    rw [if_pos hi] at h2
    have h3 := wnt_le (e := e) (fl := fl) (T := T) (G := G) i
    split <;> omega
  rw [sumN_mul, pl_all] at h1
  exact h1
theorem ba_b {T : Nat → Int64} {G : Nat → Int32} {on : Bool} {st ra j : Nat} : ba e fl (bs2 e fl T G on st ra) j ≤ 14700 := by
  cases on with
  | false =>
    have : bs2 e fl T G false st ra = fun _ => 0 := by funext i; unfold bs2; rw [if_neg (fun z => by cases z)]
    rw [this, ba_0]
    omega
  | true =>
    have : bs2 e fl T G true st ra = bs e fl T G st ra := by funext i; unfold bs2; rw [if_pos rfl]
    rw [this]
    have h1 := bm_b (e := e) (fl := fl) (T := T) (G := G) (st := st) (ra := ra) (j := j)
    have h2 := bs_w (e := e) (fl := fl) (T := T) (G := G) (st := st) (ra := ra) (show pl_n e < pl_n e + 1 by omega)
    unfold bw at h2
    rw [if_neg (Nat.lt_irrefl _)] at h2
    unfold ba
    split <;> omega
theorem bv_c {T : Nat → Int64} {G : Nat → Int32} {on : Bool} {st ra : Nat} : bv2 e fl T G on st ra ≤ ra := by
  unfold bv2
  split
  · exact Nat.min_le_left _ _
  · exact Nat.zero_le _
theorem bs2_n {T : Nat → Int64} {G : Nat → Int32} {on : Bool} {st ra : Nat} (h : st ≤ 20000) : st + bs2 e fl T G on st ra (pl_n e) ≤ 20000 := by
  unfold bs2
  split
  · have := bs_n (e := e) (fl := fl) (T := T) (G := G) (st := st) (ra := ra)
    omega
  · omega
theorem warm_ok (hB : plB e fl) (hpl : plW N1 N2 e fl) (h33 : ∀ i, i < 550 → N2.1 233 i = nI (e i)) (h34 : ∀ i, i < 240 → N2.1 234 i = nI (fl i)) (hT : tgR N1 N2 T) (hTB : tgB T) (hu : suC N1 u) (hu2 : suR N2 u) (huB : suB (q + 1) u) (hc : ciR N1 N2 c) (hcB : ciB c) (hk : clC N1 k) (hk2 : clR N2 k) (hhr : hr < 24) (hP : ∀ j, j < 240 → N1.1 40 j = nI (P j) ∧ N2.1 244 j = nI (P j)) (hPb : ∀ j, P j ≤ 20) (hsn : ∀ j, j < 96 → N1.1 67 j = nI (sn j) ∧ N2.1 246 j = nI (sn j)) (hsb : ∀ j, sn j < 256) (o1 : (N1.1 66 hr).toInt64 = ou) (o2 : (N2.1 245 hr).toInt64 = ou) (c1 : N1.1 215 0 = nI cap) (c2 : N2.1 232 21 = nI cap) (c3 : cap ≤ 20000) (hm : ∀ j, j < 11 → N1.1 210 j = nI (mt j) ∧ N2.2 321 j = lN (mt j) ∧ mt j < 2 ^ 30) (g1 : N1.1 208 3 = nI gs) (g2 : N2.2 232 124 = lN gs) (l1 : N1.1 56 6 = mz_b01 lv) (l2 : N2.1 276 10 = mz_b01 lv) (hf1 : N1.1 128 0 = nI (b1 (!fit))) (hf2 : N2.1 307 0 = nI (b1 (!fit))) :
    cp_233_0 (nI hr) N1 ∧ cp_524_0 (nI hr) N2 ∧ ∃ (u' : SuS) (X : Nat → Int64) (mx : Nat → Nat) (gx : Nat) (on : Bool) (G : Nat → Int32) (st : Nat), X = ht2 e fl (het e fl (ts e k.h) (wmv e (ts e k.h)) ou (fun d => sn (24 * d + hr) / 10) (fun j => 8 * pnt e fl P hr j + 3 * c.1 j)) G on st cap ∧ st ≤ 20000 ∧ suC (cf_233_0 (nI hr) N1) u' ∧ suR (cf_524_0 (nI hr) N2) u' ∧ suB (q + 1) u' ∧ clC (cf_233_0 (nI hr) N1) (fun z => spd e X z, k.sa, k.mi, k.sm, k.mo, k.fl) ∧ clR (cf_524_0 (nI hr) N2) (fun z => spd e X z, k.sa, k.mi, k.sm, k.mo, k.fl) ∧ (∀ i, i < pl_n e → (cf_233_0 (nI hr) N1).2 75 i = wmv e X i ∧ (cf_524_0 (nI hr) N2).2 268 i = X i) ∧ (∀ j, j < 11 → (cf_233_0 (nI hr) N1).1 210 j = nI (mt j + mx j) ∧ (cf_524_0 (nI hr) N2).2 321 j = lN (mt j + mx j) ∧ mx j ≤ 14700) ∧ (cf_233_0 (nI hr) N1).1 208 3 = nI (gs + gx) ∧ (cf_524_0 (nI hr) N2).2 232 124 = lN (gs + gx) ∧ gx ≤ 22001 ∧ (∀ j, j ≠ 11 → j ≠ 13 → (cf_233_0 (nI hr) N1).1 56 j = N1.1 56 j) ∧ (∀ j, j ≠ 3 → (cf_233_0 (nI hr) N1).1 208 j = N1.1 208 j) ∧ (∀ j, j ≠ 62 → (cf_524_0 (nI hr) N2).1 232 j = N2.1 232 j) ∧ (∀ j, j ≠ 66 → j ≠ 124 → (cf_524_0 (nI hr) N2).2 232 j = N2.2 232 j) ∧ fq [56, 208, 210] [68, 74, 75, 76, 77, 78] N1 (cf_233_0 (nI hr) N1) ∧ fq [232, 238] [232, 260, 268, 269, 270, 271, 321, 328] N2 (cf_524_0 (nI hr) N2) := by
  have S1 : ∀ d, d < 4 → N1.1 67 (24 * d + hr) / 10 = nI (sn (24 * d + hr) / 10) := fun d hd => by
    have := hsb (24 * d + hr)
    rw [(hsn _ (by omega)).1, show (10 : Int32) = nI 10 from rfl, pk_div (by omega) (by omega) (by omega)]
  have S2 : ∀ d, d < 4 → N2.1 246 (24 * d + hr) / 10 = nI (sn (24 * d + hr) / 10) := fun d hd => by
    have := hsb (24 * d + hr)
    rw [(hsn _ (by omega)).2, show (10 : Int32) = nI 10 from rfl, pk_div (by omega) (by omega) (by omega)]
  have Sb : ∀ d, sn (24 * d + hr) / 10 ≤ 30 := fun d => by have := hsb (24 * d + hr); omega
  have T11 : decide (N1.1 53 11 = 1) = decide (¬ N2.1 257 11 = 0) := by
    rw [(hT 11 (by omega)).1, (hT 11 (by omega)).2]
    have := hTB 11 (by omega)
    unfold tgJ at this
    rw [if_neg (by omega), if_neg (by omega)] at this
    rcases this with w | w <;> rw [w] <;> decide
  have h0 : ts e (N1.2 68) = ts e k.h := funext fun i => ts_cg hk.h
  have h0' : ts e (N2.2 260) = ts e k.h := funext fun i => ts_cg hk2.h
  obtain ⟨a1, K1, a2, a3, a4, a5, a6, a7, a8, a9⟩ := warm_c (N := N1) (e := e) (fl := fl) (P := P) (L := c.1) (S := fun d => sn (24 * d + hr) / 10) (hr := hr) (ou := ou) (G := fun j => iI (T j)) (ra := cap) (st := u.st) (m := mt) (q0 := gs) (lv := lv) (fit := fit) (on := decide (N1.1 53 11 = 1) && lv && fit) (T0 := ts e k.h) (T1 := het e fl (ts e k.h) (wmv e (ts e k.h)) ou (fun d => sn (24 * d + hr) / 10) (fun j => 8 * pnt e fl P hr j + 3 * c.1 j)) hB.n hpl.1 hB.fl hhr S1 Sb o1 (fun j hj => (hP j hj).1) hPb (fun j hj => (hc j hj).1.1) (fun j hj => (hcB j hj).1) (fun j hj => (hT j (by omega)).1) c1 (by omega) hu.st huB.st (fun j hj => ⟨(hm j hj).1, (hm j hj).2.2⟩) g1 l1 hf1 rfl h0.symm rfl
  obtain ⟨r1, K2, r2, r3, r4, r5, r6, r7, r8, r9, r10⟩ := warm_r (N := N2) (e := e) (fl := fl) (P := P) (L := c.1) (S := fun d => sn (24 * d + hr) / 10) (hr := hr) (ou := ou) (G := fun j => iI (T j)) (ra := cap) (st := u.st) (m := mt) (q0 := gs) (lv := lv) (fit := fit) (on := decide (N1.1 53 11 = 1) && lv && fit) (T0 := ts e k.h) (T1 := het e fl (ts e k.h) (wmv e (ts e k.h)) ou (fun d => sn (24 * d + hr) / 10) (fun j => 8 * pnt e fl P hr j + 3 * c.1 j)) hB.n (fun i hi => ⟨h33 i hi, hB.e4 i hi⟩) hpl.2 h34 hB.fl hhr S2 Sb o2 (fun j hj => (hP j hj).2) hPb (fun j hj => (hc j hj).1.2) (fun j hj => (hcB j hj).1) (fun j hj => (hT j (by omega)).2) c2 (by omega) hu2.st huB.st (fun j hj => (hm j hj).2.1) g2 l2 hf2 (by rw [T11]) h0'.symm rfl
  rw [a2, r2]
  generalize (decide (N1.1 53 11 = 1) && lv && fit) = on at *
  have z1 := bv_c (e := e) (fl := fl) (T := het e fl (ts e k.h) (wmv e (ts e k.h)) ou (fun d => sn (24 * d + hr) / 10) (fun j => 8 * pnt e fl P hr j + 3 * c.1 j)) (G := fun j => iI (T j)) (on := on) (st := u.st) (ra := cap)
  have z2 := bs2_n (e := e) (fl := fl) (T := het e fl (ts e k.h) (wmv e (ts e k.h)) ou (fun d => sn (24 * d + hr) / 10) (fun j => 8 * pnt e fl P hr j + 3 * c.1 j)) (G := fun j => iI (T j)) (on := on) (ra := cap) huB.st
  have z3 := fun j => ba_b (e := e) (fl := fl) (T := het e fl (ts e k.h) (wmv e (ts e k.h)) ou (fun d => sn (24 * d + hr) / 10) (fun j => 8 * pnt e fl P hr j + 3 * c.1 j)) (G := fun j => iI (T j)) (on := on) (st := u.st) (ra := cap) (j := j)
  refine ⟨a1, r1, (u.ch, u.fu, u.wo, u.tk, _, u.co, _, u.mn, u.en, u.wa, u.ra), _, _, _, on, fun j => iI (T j), u.st, rfl, huB.st, ⟨?_, ?_, ?_, ?_, a7.1, ?_, a7.2.1, ?_, ?_, ?_, ?_⟩, ⟨?_, ?_, ?_, ?_, r7.1, ?_, r8, ?_, ?_, ?_, ?_⟩, ⟨huB.ch, huB.fu, huB.wo, huB.tk, z2, huB.co, Nat.le_trans z1 c3⟩, ⟨a4, ?_, ?_, ?_, ?_, ?_, ?_⟩, ⟨r4, ?_, ?_, ?_, ?_, ?_⟩, fun i hi => ⟨a5 i hi, r5 i hi⟩, fun j hj => ⟨a6 j hj, r6 j hj, z3 j⟩, a8, r9, ?_, a7.2.2, a9, r7.2, r10, a3, r3⟩
  · rw [a7.2.2 1 (by decide) (by decide)]; exact hu.ch
  · rw [a7.2.2 2 (by decide) (by decide)]; exact hu.fu
  · rw [a7.2.2 3 (by decide) (by decide)]; exact hu.wo
  · rw [a7.2.2 7 (by decide) (by decide)]; exact hu.tk
  · rw [a7.2.2 12 (by decide) (by decide)]; exact hu.co
  · rw [a7.2.2 4 (by decide) (by decide)]; exact hu.mn
  · rw [a7.2.2 5 (by decide) (by decide)]; exact hu.en
  · rw [a7.2.2 8 (by decide) (by decide)]; exact hu.wa
  · rw [a7.2.2 9 (by decide) (by decide)]; exact hu.ra
  · rw [r7.2 54 (by decide)]; exact hu2.ch
  · rw [r7.2 53 (by decide)]; exact hu2.fu
  · rw [r7.2 55 (by decide)]; exact hu2.wo
  · rw [r7.2 61 (by decide)]; exact hu2.tk
  · rw [r10 68 (by decide) (by decide)]; exact hu2.co
  · rw [r7.2 52 (by decide)]; exact hu2.mn
  · rw [r7.2 65 (by decide)]; exact hu2.en
  · rw [r7.2 63 (by decide)]; exact hu2.wa
  · rw [r7.2 64 (by decide)]; exact hu2.ra
  · rw [a3.2 69 rfl]; exact hk.sa
  · rw [a3.2 70 rfl]; exact hk.mi
  · rw [a3.2 71 rfl]; exact hk.sm
  · rw [a3.1 72 rfl]; exact hk.mo
  · rw [a3.1 73 rfl]; exact hk.fl
  · rw [a3.1 65 rfl]; exact hk.fi
  · rw [r3.2 261 rfl]; exact hk2.sa
  · rw [r3.2 262 rfl]; exact hk2.mi
  · rw [r3.2 265 rfl]; exact hk2.sm
  · rw [r3.2 263 rfl]; exact hk2.mo
  · rw [r3.2 264 rfl]; exact hk2.fl
  · omega
end Wm
