/-! PURE (50zzzzm): how far heat may come in a minute. -/
theorem tq {p : Int} {a c : Nat} (h1 : -(c : Int) ≤ p) (h2 : p ≤ (a : Int)) : -((c / 10 : Nat) : Int) ≤ p.tdiv 10 ∧ p.tdiv 10 ≤ ((a / 10 : Nat) : Int) := by
  rcases Int.lt_or_le p 0 with w | w
  · have e1 : p.tdiv 10 = -((-p) / 10) := by
      rw [← Int.tdiv_eq_ediv_of_nonneg (show 0 ≤ -p by omega), Int.neg_tdiv, Int.neg_neg]
    rw [e1]
    omega
  · rw [Int.tdiv_eq_ediv_of_nonneg w]
    omega
theorem div_sum {f : Nat → Nat} : ∀ n, 10 * sumN (fun y => f y / 10) n ≤ sumN f n := by
  intro n
  induction n with
  | zero => exact Nat.le_refl _
  | succ n ih =>
    show 10 * (sumN (fun y => f y / 10) n + f n / 10) ≤ sumN f n + f n
    omega
section Ht
variable {e fl : Nat → Nat} {k : Nat}
theorem W_1 (x : Nat) : pl_W e x k ≤ 10080 := by
  have h1 := W_b (e := e) (k := k) (x + 1)
  have h2 : pl_W e x k ≤ sumN (fun x => pl_W e x k) (x + 1) := by show _ ≤ sumN _ x + pl_W e x k; omega
  have h3 : pl_sz e k ≤ 240 := cnt_le _ 240
  omega
theorem gs_140 {d : Nat} (hd : d < 4) : pl_gs e d k ≤ 140 := by
  have h : cnt (fun i => decide (ge_sd (i % 110) < 4)) 550 = 140 := by decide +kernel
  unfold pl_gs
  rw [← h]
  refine cnt_imp 550 (fun i _ hp => ?_)
  have := of_decide_eq_true hp
  exact decide_eq_true (by omega)
theorem sn_b {S : Nat → Nat} (hS : ∀ d, S d ≤ 30) : sn0 e S k ≤ 16800 := by
  have := sumN_bd (f := fun d => pl_gs e d k * S d) (b := 4200) (n := 4) (fun d hd => Nat.mul_le_mul (gs_140 hd) (hS d))
  unfold sn0
  omega
theorem flq_b {W : Nat → Int64} {x y : Nat} {a c : Nat} (hW : ∀ i, i < pl_n e → -(2 ^ 40 : Int) ≤ (W i).toInt ∧ (W i).toInt ≤ 2 ^ 40) (hx : x < pl_n e) (hy : y < pl_n e) (h1 : -(c : Int) ≤ (W x).toInt - (W y).toInt) (h2 : (W x).toInt - (W y).toInt ≤ (a : Int)) : -((c * pl_W e x y / 10 : Nat) : Int) ≤ (flq e W x y).toInt ∧ (flq e W x y).toInt ≤ ((a * pl_W e x y / 10 : Nat) : Int) := by
  have hw := W_1 (e := e) (k := y) x
  obtain ⟨x1, x2⟩ := hW x hx
  obtain ⟨y1, y2⟩ := hW y hy
  unfold flq
  generalize pl_W e x y = w at *
  have e1 : (W x - W y).toInt = (W x).toInt - (W y).toInt := by rw [Int64.toInt_sub, Int.bmod_eq_of_le (by omega) (by omega)]
  have hd : -(2 ^ 41 : Int) ≤ (W x).toInt - (W y).toInt ∧ (W x).toInt - (W y).toInt ≤ 2 ^ 41 := by omega
  generalize (W x).toInt - (W y).toInt = d at *
  have p1 : d * (w : Int) ≤ (a : Int) * (w : Int) := Int.mul_le_mul_of_nonneg_right h2 (by omega)
  have p2 : -(c : Int) * (w : Int) ≤ d * (w : Int) := Int.mul_le_mul_of_nonneg_right h1 (by omega)
  have q1 : d * (w : Int) ≤ 2 ^ 41 * 10080 := by
    have a1 : d * (w : Int) ≤ (2 ^ 41 : Int) * (w : Int) := Int.mul_le_mul_of_nonneg_right (by omega) (by omega)
    omega
  have q2 : -(2 ^ 41 * 10080 : Int) ≤ d * (w : Int) := by
    have a1 : -(2 ^ 41 : Int) * (w : Int) ≤ d * (w : Int) := Int.mul_le_mul_of_nonneg_right (by omega) (by omega)
    omega
  have e2 : ((W x - W y) * lN w).toInt = d * (w : Int) := by
    rw [Int64.toInt_mul, e1, lN_j (by omega), Int.bmod_eq_of_le (by omega) (by omega)]
  have p3 : -((c * w : Nat) : Int) ≤ d * (w : Int) := by
    rw [Int.natCast_mul]
    rw [Int.neg_mul] at p2
    exact p2
  have p4 : d * (w : Int) ≤ ((a * w : Nat) : Int) := by rw [Int.natCast_mul]; exact p1
  obtain ⟨r1, r2⟩ := tq p3 p4
  have hb : -(2 ^ 62 : Int) ≤ (d * (w : Int)).tdiv 10 ∧ (d * (w : Int)).tdiv 10 ≤ 2 ^ 62 := by
    have := tq (p := d * (w : Int)) (a := 2 ^ 41 * 10080) (c := 2 ^ 41 * 10080) (by omega) (by omega)
    omega
  rw [Int64.toInt_div, e2, show (10 : Int64).toInt = 10 from rfl, Int.bmod_eq_of_le (by omega) (by omega)]
  exact ⟨r1, r2⟩
/-- what joins space k -/
def omg (e : Nat → Nat) (k x y : Nat) : Nat := if x < y then (if y = k then pl_W e x k else if x = k then pl_W e k y else 0) else 0
theorem omg_b (n : Nat) : sumN (fun x => sumN (omg e k x) n) n ≤ 84 * pl_sz e k := by
  have h1 : sumN (fun x => sumN (omg e k x) n) n ≤ sumN (fun x => sumN (fun y => (if k = y then pl_W e x k else 0) + (if k = x then pl_W e y k else 0)) n) n := by
    refine sumN_le (fun x _ => sumN_le (fun y _ => ?_))
    unfold omg
    by_cases a : x < y
    · rw [if_pos a]
      by_cases b' : y = k
      · rw [if_pos b', if_pos b'.symm]; omega
      · rw [if_neg b']
        by_cases c : x = k
        · rw [if_pos c, if_pos c.symm, W_sym k y]; omega
        · rw [if_neg c]; omega
    · rw [if_neg a]; omega
  have h2 : sumN (fun x => sumN (fun y => (if k = y then pl_W e x k else 0) + (if k = x then pl_W e y k else 0)) n) n ≤ sumN (fun x => pl_W e x k) n + sumN (fun y => pl_W e y k) n := by
    have e1 : sumN (fun x => sumN (fun y => (if k = y then pl_W e x k else 0) + (if k = x then pl_W e y k else 0)) n) n = sumN (fun x => sumN (fun y => if k = y then pl_W e x k else 0) n) n + sumN (fun x => sumN (fun y => if k = x then pl_W e y k else 0) n) n := by
      rw [← sumN_add]
      exact sumN_congr (fun x _ => sumN_add _ _ n)
    rw [e1]
    have a1 : sumN (fun x => sumN (fun y => if k = y then pl_W e x k else 0) n) n ≤ sumN (fun x => pl_W e x k) n := sumN_le (fun x _ => sumN_pick k _ n)
    have a2 : sumN (fun x => sumN (fun y => if k = x then pl_W e y k else 0) n) n ≤ sumN (fun y => pl_W e y k) n := by
      rw [sumN_swap]
      exact sumN_le (fun y _ => sumN_pick k _ n)
    omega
  have h3 := W_b (e := e) (k := k) n
  omega
theorem prr_b {W : Nat → Int64} {m a c : Nat} (hm : m < 2 ^ 39) (hW : ∀ i, i < pl_n e → -(m : Int) ≤ (W i).toInt ∧ (W i).toInt ≤ (m : Int)) (hk : k < pl_n e) (ha : (a : Int) = (m : Int) - (W k).toInt) (hc : (c : Int) = (W k).toInt + (m : Int)) : -(10 * (prr e W k).toInt) ≤ ((c * (84 * pl_sz e k) : Nat) : Int) ∧ 10 * (prr e W k).toInt ≤ ((a * (84 * pl_sz e k) : Nat) : Int) := by
  have hW2 : ∀ i, i < pl_n e → -(2 ^ 40 : Int) ≤ (W i).toInt ∧ (W i).toInt ≤ 2 ^ 40 := fun i hi => by have := hW i hi; omega
  have hs : pl_sz e k ≤ 240 := cnt_le _ 240
  have hkW := hW k hk
  have om := omg_b (e := e) (k := k) (pl_n e)
  have D : ∀ t, 10 * sumN (fun x => sumN (fun y => t * omg e k x y / 10) (pl_n e)) (pl_n e) ≤ t * (84 * pl_sz e k) := fun t => by
    have d1 : 10 * sumN (fun x => sumN (fun y => t * omg e k x y / 10) (pl_n e)) (pl_n e) ≤ sumN (fun x => t * sumN (omg e k x) (pl_n e)) (pl_n e) := by
      rw [← sumN_mul]
      refine sumN_le (fun x _ => ?_)
      have := div_sum (f := fun y => t * omg e k x y) (pl_n e)
      rw [sumN_mul] at this
      exact this
    rw [sumN_mul] at d1
    exact Nat.le_trans d1 (Nat.mul_le_mul_left _ om)
  have hcell : ∀ x, x < pl_n e → ∀ y, y < pl_n e → -((c * omg e k x y / 10 : Nat) : Int) ≤ (if x < y then flg e W k x y else 0 : Int64).toInt ∧ (if x < y then flg e W k x y else 0 : Int64).toInt ≤ ((a * omg e k x y / 10 : Nat) : Int) := fun x hx y hy => by
    unfold omg
    by_cases w : x < y
    · rw [if_pos w, if_pos w]
      unfold flg
      by_cases z : y = k
      · have hx2 := hW x hx
        rw [if_pos z, if_pos z, if_neg (show ¬ x = k by omega), Int64.sub_zero, z]
        exact flq_b hW2 hx hk (by omega) (by omega)
      · rw [if_neg z, if_neg z]
        by_cases v : x = k
        · have hy2 := hW y hy
          rw [if_pos v, if_pos v, v]
          obtain ⟨f1, f2⟩ := flq_b (a := c) (c := a) hW2 hk hy (by omega) (by omega)
          have hw := W_1 (e := e) (k := y) k
          have b1' : c * pl_W e k y ≤ c * 10080 := Nat.mul_le_mul_left _ hw
          have b2 : a * pl_W e k y ≤ a * 10080 := Nat.mul_le_mul_left _ hw
          rw [Int64.toInt_sub, i_0, Int.bmod_eq_of_le (by omega) (by omega)]
          omega
        · rw [if_neg v, if_neg v, Int64.sub_zero, i_0, Nat.mul_zero]
          omega
    · rw [if_neg w, if_neg w, i_0, Nat.mul_zero]
      omega
  have hbig : ∀ t, t ≤ 2 ^ 41 → sumN (fun x => sumN (fun y => t * omg e k x y / 10) (pl_n e)) (pl_n e) < 2 ^ 62 := fun t ht => by
    have d1 := D t
    have d2 : t * (84 * pl_sz e k) ≤ 2 ^ 41 * (84 * 240) := Nat.mul_le_mul ht (by omega)
    omega
  have hin : ∀ t, t ≤ 2 ^ 41 → ∀ x, x < pl_n e → sumN (fun y => t * omg e k x y / 10) (pl_n e) < 2 ^ 62 := fun t ht x hx => by
    have d1 := hbig t ht
    have d2 : sumN (fun y => t * omg e k x y / 10) (pl_n e) ≤ sumN (fun x => sumN (fun y => t * omg e k x y / 10) (pl_n e)) (x + 1) := by
      show _ ≤ sumN _ x + sumN (fun y => t * omg e k x y / 10) (pl_n e)
      omega
    have d3 := sumN_mono (f := fun x => sumN (fun y => t * omg e k x y / 10) (pl_n e)) (show x + 1 ≤ pl_n e by omega)
    omega
  obtain ⟨r1, r2⟩ := sL_i (f := fun x => sL (fun y => if x < y then flg e W k x y else 0) (pl_n e)) (lo := fun x => sumN (fun y => c * omg e k x y / 10) (pl_n e)) (hi := fun x => sumN (fun y => a * omg e k x y / 10) (pl_n e)) (pl_n e) (fun x hx => sL_i (f := fun y => if x < y then flg e W k x y else 0) (lo := fun y => c * omg e k x y / 10) (hi := fun y => a * omg e k x y / 10) (pl_n e) (fun y hy => hcell x hx y hy) (hin c (by omega) x hx) (hin a (by omega) x hx)) (hbig c (by omega)) (hbig a (by omega))
  have d1 := D a
  have d2 := D c
  unfold prr
  generalize (sL (fun x => sL (fun y => if x < y then flg e W k x y else 0) (pl_n e)) (pl_n e)).toInt = P at *
  generalize sumN (fun x => sumN (fun y => c * omg e k x y / 10) (pl_n e)) (pl_n e) = P1 at *
  generalize sumN (fun x => sumN (fun y => a * omg e k x y / 10) (pl_n e)) (pl_n e) = P2 at *
  omega
theorem lss_b {W : Nat → Int64} {ou : Int64} {m a c : Nat} (hm : m < 2 ^ 39) (hW : -(m : Int) ≤ (W k).toInt ∧ (W k).toInt ≤ (m : Int)) (ho : -(m : Int) ≤ ou.toInt ∧ ou.toInt ≤ (m : Int)) (ha : (a : Int) = (m : Int) - (W k).toInt) (hc : (c : Int) = (W k).toInt + (m : Int)) : 10 * (lss e W ou k).toInt ≤ ((c * (21 * pl_sz e k) : Nat) : Int) ∧ -(10 * (lss e W ou k).toInt) ≤ ((a * (21 * pl_sz e k) : Nat) : Int) := by
  have hs : pl_sz e k ≤ 240 := cnt_le _ 240
  have hl := ls_b (e := e) (k := k)
  have q3 : c * pl_ls e k ≤ c * (21 * pl_sz e k) := Nat.mul_le_mul_left _ hl
  have q4 : a * pl_ls e k ≤ a * (21 * pl_sz e k) := Nat.mul_le_mul_left _ hl
  unfold lss
  generalize pl_ls e k = w at *
  have e1 : (W k - ou).toInt = (W k).toInt - ou.toInt := by rw [Int64.toInt_sub, Int.bmod_eq_of_le (by omega) (by omega)]
  have h1 : -(a : Int) ≤ (W k).toInt - ou.toInt := by omega
  have h2 : (W k).toInt - ou.toInt ≤ (c : Int) := by omega
  have hd : -(2 ^ 41 : Int) ≤ (W k).toInt - ou.toInt ∧ (W k).toInt - ou.toInt ≤ 2 ^ 41 := by omega
  generalize (W k).toInt - ou.toInt = d at *
  have p1 : d * (w : Int) ≤ (c : Int) * (w : Int) := Int.mul_le_mul_of_nonneg_right h2 (by omega)
  have p2 : -(a : Int) * (w : Int) ≤ d * (w : Int) := Int.mul_le_mul_of_nonneg_right h1 (by omega)
  have q1 : d * (w : Int) ≤ 2 ^ 41 * 5040 := by
    have a1 : d * (w : Int) ≤ (2 ^ 41 : Int) * (w : Int) := Int.mul_le_mul_of_nonneg_right (by omega) (by omega)
    omega
  have q2 : -(2 ^ 41 * 5040 : Int) ≤ d * (w : Int) := by
    have a1 : -(2 ^ 41 : Int) * (w : Int) ≤ d * (w : Int) := Int.mul_le_mul_of_nonneg_right (by omega) (by omega)
    omega
  have e2 : ((W k - ou) * lN w).toInt = d * (w : Int) := by
    rw [Int64.toInt_mul, e1, lN_j (by omega), Int.bmod_eq_of_le (by omega) (by omega)]
  have p3 : -((a * w : Nat) : Int) ≤ d * (w : Int) := by
    rw [Int.natCast_mul]
    rw [Int.neg_mul] at p2
    exact p2
  have p4 : d * (w : Int) ≤ ((c * w : Nat) : Int) := by rw [Int.natCast_mul]; exact p1
  obtain ⟨r1, r2⟩ := tq p3 p4
  have hb : -(2 ^ 62 : Int) ≤ (d * (w : Int)).tdiv 10 ∧ (d * (w : Int)).tdiv 10 ≤ 2 ^ 62 := by
    have := tq (p := d * (w : Int)) (a := 2 ^ 41 * 5040) (c := 2 ^ 41 * 5040) (by omega) (by omega)
    omega
  rw [Int64.toInt_div, e2, show (10 : Int64).toInt = 10 from rfl, Int.bmod_eq_of_le (by omega) (by omega)]
  omega
theorem con_b {n p r : Nat} {T0 P L W m : Int} (hp : (p : Int) = (n : Int) * (m - W)) (hr : (r : Int) = (n : Int) * (W + m)) (h1 : (n : Int) * (100 * W) ≤ T0) (h2 : T0 ≤ (n : Int) * (100 * W) + 100 * n) (h3 : -(10 * P) ≤ 84 * (r : Int)) (h4 : 10 * P ≤ 84 * (p : Int)) (h5 : 10 * L ≤ 21 * (r : Int)) (h6 : -(10 * L) ≤ 21 * (p : Int)) : -((n : Int) * (100 * m)) ≤ T0 + P - L ∧ T0 + P - L ≤ (n : Int) * (100 * m) + 100 * n := by
  have e1 : (n : Int) * (100 * W) = 100 * ((n : Int) * W) := by rw [← Int.mul_assoc, Int.mul_comm (n : Int) 100, Int.mul_assoc]
  have e2 : (n : Int) * (100 * m) = 100 * ((n : Int) * m) := by rw [← Int.mul_assoc, Int.mul_comm (n : Int) 100, Int.mul_assoc]
  rw [Int.mul_sub] at hp
  rw [Int.mul_add] at hr
  rw [e1] at h1 h2
  rw [e2]
  generalize (n : Int) * W = x at *
  generalize (n : Int) * m = y at *
  omega
theorem heat_b {h : Nat → Int64} {S A : Nat → Nat} {ou : Int64} {G : Nat → Int32} {on : Bool} {st cap q z : Nat} (hq : q < 2 ^ 15) (hh : ∀ c, c < 240 → -(100000 + 100000 * (q : Int)) ≤ (h c).toInt ∧ (h c).toInt ≤ 100000 + 100000 * (q : Int)) (hS : ∀ d, S d ≤ 30) (hA : ∀ j, j < 10 → A j ≤ 6160) (ho : -400 ≤ ou.toInt ∧ ou.toInt ≤ 500) (hz : z < 240) : -(195000 + 100000 * (q : Int)) ≤ (spd e (ht2 e fl (het e fl (ts e h) (wmv e (ts e h)) ou S A) G on st cap) z).toInt ∧ (spd e (ht2 e fl (het e fl (ts e h) (wmv e (ts e h)) ou S A) G on st cap) z).toInt ≤ 195000 + 100000 * (q : Int) := by
  have hk := pl_lab_lt (e := e) hz
  obtain ⟨s1, s2⟩ := sz_b hk
  have hW : ∀ i, i < pl_n e → -(1000 + 1000 * (q : Int)) ≤ (wmv e (ts e h) i).toInt ∧ (wmv e (ts e h) i).toInt ≤ 1000 + 1000 * (q : Int) := fun i hi => wrm_bn hq hi hh
  obtain ⟨t1, t2⟩ := ts_b (e := e) (w := h) (k := pl_lab e z) (lo := 100000 + 100000 * q) (hi := 100000 + 100000 * q) (by omega) (by omega) (fun c hc => by have := hh c hc; omega)
  have t3 : (100000 + 100000 * q) * pl_sz e (pl_lab e z) ≤ (100000 + 100000 * q) * 240 := Nat.mul_le_mul_left _ s2
  have Wf : (wmv e (ts e h) (pl_lab e z)).toInt = (ts e h (pl_lab e z)).toInt / ((100 * pl_sz e (pl_lab e z) : Nat) : Int) := fl_i (by omega) (by omega) (by omega)
  obtain ⟨w1, w2⟩ := hW _ hk
  obtain ⟨a, ha⟩ : ∃ a : Nat, (a : Int) = ((1000 + 1000 * q : Nat) : Int) - (wmv e (ts e h) (pl_lab e z)).toInt := ⟨(((1000 + 1000 * q : Nat) : Int) - (wmv e (ts e h) (pl_lab e z)).toInt).toNat, Int.toNat_of_nonneg (by omega)⟩
  obtain ⟨c, hc⟩ : ∃ c : Nat, (c : Int) = (wmv e (ts e h) (pl_lab e z)).toInt + ((1000 + 1000 * q : Nat) : Int) := ⟨((wmv e (ts e h) (pl_lab e z)).toInt + ((1000 + 1000 * q : Nat) : Int)).toNat, Int.toNat_of_nonneg (by omega)⟩
  obtain ⟨p1, p2⟩ := prr_b (e := e) (k := pl_lab e z) (W := wmv e (ts e h)) (m := 1000 + 1000 * q) (a := a) (c := c) (by omega) (fun i hi => by have := hW i hi; omega) hk ha hc
  obtain ⟨l1, l2⟩ := lss_b (e := e) (k := pl_lab e z) (W := wmv e (ts e h)) (ou := ou) (m := 1000 + 1000 * q) (a := a) (c := c) (by omega) (by omega) (by omega) ha hc
  have sn := sn_b (e := e) (k := pl_lab e z) hS
  have hr := hrt_b (e := e) (fl := fl) (k := pl_lab e z) (A := A) (C := 6160) hA
  have hb : ∀ T : Nat → Int64, bs e fl T G st cap (pl_lab e z) ≤ 60 * pl_sz e (pl_lab e z) := fun T => by
    have h2 := bs_w (e := e) (fl := fl) (T := T) (G := G) (st := st) (ra := cap) (show pl_lab e z < pl_n e + 1 by omega)
    unfold bw at h2
    rw [if_pos hk] at h2
    have h3 := wnt_le (e := e) (fl := fl) (T := T) (G := G) (pl_lab e z)
    omega
  have hT1 : (het e fl (ts e h) (wmv e (ts e h)) ou S A (pl_lab e z)).toInt = (ts e h (pl_lab e z)).toInt + (prr e (wmv e (ts e h)) (pl_lab e z)).toInt - (lss e (wmv e (ts e h)) ou (pl_lab e z)).toInt + (sn0 e S (pl_lab e z) : Int) + (hrt e fl A (pl_lab e z) : Int) ∧ -((pl_sz e (pl_lab e z) : Int) * (100 * ((1000 + 1000 * q : Nat) : Int))) ≤ (ts e h (pl_lab e z)).toInt + (prr e (wmv e (ts e h)) (pl_lab e z)).toInt - (lss e (wmv e (ts e h)) ou (pl_lab e z)).toInt ∧ (ts e h (pl_lab e z)).toInt + (prr e (wmv e (ts e h)) (pl_lab e z)).toInt - (lss e (wmv e (ts e h)) ou (pl_lab e z)).toInt ≤ (pl_sz e (pl_lab e z) : Int) * (100 * ((1000 + 1000 * q : Nat) : Int)) + 100 * (pl_sz e (pl_lab e z) : Int) := by
    unfold het
    generalize hrt e fl A (pl_lab e z) = r at *
    generalize sn0 e S (pl_lab e z) = sv at *
    generalize prr e (wmv e (ts e h)) (pl_lab e z) = P at *
    generalize lss e (wmv e (ts e h)) ou (pl_lab e z) = Ls at *
    generalize (wmv e (ts e h) (pl_lab e z)).toInt = W at *
    generalize ts e h (pl_lab e z) = T0 at *
    generalize pl_sz e (pl_lab e z) = n at *
    have ea : a * (84 * n) ≤ 70000000 * (84 * 240) := Nat.mul_le_mul (by omega) (by omega)
    have ec : c * (84 * n) ≤ 70000000 * (84 * 240) := Nat.mul_le_mul (by omega) (by omega)
    have ea2 : a * (21 * n) ≤ 70000000 * (21 * 240) := Nat.mul_le_mul (by omega) (by omega)
    have ec2 : c * (21 * n) ≤ 70000000 * (21 * 240) := Nat.mul_le_mul (by omega) (by omega)
    have x1 : (T0 + P).toInt = T0.toInt + P.toInt := by rw [Int64.toInt_add, Int.bmod_eq_of_le (by omega) (by omega)]
    have x2 : (T0 + P - Ls).toInt = T0.toInt + P.toInt - Ls.toInt := by rw [Int64.toInt_sub, x1, Int.bmod_eq_of_le (by omega) (by omega)]
    have x3 : (T0 + P - Ls + lN sv).toInt = T0.toInt + P.toInt - Ls.toInt + (sv : Int) := by rw [Int64.toInt_add, x2, lN_j (by omega), Int.bmod_eq_of_le (by omega) (by omega)]
    refine ⟨by rw [Int64.toInt_add, x3, lN_j (by omega), Int.bmod_eq_of_le (by omega) (by omega)], ?_⟩
    have d0 : (0 : Int) < ((100 * n : Nat) : Int) := by omega
    have d1 : ((100 * n : Nat) : Int) * W ≤ T0.toInt := by rw [Wf]; exact Int.mul_ediv_self_le (by omega)
    have d2 : T0.toInt < ((100 * n : Nat) : Int) * W + ((100 * n : Nat) : Int) := by rw [Wf]; exact Int.lt_mul_ediv_self_add d0
    have d3 : ((100 * n : Nat) : Int) * W = (n : Int) * (100 * W) := by rw [Int.natCast_mul, Int.mul_comm ((100 : Nat) : Int) (n : Int), Int.mul_assoc]; rfl
    rw [d3] at d1 d2
    refine con_b (n := n) (p := n * a) (r := n * c) (W := W) (by rw [Int.natCast_mul, ha]) (by rw [Int.natCast_mul, hc]) d1 (by omega) ?_ ?_ ?_ ?_
    · have : (c * (84 * n) : Nat) = 84 * (n * c) := by rw [Nat.mul_comm c, Nat.mul_assoc]
      rw [this] at p1; omega
    · have : (a * (84 * n) : Nat) = 84 * (n * a) := by rw [Nat.mul_comm a, Nat.mul_assoc]
      rw [this] at p2; omega
    · have : (c * (21 * n) : Nat) = 21 * (n * c) := by rw [Nat.mul_comm c, Nat.mul_assoc]
      rw [this] at l1; omega
    · have : (a * (21 * n) : Nat) = 21 * (n * a) := by rw [Nat.mul_comm a, Nat.mul_assoc]
      rw [this] at l2; omega
  obtain ⟨y1, y2, y3⟩ := hT1
  have hb1 := hb (het e fl (ts e h) (wmv e (ts e h)) ou S A)
  have hX : ∃ v : Nat, v ≤ 60 * pl_sz e (pl_lab e z) ∧ (ht2 e fl (het e fl (ts e h) (wmv e (ts e h)) ou S A) G on st cap (pl_lab e z)).toInt = (het e fl (ts e h) (wmv e (ts e h)) ou S A (pl_lab e z)).toInt + (v : Int) := by
    unfold ht2
    generalize bs e fl (het e fl (ts e h) (wmv e (ts e h)) ou S A) G st cap (pl_lab e z) = v at *
    generalize het e fl (ts e h) (wmv e (ts e h)) ou S A (pl_lab e z) = T1 at *
    have bb : (pl_sz e (pl_lab e z) : Int) * (100 * ((1000 + 1000 * q : Nat) : Int)) ≤ 240 * (100 * ((1000 + 1000 * q : Nat) : Int)) := Int.mul_le_mul_of_nonneg_right (by omega) (by omega)
    split
    · exact ⟨v, hb1, by rw [Int64.toInt_add, lN_j (by omega), Int.bmod_eq_of_le (by omega) (by omega)]⟩
    · exact ⟨0, Nat.zero_le _, by omega⟩
  obtain ⟨v, v1, v2⟩ := hX
  rw [y1] at v2
  generalize hrt e fl A (pl_lab e z) = r at *
  generalize sn0 e S (pl_lab e z) = sv at *
  have bb : (pl_sz e (pl_lab e z) : Int) * (100 * ((1000 + 1000 * q : Nat) : Int)) ≤ 240 * (100 * ((1000 + 1000 * q : Nat) : Int)) := Int.mul_le_mul_of_nonneg_right (by omega) (by omega)
  have bb0 : 0 ≤ (pl_sz e (pl_lab e z) : Int) * (100 * ((1000 + 1000 * q : Nat) : Int)) := Int.mul_nonneg (by omega) (by omega)
  have R := spd_b (e := e) (T := ht2 e fl (het e fl (ts e h) (wmv e (ts e h)) ou S A) G on st cap) (c := z) (lo := -(100 * ((1000 + 1000 * q : Nat) : Int))) (hi := 100 * ((1000 + 1000 * q : Nat) : Int) + 80000) hz ⟨by omega, by omega⟩ ⟨by omega, by omega⟩ (by
    rw [Int.neg_mul, Int.mul_comm]
    omega) (by
    rw [Int.add_mul, Int.mul_comm (100 * ((1000 + 1000 * q : Nat) : Int)) (pl_sz e (pl_lab e z) : Int)]
    omega)
  omega
end Ht
