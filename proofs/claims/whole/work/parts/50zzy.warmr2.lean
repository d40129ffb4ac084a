/-! PURE (50zzy): the reference warms. -/
section War2
variable {N : mz_N} {e fl : Nat → Nat} {S P L : Nat → Nat} {hr : Nat} {Φ : mz_N → Prop} {f0 W : Nat → Int64} {ou : Int64}
theorem sL_z {x : Nat} {g : Nat → Int64} : sL (fun y => if x < y then g y else 0) (x + 1) = 0 := by
  rw [sL_congr (g := fun _ => 0) (fun i hi => if_neg (by omega)), sL_zero]
theorem row_r {x : Nat} {f : Nat → Int64} (hn : pl_n e ≤ 40) (h4 : ∀ i, i < 550 → e i < 4) (hx : x < pl_n e) (hp : r_pl e fl N) (hhr : hr < 24) (h45 : (N.1 245 hr).toInt64 = ou) (h69 : ∀ k, k < pl_n e → N.2 269 k = W k) :
    cp_524_68 (nI hr) (nI x) (nI (x + 1)) (mz_sL N 268 f) ∧ ∃ f', cf_524_68 (nI hr) (nI x) (nI (x + 1)) (mz_sL N 268 f) = .inl (nI (x + 1), mz_sL N 268 f') ∧ ∀ k, f' k = f k + sL (fun y => if x < y then flg e W k x y else 0) (pl_n e) - (if k = x then lss e W ou k else 0) := by
  obtain ⟨p7, p35, p36, p40, p39, p42⟩ := hp
  rw [cp_524_68, cf_524_68]
  have ix : mz_ib (nI x) 40 := ib_n (by omega) (by omega)
  have ix2 : mz_ib (nI x) 240 := ib_n (by omega) (by omega)
  have g9x : ∀ g, mz_gL (mz_sL N 268 g) 269 (nI x) = W x := fun g => by rw [gL_a, sL_n (by decide), nI_clamp (by omega)]; exact h69 x hx
  have gx : ∀ g, mz_gL (mz_sL N 268 g) 268 (nI x) = g x := fun g => by rw [gL_a, sL_e, nI_clamp (by omega)]
  have wx : ∀ g v, mz_wL (mz_sL N 268 g) 268 (nI x) v = mz_sL N 268 (vp_updL g x v) := fun g v => by rw [wL_s, sL_e, sL_sL, nI_clamp (by omega)]
  refine mz_lpn (f := cq_524_68 (nI hr) (nI x)) (P := cd_524_68 (nI hr) (nI x)) (Q := fun t => ∃ f', t = .inl (nI (x + 1), mz_sL N 268 f') ∧ ∀ k, f' k = f k + sL (fun y => if x < y then flg e W k x y else 0) (pl_n e) - (if k = x then lss e W ou k else 0)) (pl_n e) (fun y s => ∃ g, x < y ∧ s = (nI y, mz_sL N 268 g) ∧ ∀ k, g k = f k + sL (fun y => if x < y then flg e W k x y else 0) y) ?_ ?_ (show x + 1 ≤ pl_n e from hx) ⟨f, Nat.lt_succ_self x, rfl, fun k => by rw [sL_z, Int64.add_zero]⟩
  · rintro y s hy ⟨g, hxy, rfl, hg⟩
    have l : nI y < nI (pl_n e) := (nI_ltI (by omega) (by omega)).mpr hy
    have iy : mz_ib (nI y) 40 := ib_n (by omega) (by omega)
    have eb : (4 : Int32) * (40 * nI x + nI y) = nI (4 * (40 * x + y)) := by rw [show (40 : Int32) = nI 40 from rfl, show (4 : Int32) = nI 4 from rfl, pk_mul, nI_add, pk_mul]
    have e1 : nI (4 * (40 * x + y)) + 1 = nI (4 * (40 * x + y) + 1) := nI_1 _
    have e2 : nI (4 * (40 * x + y)) + 2 = nI (4 * (40 * x + y) + 2) := nI_add _ 2
    have e3 : nI (4 * (40 * x + y)) + 3 = nI (4 * (40 * x + y) + 3) := nI_add _ 3
    have g0 : mz_gI (mz_sL N 268 g) 239 (nI (4 * (40 * x + y))) = nI (pl_bt e 0 x y) := by rw [gI_a, sL_1, nI_clamp (by omega)]; exact p39 x y 0 hx hy (by omega)
    have g1 : mz_gI (mz_sL N 268 g) 239 (nI (4 * (40 * x + y) + 1)) = nI (pl_bt e 1 x y) := by rw [gI_a, sL_1, nI_clamp (by omega)]; exact p39 x y 1 hx hy (by omega)
    have g2 : mz_gI (mz_sL N 268 g) 239 (nI (4 * (40 * x + y) + 2)) = nI (pl_bt e 2 x y) := by rw [gI_a, sL_1, nI_clamp (by omega)]; exact p39 x y 2 hx hy (by omega)
    have g3 : mz_gI (mz_sL N 268 g) 239 (nI (4 * (40 * x + y) + 3)) = nI (pl_bt e 3 x y) := by rw [gI_a, sL_1, nI_clamp (by omega)]; exact p39 x y 3 hx hy (by omega)
    have hW := pl_W_lt e x y
    have eW : (3 * nI (pl_bt e 1 x y) + nI (pl_bt e 2 x y) + 5 * nI (pl_bt e 3 x y) + nI (pl_bt e 0 x y)).toInt64 = lN (pl_W e x y) := by
      rw [show (3 : Int32) = nI 3 from rfl, show (5 : Int32) = nI 5 from rfl, pk_mul, pk_mul, nI_add, nI_add, nI_add, pl_W_bt h4 (by omega), nI_L (by omega)]
    have g9y : mz_gL (mz_sL N 268 g) 269 (nI y) = W y := by rw [gL_a, sL_n (by decide), nI_clamp (by omega)]; exact h69 y hy
    have eq : ((W x - W y) * lN (pl_W e x y)) / 10 = flq e W x y := rfl
    have j0 : mz_ib (nI (4 * (40 * x + y))) 6400 := ib_n (by omega) (by omega)
    have j1 : mz_ib (nI (4 * (40 * x + y) + 1)) 6400 := ib_n (by omega) (by omega)
    have j2 : mz_ib (nI (4 * (40 * x + y) + 2)) 6400 := ib_n (by omega) (by omega)
    have j3 : mz_ib (nI (4 * (40 * x + y) + 3)) 6400 := ib_n (by omega) (by omega)
    rw [cd_524_68, cq_524_68]
    simp only [sL_1, p7, l, if_true, eb, e1, e2, e3, g0, g1, g2, g3, eW, g9x, g9y, eq, gx, wx]
    refine ⟨⟨fun _ => ⟨j1, j2, j3, j0, ix, iy, ix, ix, iy, iy, trivial⟩, fun z => absurd trivial z⟩, Or.inl ⟨_, rfl, fun k => g k + flg e W k x y, by omega, ?_, fun k => ?_⟩⟩
    · rw [nI_1]
      refine Prod.ext rfl ?_
      show mz_wL _ _ _ _ = _
      rw [wL_s, sL_e, sL_sL, gL_a, sL_e, nI_clamp (by omega)]
      exact congrArg (mz_sL N 268) (funext fun k => two_up (show x ≠ y by omega) k)
    · show g k + flg e W k x y = _
      rw [hg k, sL, if_pos hxy, Int64.add_assoc]
  · rintro s ⟨g, hxy, rfl, hg⟩
    have l : ¬ nI (pl_n e) < nI (pl_n e) := fun q => by have := (nI_ltI (by omega) (by omega)).mp q; omega
    have hl := (pl_lc_ok hx).1
    have g36 : mz_gI (mz_sL N 268 g) 236 (nI x) = nI (pl_lc e x) := by rw [gI_a, sL_1, nI_clamp (by omega)]; exact (p36 x hx).1
    have g37 : mz_gI (mz_sL N 268 g) 237 (nI x) = nI (pl_sz e x) := by rw [gI_a, sL_1, nI_clamp (by omega)]; exact (p36 x hx).2
    have g40 : mz_gI (mz_sL N 268 g) 240 (nI x) = nI (pl_hv e x) := by rw [gI_a, sL_1, nI_clamp (by omega)]; exact (p40 x hx).1
    have g41 : mz_gI (mz_sL N 268 g) 241 (nI x) = nI (pl_gl e x) := by rw [gI_a, sL_1, nI_clamp (by omega)]; exact (p40 x hx).2
    have g45 : (mz_gI (mz_sL N 268 g) 245 (nI hr)).toInt64 = ou := by rw [gI_a, sL_1, nI_clamp (by omega)]; exact h45
    have hls := pl_ls_le (e := e) (k := x)
    have go : ∀ s0 : Int32, s0 = nI (cnt (pl_tpp e x) 240) → cp_524_202 s0 (nI hr) (nI x) (mz_sL N 268 g) ∧ ∃ f', cf_524_202 s0 (nI hr) (nI x) (mz_sL N 268 g) = .inl (nI (x + 1), mz_sL N 268 f') ∧ ∀ k, f' k = f k + sL (fun y => if x < y then flg e W k x y else 0) (pl_n e) - (if k = x then lss e W ou k else 0) := fun s0 h0 => by
      have el : (nI (pl_hv e x) + 4 * nI (pl_gl e x) + s0).toInt64 = lN (pl_ls e x) := by
        rw [h0, show (4 : Int32) = nI 4 from rfl, pk_mul, nI_add, nI_add, show pl_hv e x + 4 * pl_gl e x + cnt (pl_tpp e x) 240 = pl_ls e x from rfl, nI_L (by omega)]
      have eq : ((W x - ou) * lN (pl_ls e x)) / 10 = lss e W ou x := rfl
      rw [cp_524_202, cf_524_202, g40, g41, g45, g9x, gx, el, eq, wx]
      refine ⟨⟨ix, ix, ib_n hhr (by omega), ix2, ix2, ix, trivial⟩, vp_updL g x (g x - lss e W ou x), ?_, fun k => ?_⟩
      · rw [cf_524_249, nI_1]
      · rw [upL_a]
        by_cases z : k = x
        · rw [if_pos z, if_pos z, ← hg k, z]
        · rw [if_neg z, if_neg z, Int64.sub_zero, hg k]
    rw [cd_524_68, cq_524_68]
    simp only [sL_1, p7, l, if_false, g36, g37]
    by_cases w : pl_lc e x < 192
    · have w2 : nI (pl_lc e x) < 192 := (nI_ltI (b := 192) (by omega) (by omega)).mpr w
      obtain ⟨q1, f', q2, q3⟩ := go 0 (by rw [pl_tp hx, if_pos w]; rfl)
      simp only [w2, if_true]
      exact ⟨⟨False.elim, fun _ => ⟨ix2, fun _ => q1, fun z => absurd trivial z⟩⟩, _, rfl, f', q2, q3⟩
    · have w2 : ¬ nI (pl_lc e x) < 192 := fun z => w ((nI_ltI (b := 192) (by omega) (by omega)).mp z)
      obtain ⟨q1, f', q2, q3⟩ := go (nI (pl_sz e x)) (by rw [pl_tp hx, if_neg w])
      simp only [w2, if_false]
      exact ⟨⟨False.elim, fun _ => ⟨ix2, False.elim, fun _ => ⟨ix2, q1⟩⟩⟩, _, rfl, f', q2, q3⟩
theorem flw_r (hn : pl_n e ≤ 40) (h4 : ∀ i, i < 550 → e i < 4) (hp : r_pl e fl N) (hhr : hr < 24) (h45 : (N.1 245 hr).toInt64 = ou) (h69 : ∀ k, k < pl_n e → N.2 269 k = W k)
    (hΦ : ∀ f, (∀ k, k < pl_n e → f k = f0 k + prr e W k - lss e W ou k) → cp_524_257 (nI hr) 0 (mz_sL N 268 f) ∧ Φ (cf_524_257 (nI hr) 0 (mz_sL N 268 f))) :
    cp_524_56 (nI hr) 0 (mz_sL N 268 f0) ∧ Φ (cf_524_56 (nI hr) 0 (mz_sL N 268 f0)) := by
  rw [cp_524_56, cf_524_56]
  refine mz_lpn (f := cq_524_56 (nI hr)) (P := cd_524_56 (nI hr)) (Q := Φ) (pl_n e) (fun x s => ∃ f, s = (nI x, mz_sL N 268 f) ∧ ∀ k, f k = f0 k + sL (fun x => sL (fun y => if x < y then flg e W k x y else 0) (pl_n e)) x - (if k < x then lss e W ou k else 0)) ?_ ?_ (Nat.zero_le _) ⟨f0, rfl, fun k => by rw [if_neg (Nat.not_lt_zero _), Int64.sub_zero]; exact (Int64.add_zero _).symm⟩
  · rintro x s hx ⟨f, rfl, hf⟩
    have l : nI x < nI (pl_n e) := (nI_ltI (by omega) (by omega)).mpr hx
    obtain ⟨r1, f', r2, r3⟩ := row_r (f := f) (W := W) (ou := ou) hn h4 hx hp hhr h45 h69
    rw [cd_524_56, cq_524_56]
    simp only [sL_1, hp.1, l, if_true, nI_1, r2]
    refine ⟨⟨fun _ => r1, fun z => absurd trivial z⟩, Or.inl ⟨_, rfl, f', rfl, fun k => ?_⟩⟩
    rw [r3 k, hf k, sL, i64_a, Int64.add_assoc]
    by_cases z : k = x
    · rw [if_neg (show ¬ k < x by omega), if_pos z, if_pos (show k < x + 1 by omega), Int64.sub_zero]
    · rw [if_neg z, Int64.sub_zero]
      by_cases y : k < x
      · rw [if_pos y, if_pos (by omega)]
      · rw [if_neg y, if_neg (by omega)]
  · rintro s ⟨f, rfl, hf⟩
    have l : ¬ nI (pl_n e) < nI (pl_n e) := fun q => by have := (nI_ltI (by omega) (by omega)).mp q; omega
    obtain ⟨p, q⟩ := hΦ f (fun k hk => by rw [hf k, if_pos hk]; rfl)
    rw [cd_524_56, cq_524_56]
    simp only [sL_1, hp.1, l, if_false]
    exact ⟨⟨False.elim, fun _ => p⟩, _, rfl, q⟩
theorem wm_r (hn : pl_n e ≤ 40) (hp : r_pl e fl N)
    (hΦ : ∀ w, (∀ k, k < pl_n e → w k = wmv e (N.2 268) k) → cp_524_56 (nI hr) 0 (mz_sL N 269 w) ∧ Φ (cf_524_56 (nI hr) 0 (mz_sL N 269 w))) :
    cp_524_14 (nI hr) 0 N ∧ Φ (cf_524_14 (nI hr) 0 N) := by
  rw [cp_524_14, cf_524_14]
  refine mz_lpn (f := cq_524_14 (nI hr)) (P := cd_524_14 (nI hr)) (Q := Φ) (pl_n e) (fun x s => ∃ w, s = (nI x, mz_sL N 269 w) ∧ ∀ k, k < x → w k = wmv e (N.2 268) k) ?_ ?_ (Nat.zero_le _) ⟨N.2 269, by rw [sL_same]; rfl, fun k hk => absurd hk (Nat.not_lt_zero _)⟩
  · rintro x s hx ⟨w, rfl, hw⟩
    have l : nI x < nI (pl_n e) := (nI_ltI (by omega) (by omega)).mpr hx
    have hz := pl_sz_le hx
    have hz1 := pl_some hx
    have g37 : mz_gI (mz_sL N 269 w) 237 (nI x) = nI (pl_sz e x) := by rw [gI_a, sL_1, nI_clamp (by omega)]; exact (hp.2.2.1 x hx).2
    have g68 : mz_gL (mz_sL N 269 w) 268 (nI x) = N.2 268 x := by rw [gL_a, sL_n (by decide), nI_clamp (by omega)]
    have e1 : (100 : Int64) * (nI (pl_sz e x)).toInt64 = lN (100 * pl_sz e x) := by rw [nI_L (by omega), show (100 : Int64) = lN 100 from rfl, lN_mul]
    have ix : mz_ib (nI x) 40 := ib_n (by omega) (by omega)
    rw [cd_524_14, cq_524_14]
    simp only [sL_1, hp.1, l, if_true, g37, g68, e1]
    refine ⟨⟨fun _ => ⟨ix, ib_n (by omega) (by omega), by_p (by omega) (by omega), ix, trivial⟩, fun z => absurd trivial z⟩, Or.inl ⟨_, rfl, vp_updL w x (wmv e (N.2 268) x), ?_, fun k hk => ?_⟩⟩
    · rw [nI_1, wL_s, sL_e, sL_sL, nI_clamp (by omega)]; rfl
    · rw [upL_a]
      by_cases z : k = x
      · rw [if_pos z, z]
      · rw [if_neg z]; exact hw k (by omega)
  · rintro s ⟨w, rfl, hw⟩
    have l : ¬ nI (pl_n e) < nI (pl_n e) := fun q => by have := (nI_ltI (by omega) (by omega)).mp q; omega
    obtain ⟨p, q⟩ := hΦ w hw
    rw [cd_524_14, cq_524_14]
    simp only [sL_1, hp.1, l, if_false]
    exact ⟨⟨False.elim, fun _ => p⟩, _, rfl, q⟩
def plR : List Nat := [235, 236, 237, 239, 240, 241, 242, 243]
theorem rpl_cg {K : mz_N} (h7 : K.1 232 7 = N.1 232 7) (h : ∀ c, plR.contains c = true → K.1 c = N.1 c) (hp : r_pl e fl N) : r_pl e fl K := by
  obtain ⟨p7, p35, p36, p40, p39, p42⟩ := hp
  exact ⟨h7.trans p7, by rw [h 235 rfl]; exact p35, by rw [h 236 rfl, h 237 rfl]; exact p36, by rw [h 240 rfl, h 241 rfl]; exact p40, by rw [h 239 rfl]; exact p39, by rw [h 242 rfl, h 243 rfl]; exact p42⟩
variable {G : Nat → Int32} {st ra q0 : Nat} {m : Nat → Nat} {T0 T1 : Nat → Int64} {lv on fit : Bool}
/-- the end of the reference's warm: boiler, then spread -/
theorem end_r (hn : pl_n e ≤ 40) (hp : r_pl e fl N) (h34 : ∀ c, c < 240 → N.1 234 c = nI (fl c)) (hfl : ∀ c, c < 240 → fl c < 16) (hG : ∀ j, j < 10 → N.1 257 j = G j) (hra : N.1 232 21 = nI ra) (hra2 : ra < 2 ^ 31) (h62 : N.1 232 62 = nI st) (hst : st ≤ 20000) (hm : ∀ j, j < 11 → N.2 321 j = lN (m j)) (hq : N.2 232 124 = lN q0) (hT : ∀ k, k < pl_n e → N.2 268 k = T1 k)
    (hlv : N.1 276 10 = mz_b01 lv) (hfit : N.1 307 0 = nI (b1 (!fit))) (hon : on = (decide (¬ N.1 257 11 = 0) && lv && fit)) :
    (cp_527_0 N ∧ cp_530_0 268 40 260 (cf_527_0 N)) ∧ ∃ K, cf_530_0 268 40 260 (cf_527_0 N) = K ∧ fq [232, 238] [232, 260, 268, 270, 271, 321, 328] N K ∧ (∀ c, c < 240 → K.2 260 c = spd e (ht2 e fl T1 G on st ra) c) ∧ (∀ k, k < pl_n e → K.2 268 k = ht2 e fl T1 G on st ra k) ∧ (∀ j, j < 11 → K.2 321 j = lN (m j + ba e fl (bs2 e fl T1 G on st ra) j)) ∧ (K.1 232 62 = nI (st + bs2 e fl T1 G on st ra (pl_n e)) ∧ ∀ j, j ≠ 62 → K.1 232 j = N.1 232 j) ∧ K.2 232 66 = lN (bv2 e fl T1 G on st ra) ∧ K.2 232 124 = lN (q0 + (11 * bv2 e fl T1 G on st ra + 9) / 10) ∧ ∀ j, j ≠ 66 → j ≠ 124 → K.2 232 j = N.2 232 j := by
  have key : cp_527_0 N ∧ ∃ K, cf_527_0 N = K ∧ fq [232] [232, 268, 270, 271, 321, 328] N K ∧ (∀ k, k < pl_n e → K.2 268 k = ht2 e fl T1 G on st ra k) ∧ (∀ j, j < 11 → K.2 321 j = lN (m j + ba e fl (bs2 e fl T1 G on st ra) j)) ∧ (K.1 232 62 = nI (st + bs2 e fl T1 G on st ra (pl_n e)) ∧ ∀ j, j ≠ 62 → K.1 232 j = N.1 232 j) ∧ K.2 232 66 = lN (bv2 e fl T1 G on st ra) ∧ K.2 232 124 = lN (q0 + (11 * bv2 e fl T1 G on st ra + 9) / 10) ∧ ∀ j, j ≠ 66 → j ≠ 124 → K.2 232 j = N.2 232 j := by
    have e57 : mz_gI (mz_pL N 232 66 0) 257 11 = N.1 257 11 := rfl
    have z1 : mz_z01 (mz_gI (mz_pL N 232 66 0) 276 10) := by
      show mz_z01 (N.1 276 10)
      rw [hlv]; cases lv
      · exact Or.inl rfl
      · exact Or.inr rfl
    have e76 : mz_gZ (mz_pL N 232 66 0) 276 10 = lv := by
      show decide (N.1 276 10 = 1) = lv
      rw [hlv]; cases lv <;> rfl
    have z2 : mz_z01 (mz_gI (mz_pL N 232 66 0) 307 0) := by
      show mz_z01 (N.1 307 0)
      rw [hfit]; exact z01_b _
    have e07 : mz_gZ (mz_pL N 232 66 0) 307 0 = !fit := by
      show decide (N.1 307 0 = 1) = !fit
      rw [hfit]; cases fit <;> rfl
    have m66 : ∀ j, (mz_pL N 232 66 0).2 232 j = if j = 66 then 0 else N.2 232 j := fun j => rfl
    have mc : ∀ c, c ≠ 232 → (mz_pL N 232 66 0).2 c = N.2 c := fun c hc => by rw [pL_s, sL_n hc]
    have off : on = false → ∃ K, mz_pL N 232 66 0 = K ∧ fq [232] [232, 268, 270, 271, 321, 328] N K ∧ (∀ k, k < pl_n e → K.2 268 k = ht2 e fl T1 G on st ra k) ∧ (∀ j, j < 11 → K.2 321 j = lN (m j + ba e fl (bs2 e fl T1 G on st ra) j)) ∧ (K.1 232 62 = nI (st + bs2 e fl T1 G on st ra (pl_n e)) ∧ ∀ j, j ≠ 62 → K.1 232 j = N.1 232 j) ∧ K.2 232 66 = lN (bv2 e fl T1 G on st ra) ∧ K.2 232 124 = lN (q0 + (11 * bv2 e fl T1 G on st ra + 9) / 10) ∧ ∀ j, j ≠ 66 → j ≠ 124 → K.2 232 j = N.2 232 j := fun ho => by
      have e2 : ht2 e fl T1 G on st ra = T1 := funext fun k => by rw [ht2, ho]; rfl
      have e3 : bs2 e fl T1 G on st ra = fun _ => 0 := funext fun k => by rw [bs2, ho]; rfl
      have e4 : bv2 e fl T1 G on st ra = 0 := by rw [bv2, ho]; rfl
      rw [e2, e3, e4]
      refine ⟨_, rfl, fq_pL (fq_refl _ _ _) rfl, fun k hk => hT k hk, fun j hj => ?_, ⟨?_, fun j _ => rfl⟩, rfl, ?_, fun j h1 _ => ?_⟩
      · rw [mc 321 (by decide), ba_0, Nat.add_zero]; exact hm j hj
      · rw [Nat.add_zero]; exact h62
      · rw [m66, if_neg (by decide)]; exact hq
      · rw [m66, if_neg h1]
    rw [cp_527_0, cf_527_0, e57, e76, e07]
    by_cases g11 : N.1 257 11 = 0
    · rw [if_pos g11]
      exact ⟨⟨fun _ => trivial, fun z => absurd g11 z⟩, off (by rw [hon, decide_eq_false (fun z => z g11)]; rfl)⟩
    · rw [if_neg g11]
      have d1 : decide (¬ N.1 257 11 = 0) = true := decide_eq_true g11
      cases hl : lv with
      | false =>
        rw [if_neg (by decide)]
        exact ⟨⟨fun z => absurd z g11, fun _ => ⟨z1, (fun z => by cases z), fun _ => trivial⟩⟩, off (by rw [hon, hl, d1]; rfl)⟩
      | true =>
        rw [if_pos rfl]
        cases hf : fit with
        | false =>
          rw [if_pos (show (!false) = true from rfl)]
          exact ⟨⟨fun z => absurd z g11, fun _ => ⟨z1, fun _ => ⟨z2, fun _ => trivial, fun z => absurd rfl z⟩, fun z => absurd rfl z⟩⟩, off (by rw [hon, hl, d1, hf]; rfl)⟩
        | true =>
          have ho : on = true := by rw [hon, hl, d1, hf]; rfl
          rw [if_neg (show ¬ (!true) = true by decide)]
          obtain ⟨b1', K, b2, b3, b4, b5, b6, b7, b8, b9⟩ := bo1_r (N := mz_pL N 232 66 0) (e := e) (fl := fl) (T := T1) (G := G) (st := st) (ra := ra) (q0 := q0) (m := m) hn hp.1 h34 hfl hp.2.2.1 hG hra hra2 h62 hst hm (by rw [m66, if_neg (by decide)]; exact hq) hT
          have e3 : bs2 e fl T1 G on st ra = bs e fl T1 G st ra := funext fun k => by rw [bs2, if_pos ho]
          have e4 : bv2 e fl T1 G on st ra = bv e fl T1 G st ra := by rw [bv2, if_pos ho]
          rw [e3, e4]
          refine ⟨⟨fun z => absurd z g11, fun _ => ⟨z1, fun _ => ⟨z2, (fun z => by cases z), fun _ => b1'⟩, fun z => absurd rfl z⟩⟩, K, b2, fq_trans (fq_pL (fq_refl _ _ _) rfl) b3, fun k hk => by rw [b4 k hk, ht2, if_pos ho], b5, b6, b7, b8, fun j h1 h2 => by rw [b9 j h1 h2, m66, if_neg h1]⟩
  obtain ⟨k1, K, k2, k3, k4, k5, ⟨k6, k6'⟩, k7, k8, k9⟩ := key
  have hpK : r_pl e fl K := rpl_cg (k6' 7 (by decide)) (fun c hc => k3.1 c (by
    have h1 : c ≠ 232 := fun z => by rw [z] at hc; cases hc
    simpa using h1)) hp
  obtain ⟨s1, g, q, s2', s3⟩ := spr_r (N := K) (a1 := 268) (n1 := 40) (a2 := 260) (by decide) hn (by omega) hpK.1 hpK.2.1 (fun k hk => (hpK.2.2.1 k hk).2)
  rw [k2]
  refine ⟨⟨k1, s1⟩, _, s2', ?_, fun c hc => ?_, k4, fun j hj => k5 j hj, ⟨k6, k6'⟩, k7, k8, k9⟩
  · refine ⟨fun c hc => ?_, fun c hc => ?_⟩
    · have h1 : c ≠ 232 := fun z => by rw [z] at hc; cases hc
      have h2 : c ≠ 238 := fun z => by rw [z] at hc; cases hc
      show (if c = 238 then q else K.1 c) = N.1 c
      rw [if_neg h2]
      exact k3.1 c (by simpa using h1)
    · have h1 : c ≠ 260 := fun z => by rw [z] at hc; cases hc
      show (if c = 260 then g else K.2 c) = N.2 c
      rw [if_neg h1]
      refine k3.2 c ?_
      have h2 : c ≠ 232 := fun z => by rw [z] at hc; cases hc
      have h3 : c ≠ 268 := fun z => by rw [z] at hc; cases hc
      have h4 : c ≠ 270 := fun z => by rw [z] at hc; cases hc
      have h5 : c ≠ 271 := fun z => by rw [z] at hc; cases hc
      have h6 : c ≠ 321 := fun z => by rw [z] at hc; cases hc
      have h7 : c ≠ 328 := fun z => by rw [z] at hc; cases hc
      simp [h2, h3, h4, h5, h6, h7]
  · show g c = _
    rw [s3 c hc]
    have hl := pl_lab_lt (e := e) hc
    rw [spd, spd, spi, spi, spq, spq, k4 _ hl]
theorem warm_r (hn : pl_n e ≤ 40) (h33 : ∀ i, i < 550 → N.1 233 i = nI (e i) ∧ e i < 4) (hp : r_pl e fl N) (h34 : ∀ c, c < 240 → N.1 234 c = nI (fl c)) (hfl : ∀ c, c < 240 → fl c < 16) (hhr : hr < 24) (h46 : ∀ d, d < 4 → N.1 246 (24 * d + hr) / 10 = nI (S d)) (hS : ∀ d, S d ≤ 30) (h45 : (N.1 245 hr).toInt64 = ou)
    (h44 : ∀ j, j < 240 → N.1 244 j = nI (P j)) (hP : ∀ j, P j ≤ 20) (h72 : ∀ j, j < 11 → N.1 272 j = nI (L j)) (hL : ∀ j, j < 11 → L j ≤ 2000)
    (hG : ∀ j, j < 10 → N.1 257 j = G j) (hra : N.1 232 21 = nI ra) (hra2 : ra < 2 ^ 31) (h62 : N.1 232 62 = nI st) (hst : st ≤ 20000) (hm : ∀ j, j < 11 → N.2 321 j = lN (m j)) (hq : N.2 232 124 = lN q0)
    (hlv : N.1 276 10 = mz_b01 lv) (hfit : N.1 307 0 = nI (b1 (!fit))) (hon : on = (decide (¬ N.1 257 11 = 0) && lv && fit)) (hT0 : T0 = ts e (N.2 260)) (hT1 : T1 = het e fl T0 (wmv e T0) ou S (fun j => 8 * pnt e fl P hr j + 3 * L j)) :
    cp_524_0 (nI hr) N ∧ ∃ K, cf_524_0 (nI hr) N = K ∧ fq [232, 238] [232, 260, 268, 269, 270, 271, 321, 328] N K ∧ (∀ c, c < 240 → K.2 260 c = spd e (ht2 e fl T1 G on st ra) c) ∧ (∀ k, k < pl_n e → K.2 268 k = ht2 e fl T1 G on st ra k) ∧ (∀ j, j < 11 → K.2 321 j = lN (m j + ba e fl (bs2 e fl T1 G on st ra) j)) ∧ (K.1 232 62 = nI (st + bs2 e fl T1 G on st ra (pl_n e)) ∧ ∀ j, j ≠ 62 → K.1 232 j = N.1 232 j) ∧ K.2 232 66 = lN (bv2 e fl T1 G on st ra) ∧ K.2 232 124 = lN (q0 + (11 * bv2 e fl T1 G on st ra + 9) / 10) ∧ ∀ j, j ≠ 66 → j ≠ 124 → K.2 232 j = N.2 232 j := by
  obtain ⟨a1, f0, a2, a3⟩ := gat_r (N := N) (a1 := 260) (a2 := 268) (n2 := 40) hp.1 hp.2.1 hn (by omega) (by decide)
  have main : ∀ Φ : mz_N → Prop, (∀ w f3, (∀ k, k < pl_n e → f3 k = T1 k) → (cp_527_0 (mz_sL (mz_sL N 269 w) 268 f3) ∧ cp_530_0 268 40 260 (cf_527_0 (mz_sL (mz_sL N 269 w) 268 f3))) ∧ Φ (cf_530_0 268 40 260 (cf_527_0 (mz_sL (mz_sL N 269 w) 268 f3)))) → cp_524_0 (nI hr) N ∧ Φ (cf_524_0 (nI hr) N) := fun Φ hΦ => by
    rw [cp_524_0, cf_524_0, a2]
    refine (fun (h : _ ∧ _) => ⟨⟨a1, h.1⟩, h.2⟩) (wm_r (N := mz_sL N 268 f0) (hr := hr) (Φ := Φ) hn hp (fun w hw => ?_))
    have hw' : ∀ k, k < pl_n e → w k = wmv e T0 k := fun k hk => by
      rw [hw k hk, sL_e, wmv, wmv, a3 k hk, hT0]
    have ec : mz_sL (mz_sL N 268 f0) 269 w = mz_sL (mz_sL N 269 w) 268 f0 := by
      refine mz_ext (fun c => rfl) (fun c => ?_)
      rw [sL_2, sL_2, sL_2, sL_2]
      by_cases z : c = 269
      · rw [if_pos z, if_neg (by omega), if_pos z]
      · rw [if_neg z, if_neg z]
    rw [ec]
    refine flw_r (N := mz_sL N 269 w) (Φ := Φ) (f0 := f0) (W := wmv e T0) (ou := ou) hn (fun i hi => (h33 i hi).2) hp hhr h45 (fun k hk => by rw [sL_e]; exact hw' k hk) (fun f1 hf1 => ?_)
    refine sun_r (N := mz_sL N 269 w) (Φ := Φ) (f0 := f1) hn h33 hp.2.1 hhr h46 hS (fun f2 hf2 => ?_)
    refine hea_r (N := mz_sL N 269 w) (Φ := Φ) (f0 := f2) (P := P) (L := L) hn (fun j hj => (hp.2.2.2.2.2 j hj).1) h44 hP h72 hL hhr (fun f3 hf3 => ?_)
    refine hΦ w f3 (fun k hk => ?_)
    rw [hf3 k hk, hf2 k hk, hf1 k hk, a3 k hk, hT1, ← hT0]; rfl
  refine main (fun t => ∃ K, t = K ∧ fq [232, 238] [232, 260, 268, 269, 270, 271, 321, 328] N K ∧ (∀ c, c < 240 → K.2 260 c = spd e (ht2 e fl T1 G on st ra) c) ∧ (∀ k, k < pl_n e → K.2 268 k = ht2 e fl T1 G on st ra k) ∧ (∀ j, j < 11 → K.2 321 j = lN (m j + ba e fl (bs2 e fl T1 G on st ra) j)) ∧ (K.1 232 62 = nI (st + bs2 e fl T1 G on st ra (pl_n e)) ∧ ∀ j, j ≠ 62 → K.1 232 j = N.1 232 j) ∧ K.2 232 66 = lN (bv2 e fl T1 G on st ra) ∧ K.2 232 124 = lN (q0 + (11 * bv2 e fl T1 G on st ra + 9) / 10) ∧ ∀ j, j ≠ 66 → j ≠ 124 → K.2 232 j = N.2 232 j) (fun w f3 h3 => ?_)
  obtain ⟨b1', K, b2, b3, b4⟩ := end_r (N := mz_sL (mz_sL N 269 w) 268 f3) (e := e) (fl := fl) (T1 := T1) (G := G) (st := st) (ra := ra) (q0 := q0) (m := m) (lv := lv) (fit := fit) (on := on) hn hp h34 hfl hG hra hra2 h62 hst hm hq (fun k hk => by rw [sL_e]; exact h3 k hk) hlv hfit hon
  refine ⟨b1', K, b2, ⟨fun c hc => b3.1 c hc, fun c hc => ?_⟩, b4⟩
  have h1 : c ≠ 269 := fun z => by rw [z] at hc; cases hc
  have h2 : c ≠ 268 := fun z => by rw [z] at hc; cases hc
  rw [b3.2 c, sL_n h2, sL_n h1]
  have h3 : c ≠ 232 := fun z => by rw [z] at hc; cases hc
  have h4 : c ≠ 260 := fun z => by rw [z] at hc; cases hc
  have h5 : c ≠ 270 := fun z => by rw [z] at hc; cases hc
  have h6 : c ≠ 271 := fun z => by rw [z] at hc; cases hc
  have h7 : c ≠ 321 := fun z => by rw [z] at hc; cases hc
  have h8 : c ≠ 328 := fun z => by rw [z] at hc; cases hc
  simp [h2, h3, h4, h5, h6, h7, h8]
end War2
