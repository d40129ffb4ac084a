/-! PURE (50zz): a step of the reference's program. -/
def rm (N : mz_N) (f : Nat → Int32) (g : Nat → Int64) : mz_N := mz_sL (mz_sI N 257 f) 259 g
section Dne
variable {N : mz_N} {f : Nat → Int32} {g : Nat → Int64} {s : List Int} {T : Nat → Int} {x : Nat × Nat} {S : List (Nat × Nat)}
theorem rm_1 {c : Nat} (h : c ≠ 257) : (rm N f g).1 c = N.1 c := by unfold rm; rw [sL_1, sI_n h]
theorem rm_t : (rm N f g).1 257 = f := by unfold rm; rw [sL_1, sI_e]
theorem rm_p : (rm N f g).2 259 = g := by unfold rm; rw [sL_e]
theorem rm_2 {c : Nat} (h : c ≠ 259) : (rm N f g).2 c = N.2 c := by unfold rm; rw [sL_n h, sI_2]
theorem rm_wL {i : Int32} {v : Int64} : mz_wL (rm N f g) 259 i v = rm N f (vp_updL g i.toNatClampNeg v) := by rw [wL_s, rm_p]; unfold rm; rw [sL_sL]
theorem rm_wI {i v : Int32} : mz_wI (rm N f g) 257 i v = rm N (upd f i.toNatClampNeg v) g := by
  rw [wI_s, rm_t]
  unfold rm
  show mz_sL (mz_sI (mz_sI N 257 f) 257 _) 259 g = _
  rw [sI_sI]
/-- the names that the reference has -/
def rnm (N : mz_N) (f : Nat → Int32) (T : Nat → Int) : Prop := (∀ j, j < 16 → f j = iI (T j)) ∧ ∀ j, 16 ≤ j → j < 53 → N.2 258 j = iL (T j)
theorem tell_r {k : Nat} {v : Int} (hk : k < 16) (hv : bn v) : cp_517_0 (nI k) (iL v) (rm N f g) ∧ cf_517_0 (nI k) (iL v) (rm N f g) = rm N (upd f k (iI (tlv k v))) g := by
  unfold bn at hv
  have i1 : mz_ib (nI k) 16 := ib_n (by omega) (by omega)
  rw [cp_517_0, cf_517_0]
  refine ⟨⟨fun _ => ⟨fun _ => i1, fun _ => ⟨fun _ => i1, fun _ => i1⟩⟩, fun _ => ⟨fun _ => ⟨fun _ => i1, fun _ => ⟨fun _ => i1, fun _ => i1⟩⟩, fun _ => ⟨fun _ => i1, fun _ => i1⟩⟩⟩, ?_⟩
  unfold tlv
  by_cases w1 : k < 10
  · rw [if_pos (show nI k < 10 from (nI_ltI (b := 10) (by omega) (by omega)).mpr w1), if_pos w1]
    by_cases a : v < 50
    · rw [if_pos (show iL v < 50 from (iL_lt (b := 50) (by omega) (by omega)).mpr a), if_pos a, cf_517_40, rm_wI, nI_clamp (by omega)]; rfl
    · rw [if_neg (show ¬ iL v < 50 from fun q => a ((iL_lt (b := 50) (by omega) (by omega)).mp q)), if_neg a]
      by_cases c : 300 < v
      · rw [if_pos (show 300 < iL v from (iL_lt (a := 300) (by omega) (by omega)).mpr c), if_pos c, cf_517_40, rm_wI, nI_clamp (by omega)]; rfl
      · rw [if_neg (show ¬ 300 < iL v from fun q => c ((iL_lt (a := 300) (by omega) (by omega)).mp q)), if_neg c, cf_517_40, rm_wI, nI_clamp (by omega), iL_I]
  · rw [if_neg (show ¬ nI k < 10 from fun q => w1 ((nI_ltI (b := 10) (by omega) (by omega)).mp q)), if_neg w1]
    by_cases w2 : k = 13
    · rw [if_pos (show nI k = 13 by rw [w2]; rfl), if_pos w2]
      by_cases a : v < 0
      · rw [if_pos (show iL v < 0 from (iL_lt (b := 0) (by omega) (by omega)).mpr a), if_pos a, cf_517_80, rm_wI, nI_clamp (by omega)]; rfl
      · rw [if_neg (show ¬ iL v < 0 from fun q => a ((iL_lt (b := 0) (by omega) (by omega)).mp q)), if_neg a]
        by_cases c : 9 < v
        · rw [if_pos (show 9 < iL v from (iL_lt (a := 9) (by omega) (by omega)).mpr c), if_pos c, cf_517_80, rm_wI, nI_clamp (by omega)]; rfl
        · rw [if_neg (show ¬ 9 < iL v from fun q => c ((iL_lt (a := 9) (by omega) (by omega)).mp q)), if_neg c, cf_517_80, rm_wI, nI_clamp (by omega), iL_I]
    · rw [if_neg (show ¬ nI k = 13 from fun q => w2 ((nI_eq (b := 13) (by omega) (by omega)).mp q)), if_neg w2]
      by_cases a : v = 0
      · rw [if_pos (show iL v = 0 by rw [a]; rfl), if_pos a, cf_517_100, rm_wI, nI_clamp (by omega)]; rfl
      · rw [if_neg (show ¬ iL v = 0 from fun q => a ((iL_eq (b := 0) (by omega) (by omega)).mp q)), if_neg a, cf_517_100, rm_wI, nI_clamp (by omega)]; rfl
theorem rm_g {k : Nat} (hk : k < 200) : mz_gL (rm N f g) 259 (nI k) = g k := by rw [gL_a, rm_p, nI_clamp (by omega)]
/-- the two upper values -/
theorem dn_up {c v : Int32} (hl : s.length < 196) (hs : stj g s) (P : Prop) (r : mz_N) (h : ∀ a b : Int64, (∀ v0 s', s = v0 :: s' → a = iL v0) → (∀ v0 v1 s', s = v0 :: v1 :: s' → b = iL v1) → cp_514_35 b c v (nI s.length) a (rm N f g) ∧ cf_514_35 b c v (nI s.length) a (rm N f g) = r) : cp_514_0 c v (nI s.length) (rm N f g) ∧ cf_514_0 c v (nI s.length) (rm N f g) = r := by
  rw [cp_514_0, cf_514_0]
  cases s with
  | nil =>
    have l0 : ¬ (0 : Int32) < nI 0 := by decide
    have l1 : ¬ (1 : Int32) < nI 0 := by decide
    obtain ⟨a1, a2⟩ := h 0 0 (fun v0 s' e => by cases e) (fun v0 v1 s' e => by cases e)
    show ((0 < nI 0 → _) ∧ (¬ 0 < nI 0 → cp_514_16 0 c v (nI 0) (rm N f g))) ∧ (if 0 < nI 0 then _ else cf_514_16 0 c v (nI 0) (rm N f g)) = r
    rw [if_neg l0, cp_514_16, cf_514_16, if_neg l1]
    exact ⟨⟨fun q => absurd q l0, fun _ => ⟨fun q => absurd q l1, fun _ => a1⟩⟩, a2⟩
  | cons v0 s =>
    have hl' : s.length + 1 < 196 := hl
    have l0 : (0 : Int32) < nI (s.length + 1) := (nI_gt0 (by omega)).mpr (by omega)
    have g0 : mz_gL (rm N f g) 259 (nI (s.length + 1) - 1) = iL v0 := by rw [nIs1, rm_g (by omega)]; exact hs.1
    have i0 : mz_ib (nI (s.length + 1) - 1) 200 := by rw [nIs1]; exact ib_n (by omega) (by omega)
    show ((0 < nI (s.length + 1) → mz_ib (nI (s.length + 1) - 1) 200 ∧ cp_514_16 (mz_gL (rm N f g) 259 (nI (s.length + 1) - 1)) c v (nI (s.length + 1)) (rm N f g)) ∧ _) ∧ (if 0 < nI (s.length + 1) then cf_514_16 (mz_gL (rm N f g) 259 (nI (s.length + 1) - 1)) c v (nI (s.length + 1)) (rm N f g) else _) = r
    rw [if_pos l0, g0, cp_514_16, cf_514_16]
    cases s with
    | nil =>
      have l1 : ¬ (1 : Int32) < nI 1 := by decide
      obtain ⟨a1, a2⟩ := h (iL v0) 0 (fun v1 s' e => by cases e; rfl) (fun v0 v1 s' e => by cases e)
      show ((0 < nI 1 → mz_ib (nI 1 - 1) 200 ∧ (1 < nI 1 → _) ∧ (¬ 1 < nI 1 → cp_514_35 0 c v (nI 1) (iL v0) (rm N f g))) ∧ _) ∧ (if 1 < nI 1 then _ else cf_514_35 0 c v (nI 1) (iL v0) (rm N f g)) = r
      rw [if_neg l1]
      exact ⟨⟨fun _ => ⟨i0, fun q => absurd q l1, fun _ => a1⟩, fun q => absurd l0 q⟩, a2⟩
    | cons v1 s =>
      have hl2 : s.length + 2 < 196 := hl
      have l1 : (1 : Int32) < nI (s.length + 2) := (nI_ltI (a := 1) (by omega) (by omega)).mpr (by omega)
      have g1 : mz_gL (rm N f g) 259 (nI (s.length + 2) - 2) = iL v1 := by rw [nIs2, rm_g (by omega)]; exact hs.2.1
      have i1 : mz_ib (nI (s.length + 2) - 2) 200 := by rw [nIs2]; exact ib_n (by omega) (by omega)
      obtain ⟨a1, a2⟩ := h (iL v0) (iL v1) (fun v1 s' e => by cases e; rfl) (fun v0 v1 s' e => by cases e; rfl)
      show ((0 < nI (s.length + 2) → mz_ib (nI (s.length + 2) - 1) 200 ∧ (1 < nI (s.length + 2) → mz_ib (nI (s.length + 2) - 2) 200 ∧ cp_514_35 (mz_gL (rm N f g) 259 (nI (s.length + 2) - 2)) c v (nI (s.length + 2)) (iL v0) (rm N f g)) ∧ _) ∧ _) ∧ (if 1 < nI (s.length + 2) then cf_514_35 (mz_gL (rm N f g) 259 (nI (s.length + 2) - 2)) c v (nI (s.length + 2)) (iL v0) (rm N f g) else _) = r
      rw [if_pos l1, g1]
      exact ⟨⟨fun _ => ⟨i0, fun _ => ⟨i1, a1⟩, fun q => absurd l1 q⟩, fun q => absurd l0 q⟩, a2⟩
theorem step_r (hx : xok x s.length) (h2 : x.1 ≠ 2) (hl : s.length < 196) (hs : stj g s) (hb : ∀ v, v ∈ s → bn v) (hTb : ∀ j, j < 53 → bn (T j)) (hf : rnm N f T) : cp_514_0 (nI (rz x.1)) (nI x.2) (nI s.length) (rm N f g) ∧ (∃ g', cf_514_0 (nI (rz x.1)) (nI x.2) (nI s.length) (rm N f g) = rm N f g' ∧ stj g' (ex1 x (s, T)).1) ∧ (ex1 x (s, T)).2 = T ∧ nI s.length + cf_516_0 (nI (rz x.1)) = nI (ex1 x (s, T)).1.length := by
  obtain ⟨c, v⟩ := x
  have hx' : (c = 0 ∧ v < 1000000) ∨ (c = 1 ∧ v < 53) ∨ (c = 2 ∧ v < 16 ∧ s.length = 1) ∨ (c = 3 ∧ 1 ≤ s.length) ∨ (c = 63 ∧ 3 ≤ s.length) ∨ (isop c ∧ 2 ≤ s.length) := hx
  have fin : ∀ g' : Nat → Int64, stj g' (ex1 (c, v) (s, T)).1 → (ex1 (c, v) (s, T)).2 = T → nI s.length + cf_516_0 (nI (rz c)) = nI (ex1 (c, v) (s, T)).1.length → (∀ a b : Int64, (∀ v0 s', s = v0 :: s' → a = iL v0) → (∀ v0 v1 s', s = v0 :: v1 :: s' → b = iL v1) → cp_514_35 b (nI (rz c)) (nI v) (nI s.length) a (rm N f g) ∧ cf_514_35 b (nI (rz c)) (nI v) (nI s.length) a (rm N f g) = rm N f g') → cp_514_0 (nI (rz c)) (nI v) (nI s.length) (rm N f g) ∧ (∃ g', cf_514_0 (nI (rz c)) (nI v) (nI s.length) (rm N f g) = rm N f g' ∧ stj g' (ex1 (c, v) (s, T)).1) ∧ (ex1 (c, v) (s, T)).2 = T ∧ nI s.length + cf_516_0 (nI (rz c)) = nI (ex1 (c, v) (s, T)).1.length := fun g' a b d h => by
    obtain ⟨z1, z2⟩ := dn_up hl hs True (rm N f g') h
    exact ⟨z1, ⟨g', z2, a⟩, b, d⟩
  have i1 : mz_ib (nI s.length) 200 := ib_n (by omega) (by omega)
  rcases hx' with ⟨rfl, d⟩ | ⟨rfl, d⟩ | ⟨rfl, d, e⟩ | ⟨rfl, d⟩ | ⟨rfl, d⟩ | ⟨d, e⟩
  · refine fin (vp_updL g s.length (iL v)) ⟨by rw [upL_a]; exact if_pos rfl, stj_up (Nat.le_refl _) hs⟩ rfl (nI_1 _) (fun a b _ _ => ?_)
    rw [cp_514_35, cf_514_35, if_pos (show nI (rz 0) = 0 from rfl), rm_wL, nI_clamp (by omega), nI_L (by omega), iL_n]
    exact ⟨⟨fun _ => i1, fun q => absurd (show nI (rz 0) = 0 from rfl) q⟩, rfl⟩
  · refine fin (vp_updL g s.length (iL (T v))) ⟨by rw [upL_a]; exact if_pos rfl, stj_up (Nat.le_refl _) hs⟩ rfl (nI_1 _) (fun a b _ _ => ?_)
    rw [cp_514_35, cf_514_35, if_neg (show ¬ nI (rz 1) = 0 by decide), if_pos (show nI (rz 1) = 1 from rfl)]
    refine ⟨⟨fun q => absurd q (show ¬ nI (rz 1) = 0 by decide), fun _ => ⟨fun _ => ⟨fun q => ⟨ib_n ((nI_ltI (b := 16) (by omega) (by omega)).mp q) (by omega), i1⟩, fun _ => ⟨ib_n (by omega) (by omega), i1⟩⟩, fun q => absurd (show nI (rz 1) = 1 from rfl) q⟩⟩, ?_⟩
    by_cases w : v < 16
    · have hT := hf.1 v w
      have hbT : -2147483648 ≤ T v ∧ T v ≤ 2147483647 := by have := hTb v d; unfold bn at this; omega
      rw [if_pos (show nI v < 16 from (nI_ltI (b := 16) (by omega) (by omega)).mpr w), cf_514_150, rm_wL, nI_clamp (by omega), gI_a, rm_t, nI_clamp (by omega), hT, iI_L hbT]
    · rw [if_neg (show ¬ nI v < 16 from fun q => w ((nI_ltI (b := 16) (by omega) (by omega)).mp q)), cf_514_150, rm_wL, nI_clamp (by omega), gL_a, rm_2 (by decide), nI_clamp (by omega), hf.2 v (by omega) d]
  · exact absurd rfl h2
  · cases s with
    | nil => exact absurd d (by decide)
    | cons v0 s =>
      have hl' : s.length + 1 < 196 := hl
      have hb0 := hb v0 (List.mem_cons_self)
      have hb0' := hb0
      unfold bn at hb0'
      refine fin (vp_updL g s.length (iL (-v0))) ⟨by rw [upL_a]; exact if_pos rfl, stj_up (Nat.le_refl _) hs.2⟩ rfl (Int32.add_zero _) (fun a b ha _ => ?_)
      rw [ha v0 s rfl, cp_514_35, cf_514_35, if_neg (show ¬ nI (rz 3) = 0 by decide), if_neg (show ¬ nI (rz 3) = 1 by decide), if_pos (show nI (rz 3) = 2 from rfl), iL_neg, fit_r (by omega), lim_id (by unfold bn; omega), rm_wL]
      show ((_ → _) ∧ (_ → (_ → _) ∧ (_ → (_ → mz_ib (nI (s.length + 1) - 1) 200) ∧ _))) ∧ rm N f (vp_updL g (nI (s.length + 1) - 1).toNatClampNeg (iL (-v0))) = _
      rw [nIs1, nI_clamp (by omega)]
      exact ⟨⟨fun q => absurd q (show ¬ nI (rz 3) = 0 by decide), fun _ => ⟨fun q => absurd q (show ¬ nI (rz 3) = 1 by decide), fun _ => ⟨fun _ => ib_n (by omega) (by omega), fun q => absurd (show nI (rz 3) = 2 from rfl) q⟩⟩⟩, rfl⟩
  · cases s with
    | nil => exact absurd d (by decide)
    | cons v0 s =>
      cases s with
      | nil => exact absurd (show 3 ≤ 1 from d) (by decide)
      | cons v1 s =>
        cases s with
        | nil => exact absurd (show 3 ≤ 2 from d) (by decide)
        | cons v2 s =>
          have hl' : s.length + 3 < 196 := hl
          have hb2 := hb v2 (by simp)
          unfold bn at hb2
          have g2 : mz_gL (rm N f g) 259 (nI (s.length + 3) - 3) = iL v2 := by rw [nIs3, rm_g (by omega)]; exact hs.2.2.1
          have i3 : mz_ib (nI (s.length + 3) - 3) 200 := by rw [nIs3]; exact ib_n (by omega) (by omega)
          refine fin (vp_updL g s.length (iL (if v2 = 0 then v0 else v1))) ⟨by rw [upL_a]; exact if_pos rfl, stj_up (Nat.le_refl _) hs.2.2.2⟩ rfl ?_ (fun a b ha hb' => ?_)
          · show nI (s.length + 3) + (-2) = nI (s.length + 1)
            have : nI (s.length + 3) - 2 = nI (s.length + 1) := nIs2 (s.length + 1)
            rw [← this, Int32.sub_eq_add_neg]
          · rw [ha v0 _ rfl, hb' v0 v1 _ rfl, cp_514_35, cf_514_35, if_neg (show ¬ nI (rz 63) = 0 by decide), if_neg (show ¬ nI (rz 63) = 1 by decide), if_neg (show ¬ nI (rz 63) = 2 by decide), if_pos (show nI (rz 63) = 3 from rfl)]
            refine ⟨⟨fun q => absurd q (show ¬ nI (rz 63) = 0 by decide), fun _ => ⟨fun q => absurd q (show ¬ nI (rz 63) = 1 by decide), fun _ => ⟨fun q => absurd q (show ¬ nI (rz 63) = 2 by decide), fun _ => ⟨fun _ => ⟨i3, fun _ => i3, fun _ => i3⟩, fun q => absurd (show nI (rz 63) = 3 from rfl) q⟩⟩⟩⟩, ?_⟩
            show (if mz_gL (rm N f g) 259 (nI (s.length + 3) - 3) = 0 then cf_514_198 (nI (s.length + 3) - 3) (iL v0) (rm N f g) else cf_514_198 (nI (s.length + 3) - 3) (iL v1) (rm N f g)) = _
            rw [g2]
            by_cases w : v2 = 0
            · rw [if_pos (show iL v2 = 0 by rw [w]; rfl), if_pos w, cf_514_198, rm_wL, nIs3, nI_clamp (by omega)]
            · rw [if_neg (show ¬ iL v2 = 0 from fun q => w ((iL_eq (b := 0) (by omega) (by omega)).mp q)), if_neg w, cf_514_198, rm_wL, nIs3, nI_clamp (by omega)]
  · cases s with
    | nil => exact absurd (show 2 ≤ 0 from e) (by decide)
    | cons v0 s =>
      cases s with
      | nil => exact absurd (show 2 ≤ 1 from e) (by decide)
      | cons v1 s =>
        have hl' : s.length + 2 < 196 := hl
        have d' := d
        unfold isop at d'
        have erz : rz c = c := by unfold rz; rw [if_neg (by omega), if_neg (by omega)]
        have hb0 := hb v0 (by simp)
        have hb1 := hb v1 (by simp)
        have hm := mul_bn hb1 hb0
        unfold bn at hb0 hb1
        have i2 : mz_ib (nI (s.length + 2) - 2) 200 := by rw [nIs2]; exact ib_n (by omega) (by omega)
        have c0 : ¬ c = 0 := by omega
        have c1 : ¬ c = 1 := by omega
        have c2 : ¬ c = 2 := by omega
        have c3 : ¬ c = 3 := by omega
        have c63 : ¬ c = 63 := by omega
        have ex : ex1 (c, v) (v0 :: v1 :: s, T) = (binv c v1 v0 :: s, T) := by
          unfold ex1
          simp only [c0, c1, c2, c3, c63, if_false]
          rfl
        have hcl : cf_516_0 (nI c) = -1 := by rcases d' with rfl | rfl | rfl | rfl | rfl <;> decide +kernel
        rw [ex] at fin
        rw [ex]
        refine fin (vp_updL g s.length (iL (binv c v1 v0))) ⟨by rw [upL_a, if_pos rfl], stj_up (Nat.le_refl _) hs.2.2⟩ rfl ?_ (fun a b ha hb' => ?_)
        · rw [erz, hcl]
          show nI (s.length + 2) + (-1) = nI (s.length + 1)
          exact pk_m1 (s.length + 1)
        · rw [erz, ha v0 _ rfl, hb' v0 v1 _ rfl, cp_514_35, cf_514_35]
          have cN : ∀ k, k < 100 → (nI c = nI k ↔ c = k) := fun k hk => nI_eq (by omega) (by omega)
          have n0 : ¬ nI c = 0 := fun q => c0 ((cN 0 (by omega)).mp q)
          have n1 : ¬ nI c = 1 := fun q => c1 ((cN 1 (by omega)).mp q)
          have n2 : ¬ nI c = 2 := fun q => c2 ((cN 2 (by omega)).mp q)
          have n3 : ¬ nI c = 3 := fun q => c3 ((cN 3 (by omega)).mp q)
          rw [if_neg n0, if_neg n1, if_neg n2, if_neg n3]
          refine ⟨⟨fun q => absurd q n0, fun _ => ⟨fun q => absurd q n1, fun _ => ⟨fun q => absurd q n2, fun _ => ⟨fun q => absurd q n3, fun _ => ⟨fun _ => i2, fun _ => ⟨fun _ => i2, fun _ => ⟨fun _ => i2, fun _ => ⟨fun _ => ⟨fun _ => i2, fun _ => i2⟩, fun _ => ⟨fun _ => i2, fun _ => i2⟩⟩⟩⟩⟩⟩⟩⟩⟩, ?_⟩
          show (if nI c = 42 then mz_wL (rm N f g) 259 (nI (s.length + 2) - 2) (cf_515_0 (iL v1 * iL v0)) else if nI c = 43 then mz_wL (rm N f g) 259 (nI (s.length + 2) - 2) (cf_515_0 (iL v1 + iL v0)) else if nI c = 45 then mz_wL (rm N f g) 259 (nI (s.length + 2) - 2) (cf_515_0 (iL v1 - iL v0)) else if nI c = 60 then (if iL v1 < iL v0 then cf_514_279 (nI (s.length + 2) - 2) 1 (rm N f g) else cf_514_279 (nI (s.length + 2) - 2) 0 (rm N f g)) else if iL v0 < iL v1 then cf_514_303 (nI (s.length + 2) - 2) 1 (rm N f g) else cf_514_303 (nI (s.length + 2) - 2) 0 (rm N f g)) = _
          rw [nIs2]
          rcases d' with rfl | rfl | rfl | rfl | rfl
          · rw [if_pos (show nI 42 = 42 from rfl), iL_mul, fit_r (by omega), rm_wL, nI_clamp (by omega), binv_1]
          · rw [if_neg (show ¬ nI 43 = 42 by decide), if_pos (show nI 43 = 43 from rfl), iL_add, fit_r (by omega), rm_wL, nI_clamp (by omega), binv_2]
          · rw [if_neg (show ¬ nI 45 = 42 by decide), if_neg (show ¬ nI 45 = 43 by decide), if_pos (show nI 45 = 45 from rfl), iL_sub, fit_r (by omega), rm_wL, nI_clamp (by omega), binv_3]
          · rw [if_neg (show ¬ nI 60 = 42 by decide), if_neg (show ¬ nI 60 = 43 by decide), if_neg (show ¬ nI 60 = 45 by decide), if_pos (show nI 60 = 60 from rfl), binv_4]
            by_cases w : v1 < v0
            · rw [if_pos ((iL_lt (by omega) (by omega)).mpr w), if_pos w, cf_514_279, rm_wL, nI_clamp (by omega)]; rfl
            · rw [if_neg (fun q => w ((iL_lt (by omega) (by omega)).mp q)), if_neg w, cf_514_279, rm_wL, nI_clamp (by omega)]; rfl
          · rw [if_neg (show ¬ nI 62 = 42 by decide), if_neg (show ¬ nI 62 = 43 by decide), if_neg (show ¬ nI 62 = 45 by decide), if_neg (show ¬ nI 62 = 60 by decide), binv_5]
            by_cases w : v0 < v1
            · rw [if_pos ((iL_lt (by omega) (by omega)).mpr w), if_pos w, cf_514_303, rm_wL, nI_clamp (by omega)]; rfl
            · rw [if_neg (fun q => w ((iL_lt (by omega) (by omega)).mp q)), if_neg w, cf_514_303, rm_wL, nI_clamp (by omega)]; rfl
end Dne
