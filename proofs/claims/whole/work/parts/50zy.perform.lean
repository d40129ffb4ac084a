/-! PURE (50zy): the class performs its program. -/
def cm (N : mz_N) (f g : Nat → Int32) : mz_N := mz_sI (mz_sI N 53 f) 54 g
/-- a step finds its operands -/
def xok (x : Nat × Nat) (d : Nat) : Prop := (x.1 = 0 ∧ x.2 < 1000000) ∨ (x.1 = 1 ∧ x.2 < 53) ∨ (x.1 = 2 ∧ x.2 < 16 ∧ d = 1) ∨ (x.1 = 3 ∧ 1 ≤ d) ∨ (x.1 = 63 ∧ 3 ≤ d) ∨ (isop x.1 ∧ 2 ≤ d)
section Pfm
variable {N : mz_N} {f g : Nat → Int32} {s : List Int} {T : Nat → Int} {x : Nat × Nat} {b : Bool} {S : List (Nat × Nat)}
theorem cm_3 : (cm N f g).1 53 = f := by unfold cm; rw [sI_n (by decide), sI_e]
theorem cm_4 : (cm N f g).1 54 = g := by unfold cm; rw [sI_e]
theorem cm_n {c : Nat} (h : c ≠ 53) (h2 : c ≠ 54) : (cm N f g).1 c = N.1 c := by unfold cm; rw [sI_n h2, sI_n h]
theorem cm_w4 {i v : Int32} : mz_wI (cm N f g) 54 i v = cm N f (upd g i.toNatClampNeg v) := by rw [wI_s, cm_4]; unfold cm; rw [sI_sI]
theorem cm_w3 {i v : Int32} : mz_wI (cm N f g) 53 i v = cm N (upd f i.toNatClampNeg v) g := by rw [wI_s, cm_3]; unfold cm; rw [sI_com (a := 54) (by decide), sI_sI]
theorem nIs2 (k : Nat) : nI (k + 2) - 2 = nI k := by rw [show (2 : Int32) = nI 2 from rfl, pk_sub (by omega), Nat.add_sub_cancel]
theorem nIs3 (k : Nat) : nI (k + 3) - 3 = nI k := by rw [show (3 : Int32) = nI 3 from rfl, pk_sub (by omega), Nat.add_sub_cancel]
theorem imx {a b : Int} (ha : -2147483648 ≤ a ∧ a ≤ 2147483647) (hb : -2147483648 ≤ b ∧ b ≤ 2147483647) : mz_imax (iI a) (iI b) = iI (if a < b then b else a) := by
  unfold mz_imax
  by_cases w : a < b
  · rw [if_pos ((iI_lt ha hb).mpr w), if_pos w]
  · rw [if_neg (fun q => w ((iI_lt ha hb).mp q)), if_neg w]
theorem imn {a b : Int} (ha : -2147483648 ≤ a ∧ a ≤ 2147483647) (hb : -2147483648 ≤ b ∧ b ≤ 2147483647) : mz_imin (iI a) (iI b) = iI (if b < a then b else a) := by
  unfold mz_imin
  by_cases w : b < a
  · rw [if_pos ((iI_lt hb ha).mpr w), if_pos w]
  · rw [if_neg (fun q => w ((iI_lt hb ha).mp q)), if_neg w]
theorem tell_c {k : Nat} {v : Int} (hk : k < 16) (hv : bn v) : cp_215_0 (nI k) (iI v) (cm N f g) ∧ cf_215_0 (nI k) (iI v) (cm N f g) = cm N (upd f k (iI (tlv k v))) g := by
  unfold bn at hv
  have i1 : mz_ib (nI k) 53 := ib_n (by omega) (by omega)
  rw [cp_215_0, cf_215_0]
  refine ⟨⟨fun _ => i1, fun _ => ⟨fun _ => i1, fun _ => ⟨fun _ => i1, fun _ => i1⟩⟩⟩, ?_⟩
  unfold tlv
  by_cases w1 : k < 10
  · rw [if_pos (show nI k < 10 from (nI_ltI (b := 10) (by omega) (by omega)).mpr w1), if_pos w1, cm_w3, nI_clamp (by omega), show (50 : Int32) = iI 50 from rfl, show (300 : Int32) = iI 300 from rfl, imn (by omega) (by omega), imx (by omega) (by split <;> omega)]
    congr 3
    by_cases a : v < 50
    · rw [if_pos (show v < 300 by omega), if_neg (by omega), if_pos a]
    · rw [if_neg a]
      by_cases c : 300 < v
      · rw [if_neg (show ¬ v < 300 by omega), if_pos (by omega), if_pos c]
      · rw [if_neg c]
        by_cases d : v < 300
        · rw [if_pos d]; split <;> omega
        · rw [if_neg d]; split <;> omega
  · rw [if_neg (show ¬ nI k < 10 from fun q => w1 ((nI_ltI (b := 10) (by omega) (by omega)).mp q)), if_neg w1]
    by_cases w2 : k = 13
    · rw [if_pos (show nI k = 13 by rw [w2]; rfl), if_pos w2, cm_w3, nI_clamp (by omega), show (0 : Int32) = iI 0 from rfl, show (9 : Int32) = iI 9 from rfl, imn (by omega) (by omega), imx (by omega) (by split <;> omega)]
      congr 3
      by_cases a : v < 0
      · rw [if_pos (show v < 9 by omega), if_neg (by omega), if_pos a]
      · rw [if_neg a]
        by_cases c : 9 < v
        · rw [if_neg (show ¬ v < 9 by omega), if_pos (by omega), if_pos c]
        · rw [if_neg c]
          by_cases d : v < 9
          · rw [if_pos d]; split <;> omega
          · rw [if_neg d]; split <;> omega
    · rw [if_neg (show ¬ nI k = 13 from fun q => w2 ((nI_eq (b := 13) (by omega) (by omega)).mp q)), if_neg w2]
      by_cases a : v = 0
      · rw [if_pos (show iI v = 0 by rw [a]; rfl), if_pos a, cf_215_66, cm_w3, nI_clamp (by omega)]; rfl
      · rw [if_neg (show ¬ iI v = 0 from fun q => a ((iI_eq (b := 0) (by omega) (by omega)).mp q)), if_neg a, cf_215_66, cm_w3, nI_clamp (by omega)]; rfl
theorem mul_bn {a b : Int} (ha : bn a) (hb : bn b) : -1000000000000000000 ≤ a * b ∧ a * b ≤ 1000000000000000000 := by
  unfold bn at ha hb
  have h1 : a.natAbs ≤ 1000000000 := by omega
  have h2 : b.natAbs ≤ 1000000000 := by omega
  have h3 : (a * b).natAbs ≤ 1000000000 * 1000000000 := by rw [Int.natAbs_mul]; exact Nat.mul_le_mul h1 h2
  omega
theorem binv_1 {a b : Int} : binv 42 a b = lim (a * b) := by unfold binv; rw [if_pos rfl]
theorem binv_2 {a b : Int} : binv 43 a b = lim (a + b) := by unfold binv; rw [if_neg (show ¬ (43 : Nat) = 42 by decide), if_pos rfl]
theorem binv_3 {a b : Int} : binv 45 a b = lim (a - b) := by unfold binv; rw [if_neg (show ¬ (45 : Nat) = 42 by decide), if_neg (show ¬ (45 : Nat) = 43 by decide), if_pos rfl]
theorem binv_4 {a b : Int} : binv 60 a b = if a < b then 1 else 0 := by unfold binv; rw [if_neg (show ¬ (60 : Nat) = 42 by decide), if_neg (show ¬ (60 : Nat) = 43 by decide), if_neg (show ¬ (60 : Nat) = 45 by decide), if_pos rfl]
theorem binv_5 {a b : Int} : binv 62 a b = if b < a then 1 else 0 := by unfold binv; rw [if_neg (show ¬ (62 : Nat) = 42 by decide), if_neg (show ¬ (62 : Nat) = 43 by decide), if_neg (show ¬ (62 : Nat) = 45 by decide), if_neg (show ¬ (62 : Nat) = 60 by decide)]
theorem rck_c {c : Nat} {a b : Int} (hc : isop c) (ha : bn a) (hb : bn b) : cf_217_0 (nI c) (iI a) (iI b) = iI (binv c a b) := by
  have hm := mul_bn ha hb
  unfold bn at ha hb
  have ea : (iI a).toInt64 = iL a := iI_L (by omega)
  have eb : (iI b).toInt64 = iL b := iI_L (by omega)
  rw [cf_217_0, ea, eb]
  unfold isop at hc
  rcases hc with rfl | rfl | rfl | rfl | rfl
  · rw [if_pos (show nI 42 = 42 from rfl), iL_mul, lim_c (by omega), binv_1]
  · rw [if_neg (show ¬ nI 43 = 42 by decide), if_pos (show nI 43 = 43 from rfl), iL_add, lim_c (by omega), binv_2]
  · rw [if_neg (show ¬ nI 45 = 42 by decide), if_neg (show ¬ nI 45 = 43 by decide), if_pos (show nI 45 = 45 from rfl), iL_sub, lim_c (by omega), binv_3]
  · rw [if_neg (show ¬ nI 60 = 42 by decide), if_neg (show ¬ nI 60 = 43 by decide), if_neg (show ¬ nI 60 = 45 by decide), if_pos (show nI 60 = 60 from rfl), binv_4]
    by_cases w : a < b
    · rw [if_pos ((iI_lt (by omega) (by omega)).mpr w), if_pos w]; rfl
    · rw [if_neg (fun q => w ((iI_lt (by omega) (by omega)).mp q)), if_neg w]; rfl
  · rw [if_neg (show ¬ nI 62 = 42 by decide), if_neg (show ¬ nI 62 = 43 by decide), if_neg (show ¬ nI 62 = 45 by decide), if_neg (show ¬ nI 62 = 60 by decide), binv_5]
    by_cases w : b < a
    · rw [if_pos ((iI_lt (by omega) (by omega)).mpr w), if_pos w]; rfl
    · rw [if_neg (fun q => w ((iI_lt (by omega) (by omega)).mp q)), if_neg w]; rfl
theorem step_c (hx : xok x s.length) (hl : s.length < 196) (hs : sti g s) (hb : ∀ v, v ∈ s → bn v) (hf : ∀ j, j < 53 → f j = iI (T j)) : cp_214_0 (nI x.1) (nI x.2) (nI s.length) (cm N f g) ∧ ∃ f' g', cf_214_0 (nI x.1) (nI x.2) (nI s.length) (cm N f g) = (nI (ex1 x (s, T)).1.length, cm N f' g') ∧ sti g' (ex1 x (s, T)).1 ∧ ∀ j, j < 53 → f' j = iI ((ex1 x (s, T)).2 j) := by
  obtain ⟨c, v⟩ := x
  have hx' : (c = 0 ∧ v < 1000000) ∨ (c = 1 ∧ v < 53) ∨ (c = 2 ∧ v < 16 ∧ s.length = 1) ∨ (c = 3 ∧ 1 ≤ s.length) ∨ (c = 63 ∧ 3 ≤ s.length) ∨ (isop c ∧ 2 ≤ s.length) := hx
  rw [cp_214_0, cf_214_0]
  simp only
  rcases hx' with ⟨rfl, d⟩ | ⟨rfl, d⟩ | ⟨rfl, d, e⟩ | ⟨rfl, d⟩ | ⟨rfl, d⟩ | ⟨d, e⟩
  · have l : nI s.length < 196 := (nI_ltI (b := 196) (by omega) (by omega)).mpr hl
    have i1 : mz_ib (nI s.length) 196 := ib_n (by omega) (by omega)
    refine ⟨⟨fun _ => ⟨fun _ => ⟨fun _ => i1, fun q => absurd (show nI 0 = 0 from rfl) q⟩, fun _ => trivial⟩, fun q => absurd (show nI 0 = 0 from rfl) q⟩, ?_⟩
    rw [if_pos (show nI 0 = 0 from rfl), cf_214_9, if_pos l, if_pos (show nI 0 = 0 from rfl), cf_214_35, cm_w4, nI_clamp (by omega), nI_1]
    exact ⟨f, _, rfl, ⟨by rw [up_a, if_pos rfl]; exact iI_n v, sti_up (Nat.le_refl _) hs⟩, hf⟩
  · have l : nI s.length < 196 := (nI_ltI (b := 196) (by omega) (by omega)).mpr hl
    have i1 : mz_ib (nI s.length) 196 := ib_n (by omega) (by omega)
    have i2 : mz_ib (nI v) 53 := ib_n (by omega) (by omega)
    have n0 : ¬ nI 1 = 0 := by decide
    refine ⟨⟨fun q => absurd q n0, fun _ => ⟨fun _ => ⟨fun _ => ⟨fun q => absurd q n0, fun _ => ⟨i2, i1⟩⟩, fun _ => trivial⟩, fun q => absurd (show nI 1 = 1 from rfl) q⟩⟩, ?_⟩
    rw [if_neg n0, if_pos (show nI 1 = 1 from rfl), cf_214_9, if_pos l, if_neg n0, cf_214_35, cm_w4, nI_clamp (by omega), nI_1, gI_a, cm_3, nI_clamp (show v < 2 ^ 31 by omega), hf v d]
    exact ⟨f, _, rfl, ⟨by rw [up_a]; exact if_pos rfl, sti_up (Nat.le_refl _) hs⟩, hf⟩
  · cases s with
    | nil => exact absurd e (by decide)
    | cons v0 s =>
      have e' : s.length + 1 = 1 := e
      have e0 : s = [] := List.length_eq_zero_iff.mp (by omega)
      subst e0
      have hb0 := hb v0 (List.mem_cons_self)
      obtain ⟨t1, t2⟩ := tell_c (N := N) (f := f) (g := g) d hb0
      have g0 : mz_gI (cm N f g) 54 (nI 1 - 1) = iI v0 := by rw [gI_a, cm_4]; exact hs.1
      refine ⟨⟨fun q => absurd q (show ¬ nI 2 = 0 by decide), fun _ => ⟨fun q => absurd q (show ¬ nI 2 = 1 by decide), fun _ => ⟨fun _ => trivial, fun _ => ⟨fun _ => trivial, fun _ => ⟨fun _ => ⟨by rw [show nI ([v0] : List Int).length - 1 = nI 0 from nIs1 0]; exact ib_n (by omega) (by omega), ?_⟩, fun q => absurd (show nI 2 = 2 from rfl) q⟩⟩⟩⟩⟩, upd f v (iI (tlv v v0)), g, ?_, trivial, fun j hj => ?_⟩
      · show cp_215_0 (nI v) (mz_gI (cm N f g) 54 (nI 1 - 1)) (cm N f g)
        rw [g0]; exact t1
      · show (if nI 2 = 0 then _ else if nI 2 = 1 then _ else if nI 1 < 1 then _ else if 196 < nI 1 then _ else if nI 2 = 2 then (nI 1 - 1, cf_215_0 (nI v) (mz_gI (cm N f g) 54 (nI 1 - 1)) (cm N f g)) else _) = _
        rw [if_neg (show ¬ nI 2 = 0 by decide), if_neg (show ¬ nI 2 = 1 by decide), if_neg (show ¬ nI 1 < 1 by decide), if_neg (show ¬ 196 < nI 1 by decide), if_pos (show nI 2 = 2 from rfl), g0, t2, show nI 1 - 1 = nI 0 from nIs1 0]
        rfl
      · show upd f v (iI (tlv v v0)) j = iI (up T v (tlv v v0) j)
        rw [up_a]
        unfold up
        by_cases w : j = v
        · rw [if_pos w, if_pos w]
        · rw [if_neg w, if_neg w]; exact hf j hj
  · cases s with
    | nil => exact absurd d (by decide)
    | cons v0 s =>
      have hl' : s.length + 1 < 196 := hl
      have l1 : ¬ nI (s.length + 1) < 1 := fun q => by have := (nI_ltI (b := 1) (by omega) (by omega)).mp q; omega
      have l2 : ¬ 196 < nI (s.length + 1) := fun q => by have := (nI_ltI (a := 196) (by omega) (by omega)).mp q; omega
      have i1 : mz_ib (nI s.length) 196 := ib_n (by omega) (by omega)
      have g0 : mz_gI (cm N f g) 54 (nI s.length) = iI v0 := by rw [gI_a, cm_4, nI_clamp (by omega)]; exact hs.1
      refine ⟨⟨fun q => absurd q (show ¬ nI 3 = 0 by decide), fun _ => ⟨fun q => absurd q (show ¬ nI 3 = 1 by decide), fun _ => ⟨fun _ => trivial, fun _ => ⟨fun _ => trivial, fun _ => ⟨fun q => absurd q (show ¬ nI 3 = 2 by decide), fun _ => ⟨fun _ => ?_, fun q => absurd (show nI 3 = 3 from rfl) q⟩⟩⟩⟩⟩⟩, f, upd g s.length (iI (-v0)), ?_, ⟨by rw [up_a]; exact if_pos rfl, sti_up (Nat.le_refl _) hs.2⟩, hf⟩
      rotate_left
      · show (if nI 3 = 0 then _ else if nI 3 = 1 then _ else if nI (s.length + 1) < 1 then _ else if 196 < nI (s.length + 1) then _ else if nI 3 = 2 then _ else if nI 3 = 3 then (nI (s.length + 1), mz_wI (cm N f g) 54 (nI (s.length + 1) - 1) (-(mz_gI (cm N f g) 54 (nI (s.length + 1) - 1)))) else _) = _
        rw [if_neg (show ¬ nI 3 = 0 by decide), if_neg (show ¬ nI 3 = 1 by decide), if_neg l1, if_neg l2, if_neg (show ¬ nI 3 = 2 by decide), if_pos (show nI 3 = 3 from rfl), nIs1, g0, cm_w4, nI_clamp (by omega), iI_neg]
        rfl
      show mz_ib (nI (s.length + 1) - 1) 196 ∧ mz_ib (nI (s.length + 1) - 1) 196
      rw [nIs1]; exact ⟨i1, i1⟩
  · cases s with
    | nil => exact absurd d (by decide)
    | cons v0 s =>
      cases s with
      | nil => exact absurd (show 3 ≤ 1 from d) (by decide)
      | cons v1 s =>
        cases s with
        | nil => exact absurd (show 3 ≤ 2 from d) (by decide)
        | cons v2 s =>
          have hl' : s.length + 3 < 196 := hl
          have l1 : ¬ nI (s.length + 3) < 1 := fun q => by have := (nI_ltI (b := 1) (by omega) (by omega)).mp q; omega
          have l3 : ¬ nI (s.length + 3) < 3 := fun q => by have := (nI_ltI (b := 3) (by omega) (by omega)).mp q; omega
          have l2 : ¬ 196 < nI (s.length + 3) := fun q => by have := (nI_ltI (a := 196) (by omega) (by omega)).mp q; omega
          have hb2 := hb v2 (by simp)
          unfold bn at hb2
          have g0 : mz_gI (cm N f g) 54 (nI (s.length + 2)) = iI v0 := by rw [gI_a, cm_4, nI_clamp (by omega)]; exact hs.1
          have g1 : mz_gI (cm N f g) 54 (nI (s.length + 1)) = iI v1 := by rw [gI_a, cm_4, nI_clamp (by omega)]; exact hs.2.1
          have g2 : mz_gI (cm N f g) 54 (nI s.length) = iI v2 := by rw [gI_a, cm_4, nI_clamp (by omega)]; exact hs.2.2.1
          have e1 : nI (s.length + 3) - 1 = nI (s.length + 2) := nIs1 (s.length + 2)
          have e2 : nI (s.length + 3) - 2 = nI (s.length + 1) := nIs2 (s.length + 1)
          have key : cp_216_0 (nI (s.length + 3)) (cm N f g) ∧ cf_216_0 (nI (s.length + 3)) (cm N f g) = (nI (s.length + 1), cm N f (upd g s.length (iI (if v2 = 0 then v0 else v1)))) := by
            rw [cp_216_0, cf_216_0, if_neg l3, nIs3, e1, e2, g0, g1, g2]
            have i0 : mz_ib (nI s.length) 196 := ib_n (by omega) (by omega)
            have i1 : mz_ib (nI (s.length + 1)) 196 := ib_n (by omega) (by omega)
            have i2 : mz_ib (nI (s.length + 2)) 196 := ib_n (by omega) (by omega)
            refine ⟨⟨fun _ => trivial, fun _ => ⟨i0, fun _ => ⟨i2, i0⟩, fun _ => ⟨i1, i0⟩⟩⟩, ?_⟩
            by_cases w : v2 = 0
            · rw [if_pos (show iI v2 = 0 by rw [w]; rfl), if_pos w, cf_216_44, cm_w4, nI_clamp (by omega), e2]
            · rw [if_neg (show ¬ iI v2 = 0 from fun q => w ((iI_eq (b := 0) (by omega) (by omega)).mp q)), if_neg w, cf_216_44, cm_w4, nI_clamp (by omega), e2]
          refine ⟨⟨fun q => absurd q (show ¬ nI 63 = 0 by decide), fun _ => ⟨fun q => absurd q (show ¬ nI 63 = 1 by decide), fun _ => ⟨fun _ => trivial, fun _ => ⟨fun _ => trivial, fun _ => ⟨fun q => absurd q (show ¬ nI 63 = 2 by decide), fun _ => ⟨fun q => absurd q (show ¬ nI 63 = 3 by decide), fun _ => ⟨fun _ => key.1, fun q => absurd (show nI 63 = 63 from rfl) q⟩⟩⟩⟩⟩⟩⟩, f, upd g s.length (iI (if v2 = 0 then v0 else v1)), ?_, ⟨by rw [up_a]; exact if_pos rfl, sti_up (Nat.le_refl _) hs.2.2.2⟩, hf⟩
          show (if nI 63 = 0 then _ else if nI 63 = 1 then _ else if nI (s.length + 3) < 1 then _ else if 196 < nI (s.length + 3) then _ else if nI 63 = 2 then _ else if nI 63 = 3 then _ else if nI 63 = 63 then ((cf_216_0 (nI (s.length + 3)) (cm N f g)).1, (cf_216_0 (nI (s.length + 3)) (cm N f g)).2) else _) = _
          rw [if_neg (show ¬ nI 63 = 0 by decide), if_neg (show ¬ nI 63 = 1 by decide), if_neg l1, if_neg l2, if_neg (show ¬ nI 63 = 2 by decide), if_neg (show ¬ nI 63 = 3 by decide), if_pos (show nI 63 = 63 from rfl), key.2]
          rfl
  · cases s with
    | nil => exact absurd (show 2 ≤ 0 from e) (by decide)
    | cons v0 s =>
      cases s with
      | nil => exact absurd (show 2 ≤ 1 from e) (by decide)
      | cons v1 s =>
        have hl' : s.length + 2 < 196 := hl
        have d' := d
        unfold isop at d'
        have cN : ∀ k, k < 100 → (nI c = nI k ↔ c = k) := fun k hk => nI_eq (by omega) (by omega)
        have n0 : ¬ nI c = 0 := fun q => by have := (cN 0 (by omega)).mp q; omega
        have n1 : ¬ nI c = 1 := fun q => by have := (cN 1 (by omega)).mp q; omega
        have n2 : ¬ nI c = 2 := fun q => by have := (cN 2 (by omega)).mp q; omega
        have n3 : ¬ nI c = 3 := fun q => by have := (cN 3 (by omega)).mp q; omega
        have n63 : ¬ nI c = 63 := fun q => by have := (cN 63 (by omega)).mp q; omega
        have l1 : ¬ nI (s.length + 2) < 1 := fun q => by have := (nI_ltI (b := 1) (by omega) (by omega)).mp q; omega
        have l3 : ¬ nI (s.length + 2) < 2 := fun q => by have := (nI_ltI (b := 2) (by omega) (by omega)).mp q; omega
        have l2 : ¬ 196 < nI (s.length + 2) := fun q => by have := (nI_ltI (a := 196) (by omega) (by omega)).mp q; omega
        have g0 : mz_gI (cm N f g) 54 (nI (s.length + 1)) = iI v0 := by rw [gI_a, cm_4, nI_clamp (by omega)]; exact hs.1
        have g1 : mz_gI (cm N f g) 54 (nI s.length) = iI v1 := by rw [gI_a, cm_4, nI_clamp (by omega)]; exact hs.2.1
        have e1 : nI (s.length + 2) - 1 = nI (s.length + 1) := nIs1 (s.length + 1)
        have i0 : mz_ib (nI s.length) 196 := ib_n (by omega) (by omega)
        have i1 : mz_ib (nI (s.length + 1)) 196 := ib_n (by omega) (by omega)
        have c0 : ¬ c = 0 := by omega
        have c1 : ¬ c = 1 := by omega
        have c2 : ¬ c = 2 := by omega
        have c3 : ¬ c = 3 := by omega
        have c63 : ¬ c = 63 := by omega
        have ex : ex1 (c, v) (v0 :: v1 :: s, T) = (binv c v1 v0 :: s, T) := by
          unfold ex1
          simp only [c0, c1, c2, c3, c63, if_false]
          rfl
        rw [ex]
        refine ⟨⟨fun q => absurd q n0, fun _ => ⟨fun q => absurd q n1, fun _ => ⟨fun _ => trivial, fun _ => ⟨fun _ => trivial, fun _ => ⟨fun q => absurd q n2, fun _ => ⟨fun q => absurd q n3, fun _ => ⟨fun q => absurd q n63, fun _ => ⟨fun _ => trivial, fun _ => ?_⟩⟩⟩⟩⟩⟩⟩⟩, f, upd g s.length (iI (binv c v1 v0)), ?_, ⟨by rw [up_a, if_pos rfl], sti_up (Nat.le_refl _) hs.2.2⟩, hf⟩
        · show mz_ib (nI (s.length + 2) - 2) 196 ∧ mz_ib (nI (s.length + 2) - 1) 196 ∧ mz_ib (nI (s.length + 2) - 2) 196 ∧ True
          rw [nIs2, e1]; exact ⟨i0, i1, i0, trivial⟩
        · show (if nI c = 0 then _ else if nI c = 1 then _ else if nI (s.length + 2) < 1 then _ else if 196 < nI (s.length + 2) then _ else if nI c = 2 then _ else if nI c = 3 then _ else if nI c = 63 then _ else if nI (s.length + 2) < 2 then _ else cf_214_147 (nI (s.length + 2)) (mz_wI (cm N f g) 54 (nI (s.length + 2) - 2) (cf_217_0 (nI c) (mz_gI (cm N f g) 54 (nI (s.length + 2) - 2)) (mz_gI (cm N f g) 54 (nI (s.length + 2) - 1))))) = _
          rw [if_neg n0, if_neg n1, if_neg l1, if_neg l2, if_neg n2, if_neg n3, if_neg n63, if_neg l3, nIs2, e1, g0, g1, rck_c d (hb v1 (by simp)) (hb v0 (by simp)), cm_w4, nI_clamp (by omega), cf_214_147, e1]
          rfl
theorem dpt_le : ∀ S : List (Nat × Nat), dpt S ≤ S.length := by
  intro S
  induction S with
  | nil => exact Nat.le_refl _
  | cons x S ih =>
    show (if x.1 ≤ 1 then dpt S + 1 else if x.1 = 3 then dpt S else if x.1 = 63 then dpt S - 2 else dpt S - 1) ≤ S.length + 1
    split
    · omega
    · split
      · omega
      · split <;> omega
theorem run_c (hT : ∀ j, j < 53 → bn (T j)) (hf : ∀ j, j < 53 → N.1 53 j = iI (T j)) (hv : vok S) (hl : S.length ≤ 196) (h4 : N.1 (mz_lv b) 4 = nI S.length) (hw : wds (N.1 (mz_lv b + 2)) (N.1 (mz_lv b + 3)) S) : cp_213_0 N b ∧ ∃ f' g', cf_213_0 N b = cm N f' g' ∧ ∀ j, j < 53 → f' j = iI ((exs S T).2 j) := by
  have e0 : cm N (N.1 53) (N.1 54) = N := by unfold cm; rw [sI_same, sI_same]
  have hne : mz_lv b ≠ 53 ∧ mz_lv b ≠ 54 ∧ mz_lv b + 2 ≠ 53 ∧ mz_lv b + 2 ≠ 54 ∧ mz_lv b + 3 ≠ 53 ∧ mz_lv b + 3 ≠ 54 := by cases b <;> decide
  refine mz_lpn (f := cq_213_4 b) (P := cd_213_4 b) (Q := fun r => ∃ f' g', r = cm N f' g' ∧ ∀ j, j < 53 → f' j = iI ((exs S T).2 j)) S.length (fun i st => ∃ f' g', st = (nI (exs (sf S i) T).1.length, nI i, cm N f' g') ∧ sti g' (exs (sf S i) T).1 ∧ ∀ j, j < 53 → f' j = iI ((exs (sf S i) T).2 j)) ?_ ?_ (Nat.zero_le _) ⟨N.1 53, N.1 54, by rw [sf_0, e0]; rfl, by rw [sf_0]; trivial, by rw [sf_0]; exact hf⟩
  · rintro i st hi ⟨f', g', rfl, h1, h2⟩
    obtain ⟨x, hx, hxl⟩ := sf_s hi
    have hv1 := vok_sf hv i
    have hv2 := vok_sf hv (i + 1)
    rw [hx] at hv2
    obtain ⟨o1, o2, o3⟩ := exs_ok hT hv1
    have hd := dpt_le (sf S i)
    have hwi := wds_sf hw (i + 1)
    rw [hx] at hwi
    rw [hxl] at hd
    have l : nI i < nI S.length := (nI_ltI (by omega) (by omega)).mpr hi
    have i1 : mz_ib (nI i) 196 := ib_n (by omega) (by omega)
    have a1 : mz_gI (cm N f' g') (mz_lv b + 2) (nI i) = nI x.1 := by
      rw [gI_a, cm_n hne.2.2.1 hne.2.2.2.1, nI_clamp (by omega)]
      have := hwi.1; rw [hxl] at this; exact this
    have a2 : mz_gI (cm N f' g') (mz_lv b + 3) (nI i) = nI x.2 := by
      rw [gI_a, cm_n hne.2.2.2.2.1 hne.2.2.2.2.2, nI_clamp (by omega)]
      have := hwi.2.1; rw [hxl] at this; exact this
    have a4 : (cm N f' g').1 (mz_lv b) 4 = nI S.length := by rw [cm_n hne.1 hne.2.1]; exact h4
    have hxo : xok x (exs (sf S i) T).1.length := by rw [o1]; exact hv2.2
    obtain ⟨s1, f2, g2, s2, s3, s4⟩ := step_c (N := N) (f := f') (g := g') (T := (exs (sf S i) T).2) hxo (by omega) h1 o2 h2
    have ee : exs (sf S (i + 1)) T = ex1 x ((exs (sf S i) T).1, (exs (sf S i) T).2) := by rw [hx]; rfl
    rw [cd_213_4, cq_213_4]
    show ((nI i < (cm N f' g').1 (mz_lv b) 4 → _ ∧ _ ∧ cp_214_0 (mz_gI (cm N f' g') (mz_lv b + 2) (nI i)) (mz_gI (cm N f' g') (mz_lv b + 3) (nI i)) (nI (exs (sf S i) T).1.length) (cm N f' g') ∧ _) ∧ _) ∧ ((∃ s2, (if nI i < (cm N f' g').1 (mz_lv b) 4 then cf_213_39 (cf_214_0 (mz_gI (cm N f' g') (mz_lv b + 2) (nI i)) (mz_gI (cm N f' g') (mz_lv b + 3) (nI i)) (nI (exs (sf S i) T).1.length) (cm N f' g')).1 (nI i) (cf_214_0 (mz_gI (cm N f' g') (mz_lv b + 2) (nI i)) (mz_gI (cm N f' g') (mz_lv b + 3) (nI i)) (nI (exs (sf S i) T).1.length) (cm N f' g')).2 b else _) = _ ∧ _) ∨ _)
    rw [a4, if_pos l, a1, a2, s2, cf_213_39, nI_1]
    refine ⟨⟨fun _ => ⟨i1, i1, s1, trivial⟩, fun _ => trivial⟩, Or.inl ⟨_, rfl, f2, g2, ?_, ?_, ?_⟩⟩
    · rw [ee]
    · rw [ee]; exact s3
    · rw [ee]; exact s4
  · rintro st ⟨f', g', rfl, h1, h2⟩
    have a4 : (cm N f' g').1 (mz_lv b) 4 = nI S.length := by rw [cm_n hne.1 hne.2.1]; exact h4
    have l : ¬ nI S.length < nI S.length := fun q => by have := (nI_ltI (by omega) (by omega)).mp q; omega
    rw [cd_213_4, cq_213_4]
    refine ⟨⟨fun q => ?_, fun _ => trivial⟩, cm N f' g', ?_, f', g', rfl, ?_⟩
    · have q' : nI S.length < (cm N f' g').1 (mz_lv b) 4 := q
      rw [a4] at q'; exact absurd q' l
    · show (if nI S.length < (cm N f' g').1 (mz_lv b) 4 then _ else Sum.inr (cm N f' g')) = _
      rw [a4, if_neg l]
    · rw [sf_l] at h2; exact h2
end Pfm
