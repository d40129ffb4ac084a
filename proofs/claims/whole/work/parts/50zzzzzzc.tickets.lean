/-! PURE (50zzzzzzc): ticketOf, ticket. -/
/-- the tickets, both sides -/
def tkB (N1 N2 : mz_N) (t : Nat → Nat) (num : Nat → Int32) : Prop := (∀ j, j < 16 → N1.1 123 j = nI (t j) ∧ (t j = 1 → N1.1 117 j = num j)) ∧ (∀ j, j < 16 → N2.1 287 j = nI (t j) ∧ (t j = 1 → N2.2 292 j = (num j).toInt64)) ∧ (∀ j, t j ≤ 1)
theorem tkB.c {N1 N2 : mz_N} {t : Nat → Nat} {num : Nat → Int32} (h : tkB N1 N2 t num) : ∀ j, j < 16 → N1.1 123 j = nI (t j) ∧ (t j = 1 → N1.1 117 j = num j) := h.1
theorem tkB.r {N1 N2 : mz_N} {t : Nat → Nat} {num : Nat → Int32} (h : tkB N1 N2 t num) : ∀ j, j < 16 → N2.1 287 j = nI (t j) ∧ (t j = 1 → N2.2 292 j = (num j).toInt64) := h.2.1
theorem tkB.b {N1 N2 : mz_N} {t : Nat → Nat} {num : Nat → Int32} (h : tkB N1 N2 t num) : ∀ j, t j ≤ 1 := h.2.2
section Tk
variable {N N1 N2 M1 M2 : mz_N} {b : Bool} {B q : Nat} {s : st_S} {D H G : Kp} {x : CrS} {L L' : LvS} {R : RsS} {v v1 v2 v3 : Int32} {t : Nat → Nat} {num : Nat → Int32}
theorem i466g {a c : Int32} : cf_466_0 v.toInt64 a.toInt64 c.toInt64 = decide (cf_105_0 v a c = 0) := by
  rw [cf_466_0, cf_105_0, cf_105_10]
  have e1 := l64_lt v a
  have e2 := l64_lt c v
  by_cases w1 : v < a
  · rw [if_pos (e1.mpr w1), if_pos w1]; rfl
  · rw [if_neg (fun z => w1 (e1.mp z)), if_neg w1]
    by_cases w2 : c < v
    · rw [if_pos (e2.mpr w2), if_pos w2]; rfl
    · rw [if_neg (fun z => w2 (e2.mp z)), if_neg w2]; rfl
theorem pab (h : tkB N1 N2 t num) (v : Int32) : cp_335_0 v N1 ∧ cp_564_0 v.toInt64 N2 ∧ ∃ c, cf_335_0 v N1 = nO 16 c ∧ cf_564_0 v.toInt64 N2 = nO 16 c ∧ ((c < 16 ∧ t c = 1 ∧ v < num c ∧ ∀ j, j < 16 → t j = 1 → v < num j → ¬ num j < num c) ∨ (¬ c < 16 ∧ ∀ j, j < 16 → t j = 1 → ¬ v < num j)) := by
  rw [cp_335_0, cf_335_0, cp_335_4, cf_335_4, cp_564_0, cf_564_0, cp_564_5, cf_564_5]
  refine mz_lp2n (f := cq_335_4 v N1) (P := cd_335_4 v N1) (g := cq_564_5 v.toInt64 N2) (P2 := cd_564_5 v.toInt64 N2) (Q := fun r1 r2 => ∃ c, r1 = nO 16 c ∧ r2 = nO 16 c ∧ ((c < 16 ∧ t c = 1 ∧ v < num c ∧ ∀ j, j < 16 → t j = 1 → v < num j → ¬ num j < num c) ∨ (¬ c < 16 ∧ ∀ j, j < 16 → t j = 1 → ¬ v < num j))) 16 (fun k s1 s2 => ∃ c, s1 = (nO 16 c, nI k) ∧ s2 = (nO 16 c, nI k) ∧ ((c < 16 ∧ t c = 1 ∧ v < num c ∧ ∀ j, j < k → t j = 1 → v < num j → ¬ num j < num c) ∨ (¬ c < 16 ∧ ∀ j, j < k → t j = 1 → ¬ v < num j))) ?_ ?_ (Nat.zero_le _) ⟨16, rfl, rfl, Or.inr ⟨by omega, fun j hj => absurd hj (Nat.not_lt_zero j)⟩⟩
  · rintro k s1 s2 hk ⟨c, rfl, rfl, hc⟩
    have l : nI k < 16 := (nI_ltI (b := 16) (by omega) (by omega)).mpr hk
    have ib : mz_ib (nI k) 16 := ib_n hk (by omega)
    have tk := h.b k
    have g123 : mz_gI N1 123 (nI k) = nI (t k) := by rw [gI_a, nI_clamp (by omega)]; exact (h.c k hk).1
    have g287 : mz_gI N2 287 (nI k) = nI (t k) := by rw [gI_a, nI_clamp (by omega)]; exact (h.r k hk).1
    have q1 : (nI (t k) = 1) = (t k = 1) := propext (nI_eq (b := 1) (by omega) (by omega))
    have z01 : mz_z01 (nI (t k)) := by rcases (show t k = 0 ∨ t k = 1 by omega) with w | w <;> rw [w] <;> first | exact Or.inl rfl | exact Or.inr rfl
    have gz : mz_gZ N2 287 (nI k) = decide (t k = 1) := by
      rw [gZ_a, nI_clamp (by omega), (h.r k hk).1]
      rcases (show t k = 0 ∨ t k = 1 by omega) with w | w <;> rw [w] <;> rfl
    have m1 : (nO 16 c = -1) = (¬ c < 16) := propext (nO_m1 (by omega))
    have m2 : (nO 16 c < 0) = (¬ c < 16) := propext (nO_neg (by omega))
    rw [cd_335_4, cq_335_4, cd_564_5, cq_564_5]
    simp only [l, if_true, g123, g287, q1, gz, m1, m2]
    by_cases w : t k = 1
    · have g117 : mz_gI N1 117 (nI k) = num k := by rw [gI_a, nI_clamp (by omega)]; exact (h.c k hk).2 w
      have g292 : mz_gL N2 292 (nI k) = (num k).toInt64 := by rw [gL_a, nI_clamp (by omega)]; exact (h.r k hk).2 w
      have lv : (v.toInt64 < (num k).toInt64) = (v < num k) := propext (l64_lt _ _)
      simp only [g117, g292, lv]
      rw [if_pos w, if_pos (decide_eq_true w)]
      by_cases y : v < num k
      · rw [if_pos y, if_pos y]
        rcases hc with ⟨c1, c2, c3, c4⟩ | ⟨c1, c2⟩
        · have g117c : mz_gI N1 117 (nO 16 c) = num c := by rw [nO_lt c1, gI_a, nI_clamp (by omega)]; exact (h.c c c1).2 c2
          have g292c : mz_gL N2 292 (nO 16 c) = (num c).toInt64 := by rw [nO_lt c1, gL_a, nI_clamp (by omega)]; exact (h.r c c1).2 c2
          have lc : ((num k).toInt64 < (num c).toInt64) = (num k < num c) := propext (l64_lt _ _)
          have ibc : mz_ib (nO 16 c) 16 := by rw [nO_lt c1]; exact ib_n c1 (by omega)
          simp only [g117c, g292c, lc]
          rw [if_neg (show ¬ ¬ c < 16 from fun z => z c1), if_neg (show ¬ ¬ c < 16 from fun z => z c1)]
          refine ⟨⟨fun _ => ⟨ib, fun _ => ⟨ib, fun _ => ⟨fun _ => trivial, fun _ => ⟨ib, ibc, fun _ => trivial, fun _ => trivial⟩⟩, fun _ => trivial⟩, fun _ => trivial⟩, fun z => absurd trivial z⟩, ⟨fun _ => ⟨ib, z01, fun _ => ⟨ib, fun _ => ⟨fun _ => trivial, fun _ => ⟨ib, ibc, fun _ => trivial, fun _ => trivial⟩⟩, fun _ => trivial⟩, fun _ => trivial⟩, fun z => absurd trivial z⟩, Or.inl ?_⟩
          by_cases u : num k < num c
          · rw [if_pos u, if_pos u]
            refine ⟨_, _, rfl, rfl, k, by show (nI k, nI k + 1) = _; rw [nI_1, nO_lt hk], by show (nI k, nI k + 1) = _; rw [nI_1, nO_lt hk], Or.inl ⟨hk, w, y, fun j hj j1 j2 => ?_⟩⟩
            by_cases e : j = k
            · rw [e]; intro z; rw [Int32.lt_iff_toInt_lt] at z; omega
            · have a := c4 j (by omega) j1 j2
              intro z
              rw [Int32.lt_iff_toInt_lt] at z a u
              omega
          · rw [if_neg u, if_neg u]
            refine ⟨_, _, rfl, rfl, c, by show (nO 16 c, nI k + 1) = _; rw [nI_1], by show (nO 16 c, nI k + 1) = _; rw [nI_1], Or.inl ⟨c1, c2, c3, fun j hj j1 j2 => ?_⟩⟩
            by_cases e : j = k
            · rw [e]; exact u
            · exact c4 j (by omega) j1 j2
        · rw [if_pos c1, if_pos c1]
          refine ⟨⟨fun _ => ⟨ib, fun _ => ⟨ib, fun _ => ⟨fun _ => trivial, fun z => absurd c1 z⟩, fun _ => trivial⟩, fun _ => trivial⟩, fun z => absurd trivial z⟩, ⟨fun _ => ⟨ib, z01, fun _ => ⟨ib, fun _ => ⟨fun _ => trivial, fun z => absurd c1 z⟩, fun _ => trivial⟩, fun _ => trivial⟩, fun z => absurd trivial z⟩, Or.inl ?_⟩
          refine ⟨_, _, rfl, rfl, k, by show (nI k, nI k + 1) = _; rw [nI_1, nO_lt hk], by show (nI k, nI k + 1) = _; rw [nI_1, nO_lt hk], Or.inl ⟨hk, w, y, fun j hj j1 j2 => ?_⟩⟩
          by_cases e : j = k
          · rw [e]; intro z; rw [Int32.lt_iff_toInt_lt] at z; omega
          · exact absurd j2 (c2 j (by omega) j1)
      · rw [if_neg y, if_neg y]
        refine ⟨⟨fun _ => ⟨ib, fun _ => ⟨ib, fun z => absurd z y, fun _ => trivial⟩, fun _ => trivial⟩, fun z => absurd trivial z⟩, ⟨fun _ => ⟨ib, z01, fun _ => ⟨ib, fun z => absurd z y, fun _ => trivial⟩, fun _ => trivial⟩, fun z => absurd trivial z⟩, Or.inl ⟨_, _, rfl, rfl, c, by show (nO 16 c, nI k + 1) = _; rw [nI_1], by show (nO 16 c, nI k + 1) = _; rw [nI_1], ?_⟩⟩
        rcases hc with ⟨c1, c2, c3, c4⟩ | ⟨c1, c2⟩
        · refine Or.inl ⟨c1, c2, c3, fun j hj j1 j2 => ?_⟩
          by_cases e : j = k
          · rw [e] at j2; exact absurd j2 y
          · exact c4 j (by omega) j1 j2
        · refine Or.inr ⟨c1, fun j hj j1 => ?_⟩
          by_cases e : j = k
          · rw [e]; exact y
          · exact c2 j (by omega) j1
    · rw [if_neg w, if_neg (show ¬ (decide (t k = 1) = true) from fun z => w (of_decide_eq_true z))]
      refine ⟨⟨fun _ => ⟨ib, fun z => absurd z w, fun _ => trivial⟩, fun z => absurd trivial z⟩, ⟨fun _ => ⟨ib, z01, fun z => absurd (of_decide_eq_true z) w, fun _ => trivial⟩, fun z => absurd trivial z⟩, Or.inl ⟨_, _, rfl, rfl, c, by show (nO 16 c, nI k + 1) = _; rw [nI_1], by show (nO 16 c, nI k + 1) = _; rw [nI_1], ?_⟩⟩
      rcases hc with ⟨c1, c2, c3, c4⟩ | ⟨c1, c2⟩
      · refine Or.inl ⟨c1, c2, c3, fun j hj j1 j2 => ?_⟩
        by_cases e : j = k
        · rw [e] at j1; exact absurd j1 w
        · exact c4 j (by omega) j1 j2
      · refine Or.inr ⟨c1, fun j hj j1 => ?_⟩
        by_cases e : j = k
        · rw [e] at j1; exact absurd j1 w
        · exact c2 j (by omega) j1
  · rintro s1 s2 ⟨c, rfl, rfl, hc⟩
    have l : ¬ nI 16 < 16 := by decide
    rw [cd_335_4, cq_335_4, cd_564_5, cq_564_5]
    simp only [l, if_false]
    exact ⟨⟨False.elim, fun _ => trivial⟩, ⟨False.elim, fun _ => trivial⟩, _, _, rfl, rfl, c, rfl, rfl, hc⟩
/-- how many tickets have a number above v -/
def abv (t : Nat → Nat) (num : Nat → Int32) (v : Int32) (n : Nat) : Nat := cnt (fun j => decide (t j = 1 ∧ v < num j)) n
theorem abv_0 {n : Nat} (h : ∀ j, j < n → t j = 1 → ¬ v < num j) : abv t num v n = 0 := by
  unfold abv
  rw [cnt_congr (q := fun _ => false) (fun i hi => decide_eq_false (fun z => h i hi z.1 z.2))]
  exact cnt_none _
theorem abv_s {c : Nat} (hc : c < 16) (h1 : t c = 1) (h2 : v < num c) (h3 : ∀ j, j < 16 → t j = 1 → v < num j → ¬ num j < num c) (hd : ∀ i j, i < 16 → j < 16 → t i = 1 → t j = 1 → num i = num j → i = j) : abv t num (num c) 16 + 1 = abv t num v 16 := by
  unfold abv
  have e : cnt (fun j => decide (t j = 1 ∧ num c < num j)) 16 = cnt (fun j => if j < 16 then decide (t j = 1 ∧ num c < num j) else decide (t j = 1 ∧ v < num j)) 16 := cnt_congr (fun i hi => by rw [if_pos hi])
  rw [e]
  refine cnt_off (k := c) hc (decide_eq_true ⟨h1, h2⟩) ?_ (fun i hi => ?_)
  · show (if c < 16 then _ else _) = false
    rw [if_pos hc]
    exact decide_eq_false (fun z => by have y := z.2; rw [Int32.lt_iff_toInt_lt] at y; omega)
  · show (if i < 16 then _ else _) = _
    by_cases w : i < 16
    · rw [if_pos w]
      by_cases y : t i = 1 ∧ v < num i
      · have a := h3 i w y.1 y.2
        rw [decide_eq_true y]
        refine decide_eq_true ⟨y.1, ?_⟩
        have ne : num i ≠ num c := fun z => hi (hd i c w hc y.1 h1 z)
        have ne2 : (num i).toInt ≠ (num c).toInt := fun z => ne (Int32.toInt_inj.mp z)
        rw [Int32.lt_iff_toInt_lt] at a ⊢
        omega
      · rw [decide_eq_false y]
        refine decide_eq_false (fun z => y ⟨z.1, ?_⟩)
        have a := z.2
        rw [Int32.lt_iff_toInt_lt] at a h2 ⊢
        omega
    · rw [if_neg w]
theorem abv_n (hb : ∀ j, t j ≤ 1) : ∀ n, (∀ j, j < n → t j = 1 → v < num j) → abv t num v n = sumN t n := by
  intro n
  induction n with
  | zero => intro _; rfl
  | succ n ih =>
    intro h
    have a := ih (fun j hj => h j (by omega))
    have bb := hb n
    show cnt _ (n + 1) = sumN t n + t n
    rw [← a]
    rcases (show t n = 0 ∨ t n = 1 by omega) with w | w
    · rw [cnt_sn (decide_eq_false (fun z => by have := z.1; omega)), w]; rfl
    · rw [cnt_s (decide_eq_true ⟨w, h n (by omega) w⟩), w]; rfl
/-- the k-th ticket by number, both sides -/
theorem kth (h : tkB N1 N2 t num) (hn : ∀ j, j < 16 → t j = 1 → (-1 : Int32) < num j) (hd : ∀ i j, i < 16 → j < 16 → t i = 1 → t j = 1 → num i = num j → i = j) {m : Nat} (hm : m < sumN t 16) (hm2 : sumN t 16 ≤ 16) {V : Nat → Int32} (hv : ∀ c, c < 16 → t c = 1 → cd_563_54 (nI m) v2 N2 (nI c, nI m) ∧ cq_563_54 (nI m) v2 N2 (nI c, nI m) = .inr (V c, N2)) : cp_334_0 (nI m) N1 ∧ cp_564_0 (-1) N2 ∧ cp_563_54 (nI m) v2 (cf_564_0 (-1) N2) 0 N2 ∧ ∃ c, c < 16 ∧ t c = 1 ∧ cf_334_0 (nI m) N1 = nI c ∧ cf_563_54 (nI m) v2 (cf_564_0 (-1) N2) 0 N2 = (V c, N2) := by
  have all : abv t num (-1) 16 = sumN t 16 := abv_n h.b 16 hn
  obtain ⟨p1, p2, c, e1, e2, hc⟩ := pab h (-1)
  have p2' : cp_564_0 (-1) N2 := p2
  have e2' : cf_564_0 (-1) N2 = nO 16 c := e2
  have hc' : c < 16 ∧ t c = 1 ∧ abv t num (num c) 16 + 1 = sumN t 16 := by
    rcases hc with ⟨c1, c2, c3, c4⟩ | ⟨c1, c2⟩
    · exact ⟨c1, c2, by rw [← all]; exact abv_s c1 c2 c3 c4 hd⟩
    · have := abv_0 (t := t) (num := num) (v := -1) (n := 16) c2
      omega
  obtain ⟨c1, c2, c3⟩ := hc'
  have step : ∀ c, c < 16 → t c = 1 → 0 < abv t num (num c) 16 → ∃ c', c' < 16 ∧ t c' = 1 ∧ abv t num (num c') 16 + 1 = abv t num (num c) 16 ∧ cp_335_0 (num c) N1 ∧ cp_564_0 (num c).toInt64 N2 ∧ cf_335_0 (num c) N1 = nI c' ∧ cf_564_0 (num c).toInt64 N2 = nI c' := fun c c1 c2 c3 => by
    obtain ⟨q1, q2, c', f1, f2, hc⟩ := pab h (num c)
    rcases hc with ⟨d1, d2, d3, d4⟩ | ⟨d1, d2⟩
    · exact ⟨c', d1, d2, abv_s d1 d2 d3 d4 hd, q1, q2, by rw [f1, nO_lt d1], by rw [f2, nO_lt d1]⟩
    · have := abv_0 (t := t) (num := num) (v := num c) (n := 16) d2
      omega
  have g117 : ∀ c, c < 16 → t c = 1 → mz_gI N1 117 (nI c) = num c ∧ mz_gL N2 292 (nI c) = (num c).toInt64 := fun c c1 c2 => ⟨by rw [gI_a, nI_clamp (by omega)]; exact (h.c c c1).2 c2, by rw [gL_a, nI_clamp (by omega)]; exact (h.r c c1).2 c2⟩
  have two : (∃ n, mz_ok (cq_334_8 (nI m) N1) (cd_334_8 (nI m) N1) n (nI c, 0)) ∧ (∃ n, mz_ok (cq_563_54 (nI m) v2 N2) (cd_563_54 (nI m) v2 N2) n (nI c, 0)) ∧ (fun (r1 : Int32) (r2 : Int32 × mz_N) => ∃ c, c < 16 ∧ t c = 1 ∧ r1 = nI c ∧ r2 = (V c, N2)) (mz_run (cq_334_8 (nI m) N1) (nI c, 0)) (mz_run (cq_563_54 (nI m) v2 N2) (nI c, 0)) := by
    refine mz_lp2n (f := cq_334_8 (nI m) N1) (P := cd_334_8 (nI m) N1) (g := cq_563_54 (nI m) v2 N2) (P2 := cd_563_54 (nI m) v2 N2) (Q := fun (r1 : Int32) (r2 : Int32 × mz_N) => ∃ c, c < 16 ∧ t c = 1 ∧ r1 = nI c ∧ r2 = (V c, N2)) m (fun k s1 s2 => ∃ c, c < 16 ∧ t c = 1 ∧ abv t num (num c) 16 + 1 + k = sumN t 16 ∧ s1 = (nI c, nI k) ∧ s2 = (nI c, nI k)) ?_ ?_ (Nat.zero_le _) ⟨c, c1, c2, by omega, rfl, rfl⟩
    · rintro k s1 s2 hk ⟨c, d1, d2, d3, rfl, rfl⟩
      have l : nI k < nI m := (nI_ltI (by omega) (by omega)).mpr hk
      obtain ⟨c', f1, f2, f3, f4, f5, f6, f7⟩ := step c d1 d2 (by omega)
      obtain ⟨g1, g2⟩ := g117 c d1 d2
      have n1 := (nI_neg2 (k := c) (by omega)).1
      have ib : mz_ib (nI c) 16 := ib_n d1 (by omega)
      rw [cd_334_8, cq_334_8, cd_563_54, cq_563_54]
      simp only [l, if_true, g1, g2, f6, f7, if_neg n1]
      exact ⟨⟨fun _ => ⟨fun _ => trivial, fun _ => ⟨ib, f4⟩⟩, fun z => absurd trivial z⟩, ⟨fun _ => ⟨ib, f5⟩, fun z => absurd trivial z⟩, Or.inl ⟨_, _, rfl, rfl, c', f1, f2, by omega, by rw [nI_1], by rw [nI_1]⟩⟩
    · rintro s1 s2 ⟨c, d1, d2, d3, rfl, rfl⟩
      have l : ¬ nI m < nI m := fun z => by have := (nI_ltI (by omega) (by omega)).mp z; omega
      obtain ⟨h1, h2⟩ := hv c d1 d2
      refine ⟨?_, h1, nI c, (V c, N2), ?_, h2, c, d1, d2, rfl, rfl⟩
      · rw [cd_334_8]; exact ⟨fun z => absurd z l, fun _ => trivial⟩
      · rw [cq_334_8]; exact if_neg l
  obtain ⟨t1, t2, c', t3, t4, t5, t6⟩ := two
  rw [cp_334_0, cf_334_0, e1, nO_lt c1, e2', nO_lt c1, cp_334_8, cf_334_8, cp_563_54, cf_563_54]
  exact ⟨⟨p1, t1⟩, p2', t2, c', t3, t4, t5, t6⟩
theorem cnt_t (hb : ∀ j, t j ≤ 1) : ∀ n, sumN t n ≤ n := by
  intro n
  induction n with
  | zero => exact Nat.le_refl _
  | succ n ih => have := hb n; show sumN t n + t n ≤ n + 1; omega
theorem tk_d (h : dz N) : cp_562_0 N := by
  have hz := h.2.2.2
  obtain ⟨_, p, _⟩ := tk_n (N1 := (fun _ => N.1 287, N.2)) (N2 := N) (H := (fun _ j => if N.1 287 j = 1 then 1 else 0, fun _ _ => 0, fun _ _ => 0)) (fun j hj => by
    show N.1 287 j = nI (if N.1 287 j = 1 then 1 else 0)
    rcases hz j hj with w | w <;> rw [w] <;> rfl) (fun j hj => by
    show N.1 287 j = nI (if N.1 287 j = 1 then 1 else 0)
    rcases hz j hj with w | w <;> rw [w] <;> rfl) (fun j => by
    show (if N.1 287 j = 1 then 1 else 0) ≤ 1
    split <;> omega)
  exact p
theorem ticketOf_al (hq : q < 2 ^ 15) (h : Sm q B N1 b N2) : cp_333_0 v1 v2 N1 ∧ cp_563_0 v1 v2 N2 ∧ caq q B b N1 N2 (cf_333_0 v1 v2 N1) (cf_563_0 v1 v2 N2) := by
  obtain ⟨p2, c2⟩ := in_l 0 5 (by omega) (by omega) v2 (w0 := 0) (w := 5) (g0 := 0) (g := 5) rfl rfl rfl rfl
  rcases Sm_0 h with ⟨hu, u1, u2, F1, Ft, Ff, Fs, F3, F4⟩ | ⟨u1, u2, F1, Fd, F3, F4⟩
  · obtain ⟨p, C, s, D, H, x, L, R, h1, h2, h3, h4, h5, h6⟩ := id hu
    have k12 := h3.cs.ks.kc.2.2.2.2.2.2.2.2.2.2.2.2.2.1
    have r12 := h3.cs.ks.kr.2.2.2.2.2.2.2.2.2.2.2.2.2.1
    have hb : ∀ j, H.1 8 j ≤ 1 := h3.cs.ks.hb.2.2.2.2.2.2.2.2.2.1
    obtain ⟨⟨a1, a2⟩, a3, a4⟩ := tk_n (N1 := N1) (N2 := N2) (H := H) (fun j hj => (k12 j hj).1) (fun j hj => (r12 j hj).1) hb
    have n16 := cnt_t hb 16
    obtain ⟨p1, c1⟩ := m1_105 (v := v1) (n := sumN (H.1 8) 16) (by omega)
    have e466 : cf_466_0 v1.toInt64 0 (nI (sumN (H.1 8) 16) - 1).toInt64 = decide (cf_105_0 v1 0 (nI (sumN (H.1 8) 16) - 1) = 0) := i466g (a := 0)
    rcases c1 with ⟨m, hm, rfl, i1, _, _⟩ | ⟨i1, _⟩
    · rw [i1] at e466
      have e466' : cf_466_0 (nI m).toInt64 0 (nI (sumN (H.1 8) 16) - 1).toInt64 = true := e466
      rcases c2 with ⟨f, _, hf, rfl, i2, j2⟩ | ⟨i2, j2⟩
      · have tb : tkB N1 (mz_pI N2 232 0 0) (H.1 8) (H.2.1 11) := ⟨fun j hj => ⟨(k12 j hj).1, fun z => ((k12 j hj).2 z).2.2.2.2⟩, fun j hj => ⟨(r12 j hj).1, fun z => ((r12 j hj).2 z).2.2.2.2⟩, hb⟩
        have e32 : ∀ y : Int32, (y.toInt64).toInt32 = y := fun y => by apply Int32.toInt_inj.mp; simp
        have q0 : (nI f = 0) = (f = 0) := propext (nI_eq0 (by omega))
        have q1 : (nI f = 1) = (f = 1) := propext (nI_eq (b := 1) (by omega) (by omega))
        have q2 : (nI f = 2) = (f = 2) := propext (nI_eq (b := 2) (by omega) (by omega))
        have q3 : (nI f = 3) = (f = 3) := propext (nI_eq (b := 3) (by omega) (by omega))
        have q4 : (nI f = 4) = (f = 4) := propext (nI_eq (b := 4) (by omega) (by omega))
        have hV : ∀ c, c < 16 → H.1 8 c = 1 → cd_563_54 (nI m) (nI f) (mz_pI N2 232 0 0) (nI c, nI m) ∧ cq_563_54 (nI m) (nI f) (mz_pI N2 232 0 0) (nI c, nI m) = .inr (mz_gI N1 (117 + f) (nI c), mz_pI N2 232 0 0) := fun c c1 c2 => by
          have l : ¬ nI m < nI m := fun z => by have := (nI_ltI (by omega) (by omega)).mp z; omega
          have ib : mz_ib (nI c) 16 := ib_n c1 (by omega)
          obtain ⟨k1, k2, k3, k4, k5⟩ := (k12 c c1).2 c2
          obtain ⟨r1, r2, r3, r4, r5⟩ := (r12 c c1).2 c2
          have w1 := h3.cs.cc.wk c c1 c2
          have w2 := h3.cs.cr.wk c c1 c2
          have g288 : mz_gI (mz_pI N2 232 0 0) 288 (nI c) = nI (H.1 9 c) := by rw [gI_a, nI_clamp (by omega)]; exact r1
          have g289 : mz_gI (mz_pI N2 232 0 0) 289 (nI c) = nI (H.1 10 c) := by rw [gI_a, nI_clamp (by omega)]; exact r2
          have g290 : mz_gI (mz_pI N2 232 0 0) 290 (nI c) = nI (H.1 11 c) := by rw [gI_a, nI_clamp (by omega)]; exact r3
          have g291 : mz_gL (mz_pI N2 232 0 0) 291 (nI c) = (H.2.1 10 c).toInt64 := by rw [gL_a, nI_clamp (by omega)]; exact r4
          have g292 : mz_gL (mz_pI N2 232 0 0) 292 (nI c) = (H.2.1 11 c).toInt64 := by rw [gL_a, nI_clamp (by omega)]; exact r5
          have g293 : mz_gI (mz_pI N2 232 0 0) 293 (nI c) = x.wk c := by rw [gI_a, nI_clamp (by omega)]; exact w2
          rw [cd_563_54, cq_563_54]
          simp only [l, if_false, q0, q1, q2, q3, q4, g288, g289, g290, g291, g292, g293, e32, gI_a, nI_clamp (show c < 2 ^ 31 by omega)]
          refine ⟨⟨False.elim, fun _ => ⟨fun _ => ib, fun _ => ⟨fun _ => ib, fun _ => ⟨fun _ => ib, fun _ => ⟨fun _ => ib, fun _ => ⟨fun _ => ib, fun _ => ib⟩⟩⟩⟩⟩⟩, ?_⟩
          rcases (show f = 0 ∨ f = 1 ∨ f = 2 ∨ f = 3 ∨ f = 4 ∨ f = 5 by omega) with y | y | y | y | y | y <;> subst y
          · rw [if_pos rfl, k5]
          · rw [if_neg (by decide), if_pos rfl, k1]
          · rw [if_neg (by decide), if_neg (by decide), if_pos rfl, k2]
          · rw [if_neg (by decide), if_neg (by decide), if_neg (by decide), if_pos rfl, k3]
          · rw [if_neg (by decide), if_neg (by decide), if_neg (by decide), if_neg (by decide), if_pos rfl, k4]
          · rw [if_neg (by decide), if_neg (by decide), if_neg (by decide), if_neg (by decide), if_neg (by decide), w1]
        obtain ⟨b1', b2, b3, c, b4, b5, b6, b7⟩ := kth (m := m) (v2 := nI f) tb (fun j hj j1 => by
          obtain ⟨n, n1, n2⟩ := h3.iv.kb.tn j hj j1
          rw [n2, Int32.lt_iff_toInt_lt, nI_toInt (by omega)]
          have t1 : (-1 : Int32).toInt = -1 := rfl
          rw [t1]; omega) (fun i j a c d e f => h3.iv.ds i j a c d e f) hm n16 hV
        have n1 := (nI_neg2 (k := c) (by omega)).1
        have ec : (nI f).toNatClampNeg = f := nI_clamp (by omega)
        have ibc : mz_ib (nI c) 16 := ib_n b4 (by omega)
        have ibf : mz_ib (nI f) 6 := ib_n (by omega) (by omega)
        have e1 : cf_333_0 (nI m) (nI f) N1 = (0, mz_gI N1 (117 + f) (nI c)) := by simp only [cf_333_0, u2, a2, i1, i2, if_true, b6, if_neg n1, ec]
        have e2 : cf_563_0 (nI m) (nI f) N2 = (mz_gI N1 (117 + f) (nI c), mz_pI N2 232 0 0) := by simp only [cf_563_0, cf_563_34, a4, e466', j2, if_true, Ft, Bool.false_eq_true, if_false, b7]
        refine ⟨by simp [cp_333_0, u1, u2, a1, a2, p1, i1, p2, i2, b1', b6, n1, ibf, ibc], by simp [cp_563_0, cp_563_34, a3, a4, e466', j2, F1, Ft, b2, b3], caq_q h ⟨?_, ?_, ?_⟩⟩
        · rw [e1]; exact Nat.zero_le _
        · rw [e1, e2]; rfl
        · rw [e1, e2]; intro _; rfl
      · refine ⟨by simp [cp_333_0, u1, u2, a1, a2, p1, i1, p2, i2], by simp [cp_563_0, cp_563_33, cp_563_34, a3, a4, e466', j2, F1, Ff], caq_q h ⟨?_, ?_, ?_⟩⟩
        · simp [cf_333_0, u2, a2, i1, i2]
        · simp [cf_333_0, u2, a2, i1, i2, cf_563_0, cf_563_33, cf_563_34, a4, e466', j2, Ff]
        · simp [cf_333_0, u2, a2, i1, i2]
    · rw [i1] at e466
      have e466' : cf_466_0 v1.toInt64 0 (nI (sumN (H.1 8) 16) - 1).toInt64 = false := e466
      refine ⟨by simp [cp_333_0, u1, u2, a1, a2, p1, i1], by simp [cp_563_0, cp_563_33, cp_563_34, a3, a4, e466', F1, Ff], caq_q h ⟨?_, ?_, ?_⟩⟩
      · simp [cf_333_0, u2, a2, i1]
      · simp [cf_333_0, u2, a2, i1, cf_563_0, cf_563_33, cf_563_34, a4, e466', Ff]
      · simp [cf_333_0, u2, a2, i1]
  · have hd : dz N2 := by
      rcases h with hh | hh
      · obtain ⟨w1, w2⟩ := Sm_u hh
        have := (c104_u w1).2
        rw [u2] at this; cases this
      · exact Dn_z hh
    refine ⟨by simp [cp_333_0, u1, u2], by simp [cp_563_0, cp_563_33, cp_563_34, tk_d hd, F1, Fd], caq_q h ⟨?_, ?_, ?_⟩⟩
    · simp [cf_333_0, u2]
    · simp [cf_333_0, u2, cf_563_0, cf_563_33, cf_563_34, Fd]
    · simp [cf_333_0, u2]
end Tk
