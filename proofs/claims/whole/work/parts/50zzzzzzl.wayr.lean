/-! PURE (50zzzzzzl): the reference's ways. -/
def spR (N : mz_N) (n : Nat) (pl sp : Nat → Nat) : Prop := (∀ i, i < n → N.1 301 i = nI (pl i) ∧ pl i < 16 ∧ sp i < 240 ∧ N.1 288 (pl i) = nI (sp i / 48) ∧ N.1 289 (pl i) = nI (sp i % 48))
theorem spR.a {N : mz_N} {n : Nat} {pl sp : Nat → Nat} (h : spR N n pl sp) : ∀ i, i < n → N.1 301 i = nI (pl i) ∧ pl i < 16 ∧ sp i < 240 ∧ N.1 288 (pl i) = nI (sp i / 48) ∧ N.1 289 (pl i) = nI (sp i % 48) := h
/-- where one is: at home, or at a ticket -/
def atR (n : Nat) (pl sp : Nat → Nat) (v : Int32) (a : Nat) : Prop := (v = -1 ∧ a = 0) ∨ ∃ i, i < n ∧ v = nI (pl i) ∧ a = sp i
section Wr2
variable {N : mz_N} {n a c : Nat} {pl sp : Nat → Nat} {v v' : Int32}
theorem apart_n {x y : Nat} (hx : x < 2 ^ 30) (hy : y < 2 ^ 30) : cf_569_0 (nI x) (nI y) = nI (ad x y) := by
  have lt : (nI y < nI x) = (y < x) := propext (nI_ltI (by omega) (by omega))
  rw [cf_569_0]
  simp only [lt]
  unfold ad
  by_cases w : y < x
  · rw [if_pos w, pk_sub (by omega), show y - x = 0 by omega, Nat.add_zero]
  · rw [if_neg w, pk_sub (by omega), show x - y = 0 by omega, Nat.zero_add]
theorem at_b (h : spR N n pl sp) (ha : atR n pl sp v a) : a < 240 ∧ ((v < 0 ∧ a = 0) ∨ (¬ v < 0 ∧ mz_ib v 16 ∧ mz_gI N 288 v = nI (a / 48) ∧ mz_gI N 289 v = nI (a % 48))) := by
  rcases ha with ⟨e1, e2⟩ | ⟨i, hi, e1, e2⟩
  · rw [e1, e2]; exact ⟨by omega, Or.inl ⟨by decide, rfl⟩⟩
  · obtain ⟨h1, h2, h3, h4, h5⟩ := h.a i hi
    rw [e1, e2]
    refine ⟨h3, Or.inr ⟨(nI_neg2 (by omega)).2, ib_n h2 (by omega), ?_, ?_⟩⟩
    · rw [gI_a, nI_clamp (by omega)]; exact h4
    · rw [gI_a, nI_clamp (by omega)]; exact h5
theorem way_r (h : spR N n pl sp) (ha : atR n pl sp v a) (hc : atR n pl sp v' c) : cp_568_0 v v' N ∧ cf_568_0 v v' N = nI (wy a c) := by
  obtain ⟨a1, a2⟩ := at_b h ha
  obtain ⟨c1, c2⟩ := at_b h hc
  have r8 : ∀ x, x < 48 → mz_irem (nI x) 8 = nI (x % 8) := fun x hx => irem_n (d := 8) (by omega) (by omega) (by omega)
  have d8 : ∀ x, x < 48 → nI x / 8 = nI (x / 8) := fun x hx => pk_div (d := 8) (by omega) (by omega) (by omega)
  have fin : cf_568_61 (nI (c % 48)) (nI (a / 48)) (nI (c / 48)) (nI (a % 48)) N = nI (wy a c) := by
    rw [cf_568_61, r8 _ (by omega), r8 _ (by omega), d8 _ (by omega), d8 _ (by omega), apart_n (by omega) (by omega), apart_n (by omega) (by omega), apart_n (by omega) (by omega), show (10 : Int32) = nI 10 from rfl, pk_mul, nI_add, nI_add]
    unfold wy
    rw [show a % 48 % 8 = a % 8 by omega, show c % 48 % 8 = c % 8 by omega]
  have z0 : (0 : Int32) = nI (0 / 48) := rfl
  have z1 : (0 : Int32) = nI (0 % 48) := rfl
  have T : cp_568_0 v v' N := by
    rw [cp_568_0, cp_568_14, cp_568_14, cp_568_29, cp_568_29, cp_568_29, cp_568_29]
    refine ⟨fun _ => ⟨fun _ => ⟨fun _ => ?_, fun y => ⟨?_, ?_⟩⟩, fun y => ⟨?_, fun _ => ?_, fun y2 => ⟨?_, ?_⟩⟩⟩, fun y => ⟨?_, fun _ => ⟨fun _ => ?_, fun y2 => ⟨?_, ?_⟩⟩, fun y3 => ⟨?_, fun _ => ?_, fun y2 => ⟨?_, ?_⟩⟩⟩⟩
    all_goals first
      | exact ⟨fun _ => trivial, fun y4 => ⟨by rcases c2 with w | w; exact absurd w.1 y4; exact w.2.1, trivial⟩⟩
      | (rcases a2 with w | w <;> rcases c2 with w' | w' <;> first | exact w.2.1 | exact w'.2.1 | exact absurd w.1 (by assumption) | exact absurd w'.1 (by assumption))
  refine ⟨T, ?_⟩
  rcases a2 with ⟨w1, w2⟩ | ⟨w1, w2, w3, w4⟩
  · rcases c2 with ⟨u1, u2⟩ | ⟨u1, u2, u3, u4⟩
    · rw [cf_568_0, if_pos w1, cf_568_14, if_pos u1, cf_568_29, if_pos w1, cf_568_45, if_pos u1, ← fin, w2, u2]; rfl
    · rw [cf_568_0, if_pos w1, cf_568_14, if_neg u1, cf_568_29, if_pos w1, cf_568_45, if_neg u1, u3, u4, ← fin, w2]; rfl
  · rcases c2 with ⟨u1, u2⟩ | ⟨u1, u2, u3, u4⟩
    · rw [cf_568_0, if_neg w1, cf_568_14, if_pos u1, cf_568_29, if_neg w1, cf_568_45, if_pos u1, w3, w4, ← fin, u2]; rfl
    · rw [cf_568_0, if_neg w1, cf_568_14, if_neg u1, cf_568_29, if_neg w1, cf_568_45, if_neg u1, w3, w4, u3, u4, fin]
theorem pwc_b (hs : ∀ j, sp j < 240) : ∀ (l : List Nat) (a : Nat), a < 240 → pwc wy sp a l ≤ 60 * (l.length + 1) := by
  intro l
  induction l with
  | nil => intro a ha; exact Nat.le_trans (wy_b ha (show 0 < 240 by omega)) (by show 60 ≤ 60 * (0 + 1); omega)
  | cons j l ih =>
    intro a ha
    have h1 := wy_b ha (hs j)
    have h2 := ih (sp j) (hs j)
    show wy a (sp j) + pwc wy sp (sp j) l ≤ 60 * (l.length + 1 + 1)
    omega
theorem thru_r {l : List Nat} (h : spR N n pl sp) (hs : ∀ j, sp j < 240) (hn : n ≤ 6) (hl : l.length = n) (hp : ∀ i, i < n → N.1 299 i = nI (gd l i) ∧ gd l i < n) : cp_567_0 (nI n) N ∧ cf_567_0 (nI n) N = nI (pwc wy sp 0 l) := by
  rw [cp_567_0, cf_567_0, cp_567_7, cf_567_7]
  refine mz_lpn (f := cq_567_7 (nI n) N) (P := cd_567_7 (nI n) N) (Q := fun r => r = nI (pwc wy sp 0 l)) n (fun k s => ∃ acc v a, s = (nI acc, v, nI k) ∧ atR n pl sp v a ∧ a < 240 ∧ acc + pwc wy sp a (l.drop k) = pwc wy sp 0 l) ?_ ?_ (Nat.zero_le _) ⟨0, -1, 0, rfl, Or.inl ⟨rfl, rfl⟩, by omega, by rw [Nat.zero_add]; rfl⟩
  · rintro k s hk ⟨acc, v, a, rfl, ha, ha2, hacc⟩
    have lt : nI k < nI n := (nI_ltI (by omega) (by omega)).mpr hk
    obtain ⟨p1, p2⟩ := hp k hk
    obtain ⟨q1, q2, q3, q4, q5⟩ := h.a (gd l k) p2
    have g1 : mz_gI N 299 (nI k) = nI (gd l k) := by rw [gI_a, nI_clamp (by omega)]; exact p1
    have g2 : mz_gI N 301 (nI (gd l k)) = nI (pl (gd l k)) := by rw [gI_a, nI_clamp (by omega)]; exact q1
    have hc : atR n pl sp (nI (pl (gd l k))) (sp (gd l k)) := Or.inr ⟨gd l k, p2, rfl, rfl⟩
    obtain ⟨w1, w2⟩ := way_r h ha hc
    have ed : l.drop k = gd l k :: l.drop (k + 1) := by
      unfold gd
      rw [List.getD_eq_getElem?_getD, List.getElem?_eq_getElem (by omega)]
      exact List.drop_eq_getElem_cons (by omega)
    rw [cd_567_7, cq_567_7]
    simp only [lt, if_true, g1, g2, w2, nI_add, nI_1]
    refine ⟨⟨fun _ => ⟨ib_n (by omega) (by omega), ib_n (by omega) (by omega), w1, ib_n (by omega) (by omega), ib_n (by omega) (by omega)⟩, fun z => absurd trivial z⟩, Or.inl ⟨_, rfl, acc + wy a (sp (gd l k)), _, _, rfl, hc, q3, ?_⟩⟩
    rw [ed] at hacc
    have : acc + (wy a (sp (gd l k)) + pwc wy sp (sp (gd l k)) (l.drop (k + 1))) = pwc wy sp 0 l := hacc
    omega
  · rintro s ⟨acc, v, a, rfl, ha, ha2, hacc⟩
    have lt : ¬ nI n < nI n := fun z => by have := (nI_ltI (by omega) (by omega)).mp z; omega
    obtain ⟨w1, w2⟩ := way_r h ha (show atR n pl sp (-1) 0 from Or.inl ⟨rfl, rfl⟩)
    rw [cd_567_7, cq_567_7]
    simp only [lt, if_false, w2, nI_add]
    refine ⟨⟨False.elim, fun _ => w1⟩, _, rfl, ?_⟩
    have e0 : l.drop n = [] := by rw [← hl]; exact List.drop_length
    rw [e0] at hacc
    have : acc + wy a 0 = pwc wy sp 0 l := hacc
    rw [this]
end Wr2
