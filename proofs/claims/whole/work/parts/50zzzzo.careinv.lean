/-! PURE (50zzzzo): what stays true in care and wear. -/
def CI (q : Nat) (st : Bool) (H : Kp) (x : CrS) : Prop := (∃ tm, tm ≤ 2000000 ∧ H.2.1 5 0 = nI tm ∧ ∀ i, i < x.oc → tm + b1 st ≤ x.od i ∧ x.od i ≤ tm + 480) ∧ (∀ i j, i ≤ j → j < x.oc → x.od i ≤ x.od j) ∧ (∃ cr, H.2.1 5 2 = nI cr ∧ cr + 3000 * sumN x.om x.oc + 500 * ((x.vs 0 - x.vd 0) + (x.vs 1 - x.vd 1)) ≤ 100000000 + 10000 * q) ∧ (x.oc ≤ 8) ∧ (∀ i, i < x.oc → x.op i < 3 ∧ x.om i < 100000 ∧ x.od i < 2 ^ 30) ∧ (∀ u, u < 2 → x.vs u ≤ 6 ∧ x.vd u ≤ 6 ∧ (x.vs u = 0 ∨ x.vd u ≤ x.vs u)) ∧ (∀ u, u < 2 → ∀ i, x.vd u ≤ i → i < x.vs u → x.tp u i < 16 ∧ H.1 8 (x.tp u i) = 1) ∧ (∀ u, u < 2 → ∀ i, i < x.vs u → x.tt u i < 2 ^ 30) ∧ (∀ u, u < 2 → x.bk u < 2 ^ 30) ∧ (∀ u i v j, u < 2 → v < 2 → x.vd u ≤ i → i < x.vs u → x.vd v ≤ j → j < x.vs v → x.tp u i = x.tp v j → u = v ∧ i = j) ∧ (∀ j, j < 16 → H.1 8 j = 1 → ∃ n, n < x.nn ∧ H.2.1 11 j = nI n) ∧ (∀ j, j < 16 → H.1 8 j = 1 → x.wk j = -1 ∨ ∃ u, u < 2 ∧ x.wk j = nI u) ∧ (∀ u, u < 2 → ∀ i, x.vd u ≤ i → i < x.vs u → x.wk (x.tp u i) = nI u)
theorem CI.tm {q : Nat} {st : Bool} {H : Kp} {x : CrS} (h : CI q st H x) : ∃ tm, tm ≤ 2000000 ∧ H.2.1 5 0 = nI tm ∧ ∀ i, i < x.oc → tm + b1 st ≤ x.od i ∧ x.od i ≤ tm + 480 := h.1
theorem CI.so {q : Nat} {st : Bool} {H : Kp} {x : CrS} (h : CI q st H x) : ∀ i j, i ≤ j → j < x.oc → x.od i ≤ x.od j := h.2.1
theorem CI.cs {q : Nat} {st : Bool} {H : Kp} {x : CrS} (h : CI q st H x) : ∃ cr, H.2.1 5 2 = nI cr ∧ cr + 3000 * sumN x.om x.oc + 500 * ((x.vs 0 - x.vd 0) + (x.vs 1 - x.vd 1)) ≤ 100000000 + 10000 * q := h.2.2.1
theorem CI.oc {q : Nat} {st : Bool} {H : Kp} {x : CrS} (h : CI q st H x) : x.oc ≤ 8 := h.2.2.2.1
theorem CI.od {q : Nat} {st : Bool} {H : Kp} {x : CrS} (h : CI q st H x) : ∀ i, i < x.oc → x.op i < 3 ∧ x.om i < 100000 ∧ x.od i < 2 ^ 30 := h.2.2.2.2.1
theorem CI.vs {q : Nat} {st : Bool} {H : Kp} {x : CrS} (h : CI q st H x) : ∀ u, u < 2 → x.vs u ≤ 6 ∧ x.vd u ≤ 6 ∧ (x.vs u = 0 ∨ x.vd u ≤ x.vs u) := h.2.2.2.2.2.1
theorem CI.tp {q : Nat} {st : Bool} {H : Kp} {x : CrS} (h : CI q st H x) : ∀ u, u < 2 → ∀ i, x.vd u ≤ i → i < x.vs u → x.tp u i < 16 ∧ H.1 8 (x.tp u i) = 1 := h.2.2.2.2.2.2.1
theorem CI.tt {q : Nat} {st : Bool} {H : Kp} {x : CrS} (h : CI q st H x) : ∀ u, u < 2 → ∀ i, i < x.vs u → x.tt u i < 2 ^ 30 := h.2.2.2.2.2.2.2.1
theorem CI.bk {q : Nat} {st : Bool} {H : Kp} {x : CrS} (h : CI q st H x) : ∀ u, u < 2 → x.bk u < 2 ^ 30 := h.2.2.2.2.2.2.2.2.1
theorem CI.ds {q : Nat} {st : Bool} {H : Kp} {x : CrS} (h : CI q st H x) : ∀ u i v j, u < 2 → v < 2 → x.vd u ≤ i → i < x.vs u → x.vd v ≤ j → j < x.vs v → x.tp u i = x.tp v j → u = v ∧ i = j := h.2.2.2.2.2.2.2.2.2.1
theorem CI.nu {q : Nat} {st : Bool} {H : Kp} {x : CrS} (h : CI q st H x) : ∀ j, j < 16 → H.1 8 j = 1 → ∃ n, n < x.nn ∧ H.2.1 11 j = nI n := h.2.2.2.2.2.2.2.2.2.2.1
theorem CI.wk {q : Nat} {st : Bool} {H : Kp} {x : CrS} (h : CI q st H x) : ∀ j, j < 16 → H.1 8 j = 1 → x.wk j = -1 ∨ ∃ u, u < 2 ∧ x.wk j = nI u := h.2.2.2.2.2.2.2.2.2.2.2.1
theorem CI.tw {q : Nat} {st : Bool} {H : Kp} {x : CrS} (h : CI q st H x) : ∀ u, u < 2 → ∀ i, x.vd u ≤ i → i < x.vs u → x.wk (x.tp u i) = nI u := h.2.2.2.2.2.2.2.2.2.2.2.2
def IvS (q : Nat) (st : Bool) (sl : Kp → Nat) (D H : Kp) (x : CrS) : Prop := (Jd q D) ∧ (KB q H) ∧ (plB (H.1 0) (H.1 1)) ∧ ((prs (H.1 4) (H.1 5 0)).1 = 0) ∧ (tDs H) ∧ (KA D H) ∧ (CI q st H x) ∧ (x.nn + sl H ≤ 1000000000 + 4 * q)
theorem IvS.jd {q : Nat} {st : Bool} {sl : Kp → Nat} {D H : Kp} {x : CrS} (h : IvS q st sl D H x) : Jd q D := h.1
theorem IvS.kb {q : Nat} {st : Bool} {sl : Kp → Nat} {D H : Kp} {x : CrS} (h : IvS q st sl D H x) : KB q H := h.2.1
theorem IvS.pl {q : Nat} {st : Bool} {sl : Kp → Nat} {D H : Kp} {x : CrS} (h : IvS q st sl D H x) : plB (H.1 0) (H.1 1) := h.2.2.1
theorem IvS.pr {q : Nat} {st : Bool} {sl : Kp → Nat} {D H : Kp} {x : CrS} (h : IvS q st sl D H x) : (prs (H.1 4) (H.1 5 0)).1 = 0 := h.2.2.2.1
theorem IvS.ds {q : Nat} {st : Bool} {sl : Kp → Nat} {D H : Kp} {x : CrS} (h : IvS q st sl D H x) : tDs H := h.2.2.2.2.1
theorem IvS.ka {q : Nat} {st : Bool} {sl : Kp → Nat} {D H : Kp} {x : CrS} (h : IvS q st sl D H x) : KA D H := h.2.2.2.2.2.1
theorem IvS.ci {q : Nat} {st : Bool} {sl : Kp → Nat} {D H : Kp} {x : CrS} (h : IvS q st sl D H x) : CI q st H x := h.2.2.2.2.2.2.1
theorem IvS.nn {q : Nat} {st : Bool} {sl : Kp → Nat} {D H : Kp} {x : CrS} (h : IvS q st sl D H x) : x.nn + sl H ≤ 1000000000 + 4 * q := h.2.2.2.2.2.2.2
theorem sumN_hd {f : Nat → Nat} : ∀ n, sumN f (n + 1) = f 0 + sumN (fun i => f (i + 1)) n := by
  intro n
  induction n with
  | zero => show 0 + f 0 = f 0 + 0; omega
  | succ n ih =>
    show sumN f (n + 1) + f (n + 1) = f 0 + (sumN (fun i => f (i + 1)) n + f (n + 1))
    rw [ih]; omega
section Cl
variable {D H : Kp} {x : CrS} {q : Nat} {st : Bool} {sl : Kp → Nat} {u v : Nat}
theorem CI_ok (hq : q < 2 ^ 15) (h : IvS q st sl D H x) : Cok H x := by
  obtain ⟨tm, t1, t2, t3⟩ := h.ci.tm
  obtain ⟨cr, c1, c2⟩ := h.ci.cs
  have hn := h.nn
  exact ⟨⟨tm, by omega, t2, fun i hi => by have := t3 i hi; omega⟩, ⟨cr, by omega, c1⟩, h.ci.oc, h.ci.od, h.ci.vs, h.ci.tp, h.ci.tt, h.ci.bk, by omega⟩
theorem sw_cl (h : IvS q false sl D H x) (hn : ¬ (0 < x.oc ∧ H.2.1 5 0 = nI (x.od 0))) : IvS q true sl D H x := by
  obtain ⟨h1, h2, h3, h4, h5, h6, h7, h8⟩ := h
  refine ⟨h1, h2, h3, h4, h5, h6, ?_, h8⟩
  obtain ⟨⟨tm, t1, t2, t3⟩, c2, c3, c4, c5, c6, c7, c8, c9, c10, c11⟩ := h7
  refine ⟨⟨tm, t1, t2, fun i hi => ?_⟩, c2, c3, c4, c5, c6, c7, c8, c9, c10, c11⟩
  have a1 := t3 0 (by omega)
  have a2 : x.od 0 ≠ tm := fun z => hn ⟨by omega, by rw [t2, z]⟩
  have a3 := c2 0 i (Nat.zero_le _) hi
  have e0 : b1 false = 0 := rfl
  have a4 := t3 i hi
  show tm + 1 ≤ x.od i ∧ x.od i ≤ tm + 480
  omega
/-- a change of parts and books alone -/
theorem KA_pb {G : Kp} {l : List (Nat × Nat)} (hA : KA D H) (ha : gka l) (ht : ∀ k, k ∈ l → kxt G k.1 k.2) (e1 : ∀ f, f ≠ 7 → G.1 f = H.1 f) (e2 : ∀ f, f = 0 ∨ f = 1 ∨ f = 10 ∨ f = 11 ∨ f = 12 → G.2.1 f = H.2.1 f) : KA (DG (gkl l) D G l.length) G := by
  refine KA_DG hA ha ht (fun k hk hk2 _ => ?_)
  by_cases w : kdk k = 12
  · rw [w]
    show H.1 8 _ = G.1 8 _ ∧ (H.1 8 _ = 1 → H.1 9 _ = G.1 9 _ ∧ H.1 10 _ = G.1 10 _ ∧ H.1 11 _ = G.1 11 _ ∧ H.2.1 10 _ = G.2.1 10 _ ∧ H.2.1 11 _ = G.2.1 11 _)
    rw [e1 8 (by omega), e1 9 (by omega), e1 10 (by omega), e1 11 (by omega), e2 10 (by omega), e2 11 (by omega)]
    exact ⟨rfl, fun _ => ⟨rfl, rfl, rfl, rfl, rfl⟩⟩
  · exact kag_f (fun f hf => e1 f (by omega)) (fun f hf => e2 f (by omega)) hk (by omega)
theorem or_cl (hsl : ∀ G : Kp, G.1 = H.1 → sl G = sl H) (h : IvS q false sl D H x) (h0 : 0 < x.oc) (ht : H.2.1 5 0 = nI (x.od 0)) : IvS q false sl (DG (gkl [(11, x.op 0), (9, 0)]) D (orH H x) 2) (orH H x) (orX x) := by
  have hI := h
  obtain ⟨h1, h2, h3, h4, h5, h6, h7, h8⟩ := h
  obtain ⟨⟨tm, t1, t2, t3⟩, c2, ⟨cr, r1, r2⟩, c4, c5, c6, c7, c8, c9, c10, c11⟩ := h7
  have hp := (c5 0 h0).1
  have hs : sumN x.om x.oc = x.om 0 + sumN (fun i => x.om (i + 1)) (x.oc - 1) := by
    have := sumN_hd (f := x.om) (x.oc - 1)
    rw [show x.oc - 1 + 1 = x.oc by omega] at this
    exact this
  have ec : (orH H x).2.1 5 2 = nI (cr + 3000 * x.om 0) := by
    show H.2.1 5 2 + nI (3000 * x.om 0) = _
    rw [r1, nI_add]
  have ha : gka [(11, x.op 0), (9, 0)] := gka_c (by omega) (by omega) (kyo_11 _ hp) (gka_c (by omega) (by omega) kyo_9 gka_n)
  have e2 : ∀ f, f ≠ 5 → f ≠ 9 → (orH H x).2.1 f = H.2.1 f := fun f a b => by unfold orH; rw [kI2 f b a]
  have hKB : KB q (orH H x) := by
    obtain ⟨d1, d2, d3, d4, d5, d6, d7, d8, d9, d10, d11, d12, d13, d14, d15, d16, d17⟩ := h2
    exact ⟨d1, d2, d3, d4, d5, d6, d7, d8, d9, d10, d11, ⟨_, by omega, ec⟩, d13, d14, d15, d16, d17⟩
  have hA : KA (DG (gkl [(11, x.op 0), (9, 0)]) D (orH H x) 2) (orH H x) := KA_pb (l := [(11, x.op 0), (9, 0)]) h6 ha (al_c (kxt_n (show 11 ≤ 12 by omega)) (al_c (kxt_n (show 9 ≤ 12 by omega)) al_n)) (fun _ _ => rfl) (fun f hf => e2 f (by omega) (by omega))
  have hJ : Jd q (DG (gkl [(11, x.op 0), (9, 0)]) D (orH H x) 2) := Jd_DG (l := [(11, x.op 0), (9, 0)]) h1 hKB h5 hA (al_c (show 8 ≤ 11 ∧ 11 ≤ 12 by omega) (al_c (show 8 ≤ 9 ∧ 9 ≤ 12 by omega) al_n)) ha
  refine ⟨hJ, hKB, h3, h4, h5, hA, ⟨⟨tm, t1, t2, fun i hi => ?_⟩, fun i j hij hj => ?_, ⟨cr + 3000 * x.om 0, ec, ?_⟩, ?_, fun i hi => ?_, c6, c7, c8, c9, c10, c11⟩, by rw [hsl (orH H x) rfl]; exact h8⟩
  · have hi' : i < x.oc - 1 := hi
    exact t3 (i + 1) (by omega)
  · have hj' : j < x.oc - 1 := hj
    exact c2 (i + 1) (j + 1) (by omega) (by omega)
  · show cr + 3000 * x.om 0 + 3000 * sumN (fun i => x.om (i + 1)) (x.oc - 1) + 500 * ((x.vs 0 - x.vd 0) + (x.vs 1 - x.vd 1)) ≤ _
    omega
  · show x.oc - 1 ≤ 8
    omega
  · have hi' : i < x.oc - 1 := hi
    exact c5 (i + 1) (by omega)
theorem bk_cl (h : IvS q st sl D H x) (hu : u < 2) : IvS q st sl D H (bkX x u) := by
  obtain ⟨h1, h2, h3, h4, h5, h6, h7, h8⟩ := h
  obtain ⟨c1, c2, ⟨cr, r1, r2⟩, c4, c5, c6, c7, c8, c9, c10, c11⟩ := h7
  have V : ∀ t i, up x.vd u 0 t ≤ i → i < up x.vs u 0 t → t ≠ u ∧ x.vd t ≤ i ∧ i < x.vs t := fun t i a b => by
    rw [up_d] at a b
    by_cases w : t = u
    · rw [if_pos w] at b; omega
    · rw [if_neg w] at a b; exact ⟨w, a, b⟩
  refine ⟨h1, h2, h3, h4, h5, h6, ⟨c1, c2, ⟨cr, r1, ?_⟩, c4, c5, fun t ht => ?_, fun t ht i a b => ?_, fun t ht i b => ?_, c9, fun t i s j ht hs a b c d e => ?_, c11.1, c11.2.1, fun t ht i a b => c11.2.2 t ht i (V t i a b).2.1 (V t i a b).2.2⟩, h8⟩
  · show cr + 3000 * sumN x.om x.oc + 500 * ((up x.vs u 0 0 - up x.vd u 0 0) + (up x.vs u 0 1 - up x.vd u 0 1)) ≤ _
    rw [up_d, up_d, up_d, up_d]
    split <;> split <;> omega
  · show up x.vs u 0 t ≤ 6 ∧ up x.vd u 0 t ≤ 6 ∧ (up x.vs u 0 t = 0 ∨ up x.vd u 0 t ≤ up x.vs u 0 t)
    rw [up_d, up_d]
    split
    · omega
    · exact c6 t ht
  · obtain ⟨w, a', b'⟩ := V t i a b
    exact c7 t ht i a' b'
  · have b' : i < up x.vs u 0 t := b
    rw [up_d] at b'
    by_cases w : t = u
    · rw [if_pos w] at b'; omega
    · rw [if_neg w] at b'; exact c8 t ht i b'
  · obtain ⟨_, a1, a2⟩ := V t i a b
    obtain ⟨_, a3, a4⟩ := V s j c d
    exact c10 t i s j ht hs a1 a2 a3 a4 e
theorem viH_1 {p : Nat} : ∀ f, f ≠ 7 → f ≠ 8 → (viH H p).1 f = H.1 f := fun f a b => by
  unfold viH
  split
  · show up (up H.1 8 _) 7 _ f = _
    rw [up_d, if_neg a, up_d, if_neg b]
  · show up H.1 8 _ f = _
    rw [up_d, if_neg b]
theorem viH_2 {p : Nat} : ∀ f, f ≠ 5 → f ≠ 8 → f ≠ 9 → (viH H p).2.1 f = H.2.1 f := fun f a b c => by
  unfold viH
  split
  · show up (up (up H.2.1 5 _) 9 _) 8 _ f = _
    rw [up_d, if_neg b, up_d, if_neg c, up_d, if_neg a]
  · show up H.2.1 5 _ f = _
    rw [up_d, if_neg a]
theorem viH_5 {p : Nat} : (viH H p).2.1 5 = up (H.2.1 5) 2 (H.2.1 5 2 + 500) := by
  unfold viH
  split <;> rfl
theorem viH_w {p v : Nat} : (viH H p).2.1 8 v = 0 ∨ (viH H p).2.1 8 v = H.2.1 8 v := by
  unfold viH
  split
  · show up (H.2.1 8) _ 0 v = 0 ∨ up (H.2.1 8) _ 0 v = _
    rw [up_d]; split
    · exact Or.inl rfl
    · exact Or.inr rfl
  · exact Or.inr rfl
theorem viH_t {p j : Nat} (h : (viH H p).1 8 j = 1) : j ≠ p ∧ H.1 8 j = 1 := by
  rw [viH_8, up_d] at h
  by_cases w : j = p
  · rw [if_pos w] at h; cases h
  · rw [if_neg w] at h; exact ⟨w, h⟩
theorem viK_a {p : Nat} (hp : p < 16) : gka (viK H p) ∧ (∀ k, k ∈ viK H p → 8 ≤ k.1 ∧ k.1 ≤ 12) := by
  unfold viK viL
  by_cases q3 : H.1 11 p < 3
  · rw [if_pos q3]
    exact ⟨gka_c (by omega) (by omega) (kyo_12 _ hp) (gka_c (by omega) (by omega) (kyo_11 _ q3) (gka_c (by omega) (by omega) kyo_9 gka_n)), al_c (show 8 ≤ 12 ∧ 12 ≤ 12 by omega) (al_c (show 8 ≤ 11 ∧ 11 ≤ 12 by omega) (al_c (show 8 ≤ 9 ∧ 9 ≤ 12 by omega) al_n))⟩
  · rw [if_neg q3]
    exact ⟨gka_c (by omega) (by omega) (kyo_12 _ hp) (gka_c (by omega) (by omega) kyo_9 gka_n), al_c (show 8 ≤ 12 ∧ 12 ≤ 12 by omega) (al_c (show 8 ≤ 9 ∧ 9 ≤ 12 by omega) al_n)⟩
/-- a change of tickets: those that the group does not write stay -/
theorem KA_tk {G : Kp} {l : List (Nat × Nat)} {p : Nat} (hA : KA D H) (ha : gka l) (ht : ∀ k, k ∈ l → kxt G k.1 k.2) (hm : (12, p) ∈ l) (e1 : ∀ f, f < 7 ∨ 12 ≤ f → G.1 f = H.1 f) (e2 : ∀ f, f = 0 ∨ f = 1 ∨ f = 12 → G.2.1 f = H.2.1 f) (e3 : ∀ j, j ≠ p → G.1 8 j = H.1 8 j ∧ G.1 9 j = H.1 9 j ∧ G.1 10 j = H.1 10 j ∧ G.1 11 j = H.1 11 j ∧ G.2.1 10 j = H.2.1 10 j ∧ G.2.1 11 j = H.2.1 11 j) : KA (DG (gkl l) D G l.length) G := by
  refine KA_DG hA ha ht (fun k hk hk2 hn => ?_)
  by_cases w : kdk k = 12
  · have hj : ixk k ≠ p := fun z => hn (by
      obtain ⟨i, h1, h2⟩ := gkl_m hm
      refine ⟨i, h1, ?_⟩
      rw [h2]
      have := kyo_of k hk
      rw [w, z] at this
      exact this)
    obtain ⟨a1, a2, a3, a4, a5, a6⟩ := e3 _ hj
    rw [w]
    show H.1 8 _ = G.1 8 _ ∧ (H.1 8 _ = 1 → H.1 9 _ = G.1 9 _ ∧ H.1 10 _ = G.1 10 _ ∧ H.1 11 _ = G.1 11 _ ∧ H.2.1 10 _ = G.2.1 10 _ ∧ H.2.1 11 _ = G.2.1 11 _)
    rw [a1, a2, a3, a4, a5, a6]
    exact ⟨rfl, fun _ => ⟨rfl, rfl, rfl, rfl, rfl⟩⟩
  · exact kag_f e1 e2 hk (by omega)
theorem vi_cl (h : IvS q st (fun _ => 0) D H x) (hu : u < 2) (hv : vis H x u) : IvS q st (fun _ => 0) (DG (gkl (viK H (x.tp u (x.vd u)))) D (viH H (x.tp u (x.vd u))) (viK H (x.tp u (x.vd u))).length) (viH H (x.tp u (x.vd u))) (viX x u) := by
  obtain ⟨h1, h2, h3, h4, h5, h6, h7, h8⟩ := h
  obtain ⟨⟨tm, t1, t2, t3⟩, c2, ⟨cr, r1, r2⟩, c4, c5, c6, c7, c8, c9, c10, c11⟩ := h7
  obtain ⟨w1, w2⟩ := hv
  obtain ⟨hp, hp8⟩ := c7 u hu _ (Nat.le_refl _) w1
  have hpd : ∀ t i, t < 2 → x.vd t ≤ i → i < x.vs t → ¬ (t = u ∧ i = x.vd u) → x.tp t i ≠ x.tp u (x.vd u) := fun t i ht a b hn z => hn (c10 t i u (x.vd u) ht hu a b (Nat.le_refl _) w1 z)
  generalize hpe : x.tp u (x.vd u) = p at hp hp8 hpd ⊢
  have e5 : (viH H p).2.1 5 0 = H.2.1 5 0 := by rw [viH_5, up_d, if_neg (by decide)]
  have e51 : (viH H p).2.1 5 1 = H.2.1 5 1 := by rw [viH_5, up_d, if_neg (by decide)]
  have e52 : (viH H p).2.1 5 2 = nI (cr + 500) := by rw [viH_5, up_d, if_pos rfl, r1, show (500 : Int32) = nI 500 from rfl, nI_add]
  obtain ⟨ha, hm⟩ := viK_a (H := H) hp
  have pend : 1 ≤ x.vs u - x.vd u := by omega
  have cb : cr + 500 + 3000 * sumN x.om x.oc + 500 * ((x.vs 0 - up x.vd u (x.vd u + 1) 0) + (x.vs 1 - up x.vd u (x.vd u + 1) 1)) ≤ 100000000 + 10000 * q := by
    rw [up_d, up_d]
    rcases (show u = 0 ∨ u = 1 by omega) with z | z
    · subst z; rw [if_pos rfl, if_neg (by decide)]; omega
    · subst z; rw [if_neg (by decide), if_pos rfl]; omega
  have hKB : KB q (viH H p) := by
    obtain ⟨d1, d2, d3, d4, d5, d6, d7, d8, d9, d10, d11, d12, d13, d14, d15, d16, d17⟩ := h2
    refine ⟨?_, ?_, ?_, ?_, ?_, ?_, ?_, ?_, ?_, ?_, ?_, ⟨cr + 500, by omega, e52⟩, fun v hv => ?_, ?_, fun j hj hj8 => ?_, fun j hj hj8 => ?_, fun j hj hj8 => ?_⟩
    · rw [viH_1 2 (by decide) (by decide)]; exact d1
    · rw [viH_1 6 (by decide) (by decide)]; exact d2
    · rw [viH_2 1 (by decide) (by decide) (by decide)]; exact d3
    · rw [viH_2 0 (by decide) (by decide) (by decide)]; exact d4
    · rw [viH_2 6 (by decide) (by decide) (by decide)]; exact d5
    · rw [viH_2 6 (by decide) (by decide) (by decide)]; exact d6
    · rw [viH_2 2 (by decide) (by decide) (by decide)]; exact d7
    · rw [viH_2 3 (by decide) (by decide) (by decide)]; exact d8
    · rw [viH_2 4 (by decide) (by decide) (by decide)]; exact d9
    · rw [e5]; exact d10
    · rw [e51]; exact d11
    · rcases viH_w (H := H) (p := p) (v := v) with z | z
      · exact ⟨0, Nat.zero_le _, z⟩
      · rw [z]; exact d13 v hv
    · rw [viH_1 19 (by decide) (by decide), viH_1 20 (by decide) (by decide), viH_1 21 (by decide) (by decide)]; exact d14
    · rw [viH_2 11 (by decide) (by decide) (by decide)]; exact d15 j hj (viH_t hj8).2
    · rw [viH_1 9 (by decide) (by decide), viH_1 10 (by decide) (by decide), viH_1 11 (by decide) (by decide)]; exact d16 j hj (viH_t hj8).2
    · rw [viH_2 10 (by decide) (by decide) (by decide)]; exact d17 j hj (viH_t hj8).2
  have hds : tDs (viH H p) := fun i j hi hj a b c => by
    rw [viH_2 11 (by decide) (by decide) (by decide)] at c
    exact h5 i j hi hj (viH_t a).2 (viH_t b).2 c
  have hA : KA (DG (gkl (viK H p)) D (viH H p) (viK H p).length) (viH H p) := by
    refine KA_tk (p := p) h6 ha (fun k hk => kxt_n (by have := hm k hk; omega)) (by unfold viK; exact List.mem_cons_self) (fun f hf => viH_1 f (by omega) (by omega)) (fun f hf => viH_2 f (by omega) (by omega) (by omega)) (fun j hj => ?_)
    rw [viH_8, up_d, if_neg hj, viH_1 9 (by decide) (by decide), viH_1 10 (by decide) (by decide), viH_1 11 (by decide) (by decide), viH_2 10 (by decide) (by decide) (by decide), viH_2 11 (by decide) (by decide) (by decide)]
    exact ⟨rfl, rfl, rfl, rfl, rfl, rfl⟩
  have hJ := Jd_DG h1 hKB hds hA hm ha
  have V : ∀ t i, up x.vd u (x.vd u + 1) t ≤ i → x.vd t ≤ i ∧ ¬ (t = u ∧ i = x.vd u) := fun t i a => by
    rw [up_d] at a
    by_cases z : t = u
    · rw [if_pos z] at a; subst z; exact ⟨by omega, fun y => by omega⟩
    · rw [if_neg z] at a; exact ⟨a, fun y => z y.1⟩
  refine ⟨hJ, hKB, by rw [viH_1 0 (by decide) (by decide), viH_1 1 (by decide) (by decide)]; exact h3, by rw [viH_1 4 (by decide) (by decide), viH_1 5 (by decide) (by decide)]; exact h4, hds, hA, ⟨⟨tm, t1, by rw [e5]; exact t2, t3⟩, c2, ⟨cr + 500, e52, cb⟩, c4, c5, fun t ht => ?_, fun t ht i a b => ?_, c8, c9, fun t i s j ht hs a b c d e => ?_, fun j hj hj8 => ?_, fun j hj hj8 => c11.2.1 j hj (viH_t hj8).2, fun t ht i a b => c11.2.2 t ht i (V t i a).1 b⟩, h8⟩
  · show x.vs t ≤ 6 ∧ up x.vd u (x.vd u + 1) t ≤ 6 ∧ (x.vs t = 0 ∨ up x.vd u (x.vd u + 1) t ≤ x.vs t)
    rw [up_d]
    have := c6 t ht
    split
    · rename_i z; subst z; omega
    · exact this
  · obtain ⟨a1, a2⟩ := V t i a
    obtain ⟨y1, y2⟩ := c7 t ht i a1 b
    refine ⟨y1, ?_⟩
    show (viH H p).1 8 (x.tp t i) = 1
    rw [viH_8, up_d, if_neg (hpd t i ht a1 b a2)]
    exact y2
  · exact c10 t i s j ht hs (V t i a).1 b (V s j c).1 d e
  · rw [viH_2 11 (by decide) (by decide) (by decide)]; exact c11.1 j hj (viH_t hj8).2
/-- how many tickets parts may still ask for -/
def slW (H : Kp) : Nat := 4 - (H.1 7 0 + H.1 7 1 + H.1 7 2)
theorem wfK_a (hv : v < 3) : gka (wfK v H) ∧ (∀ k, k ∈ wfK v H → 11 ≤ k.1 ∧ k.1 ≤ 12) := by
  unfold wfK
  split
  · rename_i w
    exact ⟨gka_c (by omega) (by omega) (kyo_12 _ w) (gka_c (by omega) (by omega) (kyo_11 _ hv) gka_n), al_c (show 11 ≤ 12 ∧ 12 ≤ 12 by omega) (al_c (show 11 ≤ 11 ∧ 11 ≤ 12 by omega) al_n)⟩
  · exact ⟨gka_c (by omega) (by omega) (kyo_11 _ hv) gka_n, al_c (show 11 ≤ 11 ∧ 11 ≤ 12 by omega) al_n⟩
theorem wf_cl (hb : ∀ j, H.1 7 j ≤ 1) (hv : v < 3) (h : IvS q st slW D H x) (h7 : H.1 7 v = 0) (hq : q < 2 ^ 15) : IvS q st slW (DG (gkl (wfK v H)) D (wfH v H x) (wfK v H).length) (wfH v H x) (wfX H x) := by
  obtain ⟨h1, h2, h3, h4, h5, h6, h7', h8⟩ := h
  obtain ⟨ha, hm⟩ := wfK_a (H := H) hv
  have sl1 : ∀ G : Kp, G.1 7 = up (H.1 7) v 1 → slW G + 1 = slW H := fun G e => by
    unfold slW
    rw [e, up_d, up_d, up_d]
    have b0 := hb 0
    have b1' := hb 1
    have b2 := hb 2
    rcases (show v = 0 ∨ v = 1 ∨ v = 2 by omega) with z | z | z
    · subst z; rw [if_pos rfl, if_neg (by decide), if_neg (by decide)]; omega
    · subst z; rw [if_neg (by decide), if_pos rfl, if_neg (by decide)]; omega
    · subst z; rw [if_neg (by decide), if_neg (by decide), if_pos rfl]; omega
  obtain ⟨⟨tm, t1, t2, t3⟩, c2, c3, c4, c5, c6, c7, c8, c9, c10, c11⟩ := h7'
  by_cases w : wfp H < 16
  · have eH : wfH v H x = tkH (kS H 7 v 1) (wfp H) 0 v v (H.2.1 5 0) (nI x.nn) := if_pos w
    have eX : wfX H x = tkX x (wfp H) := if_pos w
    have eK : wfK v H = [(12, wfp H), (11, v)] := if_pos w
    have hz : H.1 8 (wfp H) = 0 := fz_z (t := H.1 8) 16 w
    rw [eK] at ha hm
    rw [eH, eX, eK]
    have s1 := sl1 (tkH (kS H 7 v 1) (wfp H) 0 v v (H.2.1 5 0) (nI x.nn)) rfl
    generalize wfp H = p at *
    have f8 : ∀ j, (tkH (kS H 7 v 1) p 0 v v (H.2.1 5 0) (nI x.nn)).1 8 j = if j = p then 1 else H.1 8 j := fun j => rfl
    have f9 : ∀ j, (tkH (kS H 7 v 1) p 0 v v (H.2.1 5 0) (nI x.nn)).1 9 j = if j = p then 0 else H.1 9 j := fun j => rfl
    have f10 : ∀ j, (tkH (kS H 7 v 1) p 0 v v (H.2.1 5 0) (nI x.nn)).1 10 j = if j = p then v else H.1 10 j := fun j => rfl
    have f11 : ∀ j, (tkH (kS H 7 v 1) p 0 v v (H.2.1 5 0) (nI x.nn)).1 11 j = if j = p then v else H.1 11 j := fun j => rfl
    have g10 : ∀ j, (tkH (kS H 7 v 1) p 0 v v (H.2.1 5 0) (nI x.nn)).2.1 10 j = if j = p then H.2.1 5 0 else H.2.1 10 j := fun j => rfl
    have g11 : ∀ j, (tkH (kS H 7 v 1) p 0 v v (H.2.1 5 0) (nI x.nn)).2.1 11 j = if j = p then nI x.nn else H.2.1 11 j := fun j => rfl
    have e1 : ∀ f, f < 7 ∨ 12 ≤ f → (tkH (kS H 7 v 1) p 0 v v (H.2.1 5 0) (nI x.nn)).1 f = H.1 f := fun f hf => by rw [tkH_1 f (by omega) (by omega) (by omega) (by omega), kS_1 f (by omega)]
    have e2 : ∀ f, f ≠ 10 → f ≠ 11 → (tkH (kS H 7 v 1) p 0 v v (H.2.1 5 0) (nI x.nn)).2.1 f = H.2.1 f := fun f a b => tkH_2 f a b
    have e3 : (tkH (kS H 7 v 1) p 0 v v (H.2.1 5 0) (nI x.nn)).2.2 = H.2.2 := rfl
    generalize tkH (kS H 7 v 1) p 0 v v (H.2.1 5 0) (nI x.nn) = G at *
    have hKB : KB q G := by
      obtain ⟨d1, d2, d3, d4, d5, d6, d7, d8, d9, d10, d11, d12, d13, d14, d15, d16, d17⟩ := h2
      refine ⟨?_, ?_, ?_, ?_, ?_, ?_, ?_, ?_, ?_, ?_, ?_, ?_, ?_, ?_, fun j hj hj8 => ?_, fun j hj hj8 => ?_, fun j hj hj8 => ?_⟩
      · rw [e1 2 (by omega)]; exact d1
      · rw [e1 6 (by omega)]; exact d2
      · rw [e2 1 (by decide) (by decide)]; exact d3
      · rw [e2 0 (by decide) (by decide)]; exact d4
      · rw [e2 6 (by decide) (by decide)]; exact d5
      · rw [e2 6 (by decide) (by decide)]; exact d6
      · rw [e2 2 (by decide) (by decide)]; exact d7
      · rw [e2 3 (by decide) (by decide)]; exact d8
      · rw [e2 4 (by decide) (by decide)]; exact d9
      · rw [e2 5 (by decide) (by decide)]; exact d10
      · rw [e2 5 (by decide) (by decide)]; exact d11
      · rw [e2 5 (by decide) (by decide)]; exact d12
      · rw [e2 8 (by decide) (by decide)]; exact d13
      · rw [e1 19 (by omega), e1 20 (by omega), e1 21 (by omega)]; exact d14
      · rw [g11 j]; rw [f8 j] at hj8
        by_cases z : j = p
        · rw [if_pos z]; exact ⟨x.nn, by omega, rfl⟩
        · rw [if_neg z] at hj8 ⊢; exact d15 j hj hj8
      · rw [f9 j, f10 j, f11 j]; rw [f8 j] at hj8
        by_cases z : j = p
        · rw [if_pos z, if_pos z, if_pos z]; omega
        · rw [if_neg z] at hj8 ⊢; rw [if_neg z, if_neg z]; exact d16 j hj hj8
      · rw [g10 j]; rw [f8 j] at hj8
        by_cases z : j = p
        · rw [if_pos z]; exact d10
        · rw [if_neg z] at hj8 ⊢; exact d17 j hj hj8
    have hlt : ∀ j, j < 16 → H.1 8 j = 1 → H.2.1 11 j ≠ nI x.nn := fun j hj hj8 z => by
      obtain ⟨n, n1, n2⟩ := c11.1 j hj hj8
      rw [n2] at z
      have := (nI_eq (by omega) (by omega)).mp z
      omega
    have hds : tDs G := fun i j hi hj a b c => by
      rw [g11 i, g11 j] at c
      rw [f8 i] at a
      rw [f8 j] at b
      by_cases z : i = p
      · by_cases y : j = p
        · rw [z, y]
        · rw [if_pos z, if_neg y] at c; rw [if_neg y] at b; exact absurd c.symm (hlt j hj b)
      · rw [if_neg z] at a c
        by_cases y : j = p
        · rw [if_pos y] at c; exact absurd c (hlt i hi a)
        · rw [if_neg y] at b c; exact h5 i j hi hj a b c
    have hA : KA (DG (gkl [(12, p), (11, v)]) D G 2) G := by
      refine KA_tk (p := p) (l := [(12, p), (11, v)]) h6 ha (al_c (kxt_n (Nat.le_refl _)) (al_c (kxt_n (show 11 ≤ 12 by omega)) al_n)) List.mem_cons_self e1 (fun f hf => e2 f (by omega) (by omega)) (fun j hj => ?_)
      rw [f8 j, f9 j, f10 j, f11 j, g10 j, g11 j, if_neg hj, if_neg hj, if_neg hj, if_neg hj, if_neg hj, if_neg hj]
      exact ⟨rfl, rfl, rfl, rfl, rfl, rfl⟩
    have hJ := Jd_DG (l := [(12, p), (11, v)]) h1 hKB hds hA (al_c (show 8 ≤ 12 ∧ 12 ≤ 12 by omega) (al_c (show 8 ≤ 11 ∧ 11 ≤ 12 by omega) al_n)) ha
    refine ⟨hJ, hKB, by rw [e1 0 (by omega), e1 1 (by omega)]; exact h3, by rw [e1 4 (by omega), e1 5 (by omega)]; exact h4, hds, hA, ⟨⟨tm, t1, by rw [e2 5 (by decide) (by decide)]; exact t2, t3⟩, c2, by rw [e2 5 (by decide) (by decide)]; exact c3, c4, c5, c6, fun t ht i a b => ?_, c8, c9, c10, fun j hj hj8 => ?_, fun j hj hj8 => ?_, fun t ht i a b => ?_⟩, ?_⟩
    · obtain ⟨y1, y2⟩ := c7 t ht i a b
      refine ⟨y1, ?_⟩
      show G.1 8 (x.tp t i) = 1
      rw [f8]; split
      · rfl
      · exact y2
    · rw [g11 j]; rw [f8 j] at hj8
      by_cases z : j = p
      · rw [if_pos z]; exact ⟨x.nn, by show x.nn < x.nn + 1; omega, rfl⟩
      · rw [if_neg z] at hj8 ⊢
        obtain ⟨n, n1, n2⟩ := c11.1 j hj hj8
        exact ⟨n, by show n < x.nn + 1; omega, n2⟩
    · rw [f8 j] at hj8
      show up x.wk p (-1) j = -1 ∨ ∃ u, u < 2 ∧ up x.wk p (-1) j = nI u
      rw [up_d]
      by_cases z : j = p
      · rw [if_pos z]; exact Or.inl rfl
      · rw [if_neg z] at hj8 ⊢; exact c11.2.1 j hj hj8
    · have ne : x.tp t i ≠ p := fun z => by
        have y := (c7 t ht i a b).2
        rw [z, hz] at y; cases y
      show up x.wk p (-1) (x.tp t i) = nI t
      rw [up_d, if_neg ne]
      exact c11.2.2 t ht i a b
    · show x.nn + 1 + slW G ≤ _
      omega
  · have eH : wfH v H x = kS H 7 v 1 := if_neg w
    have eX : wfX H x = x := if_neg w
    have eK : wfK v H = [(11, v)] := if_neg w
    rw [eK] at ha
    rw [eH, eX, eK]
    have s1 := sl1 (kS H 7 v 1) rfl
    have hKB : KB q (kS H 7 v 1) := h2
    have hA : KA (DG (gkl [(11, v)]) D (kS H 7 v 1) 1) (kS H 7 v 1) := KA_pb (l := [(11, v)]) h6 ha (al_c (kxt_n (show 11 ≤ 12 by omega)) al_n) (fun f hf => kS_1 f hf) (fun _ _ => rfl)
    have hJ := Jd_DG (l := [(11, v)]) h1 hKB h5 hA (al_c (show 8 ≤ 11 ∧ 11 ≤ 12 by omega) al_n) ha
    exact ⟨hJ, hKB, h3, h4, h5, hA, ⟨⟨tm, t1, t2, t3⟩, c2, c3, c4, c5, c6, c7, c8, c9, c10, c11⟩, by omega⟩
end Cl
